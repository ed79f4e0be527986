section
-- ===== PART A: goes FIRST, ahead of the names: the tables' words, and 'selects' of the private methods out of them =====
/-- a private method of a class that the tables say can be made, by its rows of tables_1 -/
def lw_okq (q : MethodName × Nat) : Prop := (q.1.cls ≠ "java/lang/invoke/MethodHandle" ∧ q.1.cls ≠ "java/lang/invoke/VarHandle") ∧ Cond.instantiable q.1.cls q.2 ∈ tables_1 ∧ Cond.privateMethod q.1 ∈ tables_1 ∧ Cond.instanceMethod q.1 ∈ tables_1
theorem lw_p0 : lw_okq (⟨"Icehighway", "kilosMissing", "(I)I"⟩, 9) := ⟨⟨by decide +kernel, by decide +kernel⟩, List.mem_of_getElem? (i := 22) (by decide +kernel), List.mem_of_getElem? (i := 94) (by decide +kernel), List.mem_of_getElem? (i := 95) (by decide +kernel)⟩
theorem lw_p1 : lw_okq (⟨"java/lang/Throwable", "fillInStackTrace", "(I)Ljava/lang/Throwable;"⟩, 6) := ⟨⟨by decide +kernel, by decide +kernel⟩, List.mem_of_getElem? (i := 151) (by decide +kernel), List.mem_of_getElem? (i := 149) (by decide +kernel), List.mem_of_getElem? (i := 150) (by decide +kernel)⟩
theorem lw_p2 : lw_okq (⟨"java/util/ArrayList", "add", "(Ljava/lang/Object;[Ljava/lang/Object;I)V"⟩, 3) := ⟨⟨by decide +kernel, by decide +kernel⟩, List.mem_of_getElem? (i := 30) (by decide +kernel), List.mem_of_getElem? (i := 293) (by decide +kernel), List.mem_of_getElem? (i := 294) (by decide +kernel)⟩
theorem lw_p3 : lw_okq (⟨"java/util/ArrayList", "grow", "()[Ljava/lang/Object;"⟩, 3) := ⟨⟨by decide +kernel, by decide +kernel⟩, List.mem_of_getElem? (i := 30) (by decide +kernel), List.mem_of_getElem? (i := 297) (by decide +kernel), List.mem_of_getElem? (i := 298) (by decide +kernel)⟩
theorem lw_p4 : lw_okq (⟨"java/util/ArrayList", "grow", "(I)[Ljava/lang/Object;"⟩, 3) := ⟨⟨by decide +kernel, by decide +kernel⟩, List.mem_of_getElem? (i := 30) (by decide +kernel), List.mem_of_getElem? (i := 301) (by decide +kernel), List.mem_of_getElem? (i := 302) (by decide +kernel)⟩
theorem lw_p5 : lw_okq (⟨"Icehighway", "pieceNumbered", "(I)LIcehighway$Piece;"⟩, 9) := ⟨⟨by decide +kernel, by decide +kernel⟩, List.mem_of_getElem? (i := 22) (by decide +kernel), List.mem_of_getElem? (i := 384) (by decide +kernel), List.mem_of_getElem? (i := 385) (by decide +kernel)⟩
theorem lw_p6 : lw_okq (⟨"Icehighway", "vehicleNumbered", "(I)LIcehighway$Vehicle;"⟩, 9) := ⟨⟨by decide +kernel, by decide +kernel⟩, List.mem_of_getElem? (i := 22) (by decide +kernel), List.mem_of_getElem? (i := 509) (by decide +kernel), List.mem_of_getElem? (i := 510) (by decide +kernel)⟩
theorem lw_p7 : lw_okq (⟨"Icehighway", "stopAtEnd", "(LIcehighway$Vehicle;)V"⟩, 9) := ⟨⟨by decide +kernel, by decide +kernel⟩, List.mem_of_getElem? (i := 22) (by decide +kernel), List.mem_of_getElem? (i := 559) (by decide +kernel), List.mem_of_getElem? (i := 560) (by decide +kernel)⟩
theorem lw_p8 : lw_okq (⟨"Icehighway", "unload", "(LIcehighway$Vehicle;)V"⟩, 9) := ⟨⟨by decide +kernel, by decide +kernel⟩, List.mem_of_getElem? (i := 22) (by decide +kernel), List.mem_of_getElem? (i := 563) (by decide +kernel), List.mem_of_getElem? (i := 564) (by decide +kernel)⟩
theorem lw_p9 : lw_okq (⟨"Icehighway", "passOneMinute", "()V"⟩, 9) := ⟨⟨by decide +kernel, by decide +kernel⟩, List.mem_of_getElem? (i := 22) (by decide +kernel), List.mem_of_getElem? (i := 586) (by decide +kernel), List.mem_of_getElem? (i := 587) (by decide +kernel)⟩
theorem lw_p10 : lw_okq (⟨"Icehighway", "endDay", "()V"⟩, 9) := ⟨⟨by decide +kernel, by decide +kernel⟩, List.mem_of_getElem? (i := 22) (by decide +kernel), List.mem_of_getElem? (i := 590) (by decide +kernel), List.mem_of_getElem? (i := 591) (by decide +kernel)⟩
theorem lw_p11 : lw_okq (⟨"Icehighway$Piece", "growth", "(I)I"⟩, 16) := ⟨⟨by decide +kernel, by decide +kernel⟩, List.mem_of_getElem? (i := 216) (by decide +kernel), List.mem_of_getElem? (i := 599) (by decide +kernel), List.mem_of_getElem? (i := 600) (by decide +kernel)⟩
theorem lw_p12 : lw_okq (⟨"Icehighway", "moveOn", "(LIcehighway$Vehicle;)V"⟩, 9) := ⟨⟨by decide +kernel, by decide +kernel⟩, List.mem_of_getElem? (i := 22) (by decide +kernel), List.mem_of_getElem? (i := 608) (by decide +kernel), List.mem_of_getElem? (i := 609) (by decide +kernel)⟩
theorem lw_p13 : lw_okq (⟨"Icehighway", "leave", "(LIcehighway$Vehicle;)V"⟩, 9) := ⟨⟨by decide +kernel, by decide +kernel⟩, List.mem_of_getElem? (i := 22) (by decide +kernel), List.mem_of_getElem? (i := 612) (by decide +kernel), List.mem_of_getElem? (i := 613) (by decide +kernel)⟩
theorem lw_p14 : lw_okq (⟨"Icehighway", "whatIsAgainst", "(LIcehighway$Vehicle;)I"⟩, 9) := ⟨⟨by decide +kernel, by decide +kernel⟩, List.mem_of_getElem? (i := 22) (by decide +kernel), List.mem_of_getElem? (i := 622) (by decide +kernel), List.mem_of_getElem? (i := 623) (by decide +kernel)⟩
theorem lw_p15 : lw_okq (⟨"Icehighway", "pieceAhead", "(LIcehighway$Vehicle;)LIcehighway$Piece;"⟩, 9) := ⟨⟨by decide +kernel, by decide +kernel⟩, List.mem_of_getElem? (i := 22) (by decide +kernel), List.mem_of_getElem? (i := 626) (by decide +kernel), List.mem_of_getElem? (i := 627) (by decide +kernel)⟩
def lw_privs_1 : List (MethodName × Nat) := [(⟨"Icehighway", "kilosMissing", "(I)I"⟩, 9), (⟨"java/lang/Throwable", "fillInStackTrace", "(I)Ljava/lang/Throwable;"⟩, 6), (⟨"java/util/ArrayList", "add", "(Ljava/lang/Object;[Ljava/lang/Object;I)V"⟩, 3), (⟨"java/util/ArrayList", "grow", "()[Ljava/lang/Object;"⟩, 3), (⟨"java/util/ArrayList", "grow", "(I)[Ljava/lang/Object;"⟩, 3), (⟨"Icehighway", "pieceNumbered", "(I)LIcehighway$Piece;"⟩, 9), (⟨"Icehighway", "vehicleNumbered", "(I)LIcehighway$Vehicle;"⟩, 9), (⟨"Icehighway", "stopAtEnd", "(LIcehighway$Vehicle;)V"⟩, 9), (⟨"Icehighway", "unload", "(LIcehighway$Vehicle;)V"⟩, 9), (⟨"Icehighway", "passOneMinute", "()V"⟩, 9), (⟨"Icehighway", "endDay", "()V"⟩, 9), (⟨"Icehighway$Piece", "growth", "(I)I"⟩, 16), (⟨"Icehighway", "moveOn", "(LIcehighway$Vehicle;)V"⟩, 9), (⟨"Icehighway", "leave", "(LIcehighway$Vehicle;)V"⟩, 9), (⟨"Icehighway", "whatIsAgainst", "(LIcehighway$Vehicle;)I"⟩, 9), (⟨"Icehighway", "pieceAhead", "(LIcehighway$Vehicle;)LIcehighway$Piece;"⟩, 9)]
theorem lw_r1 : ∀ q ∈ lw_privs_1, lw_okq q := List.forall_mem_cons.mpr ⟨lw_p0, List.forall_mem_cons.mpr ⟨lw_p1, List.forall_mem_cons.mpr ⟨lw_p2, List.forall_mem_cons.mpr ⟨lw_p3, List.forall_mem_cons.mpr ⟨lw_p4, List.forall_mem_cons.mpr ⟨lw_p5, List.forall_mem_cons.mpr ⟨lw_p6, List.forall_mem_cons.mpr ⟨lw_p7, List.forall_mem_cons.mpr ⟨lw_p8, List.forall_mem_cons.mpr ⟨lw_p9, List.forall_mem_cons.mpr ⟨lw_p10, List.forall_mem_cons.mpr ⟨lw_p11, List.forall_mem_cons.mpr ⟨lw_p12, List.forall_mem_cons.mpr ⟨lw_p13, List.forall_mem_cons.mpr ⟨lw_p14, List.forall_mem_cons.mpr ⟨lw_p15, fun _ h => absurd h List.not_mem_nil⟩⟩⟩⟩⟩⟩⟩⟩⟩⟩⟩⟩⟩⟩⟩⟩
theorem lw_p16 : lw_okq (⟨"Icehighway", "comeOnto", "(LIcehighway$Vehicle;)V"⟩, 9) := ⟨⟨by decide +kernel, by decide +kernel⟩, List.mem_of_getElem? (i := 22) (by decide +kernel), List.mem_of_getElem? (i := 650) (by decide +kernel), List.mem_of_getElem? (i := 651) (by decide +kernel)⟩
theorem lw_p17 : lw_okq (⟨"Icehighway", "kilosInVehicles", "(IZ)I"⟩, 9) := ⟨⟨by decide +kernel, by decide +kernel⟩, List.mem_of_getElem? (i := 22) (by decide +kernel), List.mem_of_getElem? (i := 741) (by decide +kernel), List.mem_of_getElem? (i := 742) (by decide +kernel)⟩
theorem lw_p18 : lw_okq (⟨"IcehighwayModel", "fails", "(I)Z"⟩, 30) := ⟨⟨by decide +kernel, by decide +kernel⟩, List.mem_of_getElem? (i := 752) (by decide +kernel), List.mem_of_getElem? (i := 862) (by decide +kernel), List.mem_of_getElem? (i := 863) (by decide +kernel)⟩
theorem lw_p19 : lw_okq (⟨"IcehighwayModel", "isPiece", "(I)Z"⟩, 30) := ⟨⟨by decide +kernel, by decide +kernel⟩, List.mem_of_getElem? (i := 752) (by decide +kernel), List.mem_of_getElem? (i := 879) (by decide +kernel), List.mem_of_getElem? (i := 880) (by decide +kernel)⟩
theorem lw_p20 : lw_okq (⟨"IcehighwayModel", "isWater", "(I)Z"⟩, 30) := ⟨⟨by decide +kernel, by decide +kernel⟩, List.mem_of_getElem? (i := 752) (by decide +kernel), List.mem_of_getElem? (i := 887) (by decide +kernel), List.mem_of_getElem? (i := 888) (by decide +kernel)⟩
theorem lw_p21 : lw_okq (⟨"IcehighwayModel", "thick", "(I)D"⟩, 30) := ⟨⟨by decide +kernel, by decide +kernel⟩, List.mem_of_getElem? (i := 752) (by decide +kernel), List.mem_of_getElem? (i := 895) (by decide +kernel), List.mem_of_getElem? (i := 896) (by decide +kernel)⟩
theorem lw_p22 : lw_okq (⟨"IcehighwayModel", "isVehicle", "(I)Z"⟩, 30) := ⟨⟨by decide +kernel, by decide +kernel⟩, List.mem_of_getElem? (i := 752) (by decide +kernel), List.mem_of_getElem? (i := 922) (by decide +kernel), List.mem_of_getElem? (i := 923) (by decide +kernel)⟩
theorem lw_p23 : lw_okq (⟨"IcehighwayModel", "weight", "(I)I"⟩, 30) := ⟨⟨by decide +kernel, by decide +kernel⟩, List.mem_of_getElem? (i := 752) (by decide +kernel), List.mem_of_getElem? (i := 929) (by decide +kernel), List.mem_of_getElem? (i := 930) (by decide +kernel)⟩
theorem lw_p24 : lw_okq (⟨"IcehighwayModel", "isThere", "(I)Z"⟩, 30) := ⟨⟨by decide +kernel, by decide +kernel⟩, List.mem_of_getElem? (i := 752) (by decide +kernel), List.mem_of_getElem? (i := 941) (by decide +kernel), List.mem_of_getElem? (i := 942) (by decide +kernel)⟩
theorem lw_p25 : lw_okq (⟨"IcehighwayModel", "arrives", "(I)V"⟩, 30) := ⟨⟨by decide +kernel, by decide +kernel⟩, List.mem_of_getElem? (i := 752) (by decide +kernel), List.mem_of_getElem? (i := 945) (by decide +kernel), List.mem_of_getElem? (i := 946) (by decide +kernel)⟩
theorem lw_p26 : lw_okq (⟨"IcehighwayModel", "unloads", "(IZ)V"⟩, 30) := ⟨⟨by decide +kernel, by decide +kernel⟩, List.mem_of_getElem? (i := 752) (by decide +kernel), List.mem_of_getElem? (i := 949) (by decide +kernel), List.mem_of_getElem? (i := 950) (by decide +kernel)⟩
theorem lw_p27 : lw_okq (⟨"IcehighwayModel", "passes", "()V"⟩, 30) := ⟨⟨by decide +kernel, by decide +kernel⟩, List.mem_of_getElem? (i := 752) (by decide +kernel), List.mem_of_getElem? (i := 964) (by decide +kernel), List.mem_of_getElem? (i := 965) (by decide +kernel)⟩
theorem lw_p28 : lw_okq (⟨"IcehighwayModel", "ends", "()V"⟩, 30) := ⟨⟨by decide +kernel, by decide +kernel⟩, List.mem_of_getElem? (i := 752) (by decide +kernel), List.mem_of_getElem? (i := 968) (by decide +kernel), List.mem_of_getElem? (i := 969) (by decide +kernel)⟩
theorem lw_p29 : lw_okq (⟨"IcehighwayModel", "freezes", "(I)V"⟩, 30) := ⟨⟨by decide +kernel, by decide +kernel⟩, List.mem_of_getElem? (i := 752) (by decide +kernel), List.mem_of_getElem? (i := 972) (by decide +kernel), List.mem_of_getElem? (i := 973) (by decide +kernel)⟩
theorem lw_p30 : lw_okq (⟨"IcehighwayModel", "thaws", "(I)V"⟩, 30) := ⟨⟨by decide +kernel, by decide +kernel⟩, List.mem_of_getElem? (i := 752) (by decide +kernel), List.mem_of_getElem? (i := 976) (by decide +kernel), List.mem_of_getElem? (i := 977) (by decide +kernel)⟩
theorem lw_p31 : lw_okq (⟨"IcehighwayModel", "leaves", "(I)V"⟩, 30) := ⟨⟨by decide +kernel, by decide +kernel⟩, List.mem_of_getElem? (i := 752) (by decide +kernel), List.mem_of_getElem? (i := 980) (by decide +kernel), List.mem_of_getElem? (i := 981) (by decide +kernel)⟩
def lw_privs_2 : List (MethodName × Nat) := [(⟨"Icehighway", "comeOnto", "(LIcehighway$Vehicle;)V"⟩, 9), (⟨"Icehighway", "kilosInVehicles", "(IZ)I"⟩, 9), (⟨"IcehighwayModel", "fails", "(I)Z"⟩, 30), (⟨"IcehighwayModel", "isPiece", "(I)Z"⟩, 30), (⟨"IcehighwayModel", "isWater", "(I)Z"⟩, 30), (⟨"IcehighwayModel", "thick", "(I)D"⟩, 30), (⟨"IcehighwayModel", "isVehicle", "(I)Z"⟩, 30), (⟨"IcehighwayModel", "weight", "(I)I"⟩, 30), (⟨"IcehighwayModel", "isThere", "(I)Z"⟩, 30), (⟨"IcehighwayModel", "arrives", "(I)V"⟩, 30), (⟨"IcehighwayModel", "unloads", "(IZ)V"⟩, 30), (⟨"IcehighwayModel", "passes", "()V"⟩, 30), (⟨"IcehighwayModel", "ends", "()V"⟩, 30), (⟨"IcehighwayModel", "freezes", "(I)V"⟩, 30), (⟨"IcehighwayModel", "thaws", "(I)V"⟩, 30), (⟨"IcehighwayModel", "leaves", "(I)V"⟩, 30)]
theorem lw_r2 : ∀ q ∈ lw_privs_2, lw_okq q := List.forall_mem_cons.mpr ⟨lw_p16, List.forall_mem_cons.mpr ⟨lw_p17, List.forall_mem_cons.mpr ⟨lw_p18, List.forall_mem_cons.mpr ⟨lw_p19, List.forall_mem_cons.mpr ⟨lw_p20, List.forall_mem_cons.mpr ⟨lw_p21, List.forall_mem_cons.mpr ⟨lw_p22, List.forall_mem_cons.mpr ⟨lw_p23, List.forall_mem_cons.mpr ⟨lw_p24, List.forall_mem_cons.mpr ⟨lw_p25, List.forall_mem_cons.mpr ⟨lw_p26, List.forall_mem_cons.mpr ⟨lw_p27, List.forall_mem_cons.mpr ⟨lw_p28, List.forall_mem_cons.mpr ⟨lw_p29, List.forall_mem_cons.mpr ⟨lw_p30, List.forall_mem_cons.mpr ⟨lw_p31, fun _ h => absurd h List.not_mem_nil⟩⟩⟩⟩⟩⟩⟩⟩⟩⟩⟩⟩⟩⟩⟩⟩
theorem lw_p32 : lw_okq (⟨"IcehighwayModel", "against", "(I)I"⟩, 30) := ⟨⟨by decide +kernel, by decide +kernel⟩, List.mem_of_getElem? (i := 752) (by decide +kernel), List.mem_of_getElem? (i := 984) (by decide +kernel), List.mem_of_getElem? (i := 985) (by decide +kernel)⟩
theorem lw_p33 : lw_okq (⟨"IcehighwayModel", "nextPiece", "(I)I"⟩, 30) := ⟨⟨by decide +kernel, by decide +kernel⟩, List.mem_of_getElem? (i := 752) (by decide +kernel), List.mem_of_getElem? (i := 988) (by decide +kernel), List.mem_of_getElem? (i := 989) (by decide +kernel)⟩
theorem lw_p34 : lw_okq (⟨"IcehighwayModel", "isMet", "(II)Z"⟩, 30) := ⟨⟨by decide +kernel, by decide +kernel⟩, List.mem_of_getElem? (i := 752) (by decide +kernel), List.mem_of_getElem? (i := 992) (by decide +kernel), List.mem_of_getElem? (i := 993) (by decide +kernel)⟩
theorem lw_p35 : lw_okq (⟨"IcehighwayModel", "weights", "(I)I"⟩, 30) := ⟨⟨by decide +kernel, by decide +kernel⟩, List.mem_of_getElem? (i := 752) (by decide +kernel), List.mem_of_getElem? (i := 996) (by decide +kernel), List.mem_of_getElem? (i := 997) (by decide +kernel)⟩
theorem lw_p36 : lw_okq (⟨"IcehighwayModel", "bearsBy", "(ID)I"⟩, 30) := ⟨⟨by decide +kernel, by decide +kernel⟩, List.mem_of_getElem? (i := 752) (by decide +kernel), List.mem_of_getElem? (i := 1000) (by decide +kernel), List.mem_of_getElem? (i := 1001) (by decide +kernel)⟩
theorem lw_p37 : lw_okq (⟨"IcehighwayModel", "comes", "(I)V"⟩, 30) := ⟨⟨by decide +kernel, by decide +kernel⟩, List.mem_of_getElem? (i := 752) (by decide +kernel), List.mem_of_getElem? (i := 1006) (by decide +kernel), List.mem_of_getElem? (i := 1007) (by decide +kernel)⟩
theorem lw_p38 : lw_okq (⟨"IcehighwayModel", "minutesOn", "(II)I"⟩, 30) := ⟨⟨by decide +kernel, by decide +kernel⟩, List.mem_of_getElem? (i := 752) (by decide +kernel), List.mem_of_getElem? (i := 1010) (by decide +kernel), List.mem_of_getElem? (i := 1011) (by decide +kernel)⟩
theorem lw_p39 : lw_okq (⟨"IcehighwayModel", "speedOn", "(II)I"⟩, 30) := ⟨⟨by decide +kernel, by decide +kernel⟩, List.mem_of_getElem? (i := 752) (by decide +kernel), List.mem_of_getElem? (i := 1014) (by decide +kernel), List.mem_of_getElem? (i := 1015) (by decide +kernel)⟩
theorem lw_p40 : lw_okq (⟨"IcehighwayModel", "many", "(I)I"⟩, 30) := ⟨⟨by decide +kernel, by decide +kernel⟩, List.mem_of_getElem? (i := 752) (by decide +kernel), List.mem_of_getElem? (i := 1028) (by decide +kernel), List.mem_of_getElem? (i := 1029) (by decide +kernel)⟩
theorem lw_p41 : lw_okq (⟨"IcehighwayModel", "missing", "(I)I"⟩, 30) := ⟨⟨by decide +kernel, by decide +kernel⟩, List.mem_of_getElem? (i := 752) (by decide +kernel), List.mem_of_getElem? (i := 1065) (by decide +kernel), List.mem_of_getElem? (i := 1066) (by decide +kernel)⟩
theorem lw_p42 : lw_okq (⟨"IcehighwayModel", "carried", "(IZ)I"⟩, 30) := ⟨⟨by decide +kernel, by decide +kernel⟩, List.mem_of_getElem? (i := 752) (by decide +kernel), List.mem_of_getElem? (i := 1069) (by decide +kernel), List.mem_of_getElem? (i := 1070) (by decide +kernel)⟩
def lw_privs_3 : List (MethodName × Nat) := [(⟨"IcehighwayModel", "against", "(I)I"⟩, 30), (⟨"IcehighwayModel", "nextPiece", "(I)I"⟩, 30), (⟨"IcehighwayModel", "isMet", "(II)Z"⟩, 30), (⟨"IcehighwayModel", "weights", "(I)I"⟩, 30), (⟨"IcehighwayModel", "bearsBy", "(ID)I"⟩, 30), (⟨"IcehighwayModel", "comes", "(I)V"⟩, 30), (⟨"IcehighwayModel", "minutesOn", "(II)I"⟩, 30), (⟨"IcehighwayModel", "speedOn", "(II)I"⟩, 30), (⟨"IcehighwayModel", "many", "(I)I"⟩, 30), (⟨"IcehighwayModel", "missing", "(I)I"⟩, 30), (⟨"IcehighwayModel", "carried", "(IZ)I"⟩, 30)]
theorem lw_r3 : ∀ q ∈ lw_privs_3, lw_okq q := List.forall_mem_cons.mpr ⟨lw_p32, List.forall_mem_cons.mpr ⟨lw_p33, List.forall_mem_cons.mpr ⟨lw_p34, List.forall_mem_cons.mpr ⟨lw_p35, List.forall_mem_cons.mpr ⟨lw_p36, List.forall_mem_cons.mpr ⟨lw_p37, List.forall_mem_cons.mpr ⟨lw_p38, List.forall_mem_cons.mpr ⟨lw_p39, List.forall_mem_cons.mpr ⟨lw_p40, List.forall_mem_cons.mpr ⟨lw_p41, List.forall_mem_cons.mpr ⟨lw_p42, fun _ h => absurd h List.not_mem_nil⟩⟩⟩⟩⟩⟩⟩⟩⟩⟩⟩
def lw_privs : List (MethodName × Nat) := lw_privs_1 ++ (lw_privs_2 ++ (lw_privs_3))
def lw_tbl : List Cond := k2_sels lw_privs ++ tables_1
theorem lw_privs_ok : ∀ q ∈ lw_privs, lw_okq q := by
  show ∀ q ∈ lw_privs_1 ++ (lw_privs_2 ++ (lw_privs_3)), lw_okq q
  exact List.forall_mem_append.mpr ⟨lw_r1, List.forall_mem_append.mpr ⟨lw_r2, lw_r3⟩⟩
/-- the streams that the claim lets the run draw from -/
abbrev lw_cs : List Choice := [Jvm.Choice.named "NaN.bits"]
theorem lw_bits : nanBits ∈ lw_cs := by first | decide | exact List.mem_cons_self | simp [lw_cs, nanBits]
end
section
/-! ===== BEGIN words of one list among another's, by their places ===== -/
theorem goodIn_r {big : List Cond} (ws : List Cond) (ps : List Nat) (hp : ws = ps.filterMap (fun i => big[i]?)) (h : ws.all goodWord = true) : GoodIn big ws := by
  intro w hw
  have h1 := List.all_eq_true.mp h w hw
  rw [hp] at hw
  obtain ⟨i, -, hi⟩ := List.mem_filterMap.mp hw
  have hm : w ∈ big := by first | exact List.mem_of_getElem? hi | exact List.getElem?_mem hi
  exact ⟨hm, good_of_word h1⟩
theorem goodIn_app {big a b : List Cond} (ha : GoodIn big a) (hb : GoodIn big b) : GoodIn big (a ++ b) := fun w h => (List.mem_append.mp h).elim (ha w) (hb w)
theorem goodIn_ca {big a b : List Cond} {c : Cond} (ha : GoodIn big (c :: a)) (hb : GoodIn big b) : GoodIn big (c :: (a ++ b)) := fun w h => (List.mem_cons.mp h).elim (fun e => ha w (List.mem_cons.mpr (Or.inl e))) (fun h => (List.mem_append.mp h).elim (fun h => ha w (List.mem_cons.mpr (Or.inr h))) (hb w))
theorem goodIn_sub {big ws : List Cond} (hm : ∀ w ∈ ws, w ∈ big) (h : ws.all goodWord = true) : GoodIn big ws := fun w hw => ⟨hm w hw, good_of_word (List.all_eq_true.mp h w hw)⟩
/-! ===== END ===== -/

/-! ===== BEGIN exceptions that leave a method, and their catching by the caller (launches without stack traces) ===== -/
section VXA
/-! The laws vx_back, vx_callV, vx_callS, vx_callSW, vx_throw0, vx_throwS follow proofs of the library, with one case more: JvmDerived/Free/Laws.lean (Back.of_free), Shelf42/LK1.lean (callV, callS), Shelf/KitTraced.lean (throwNew0V, throwNewS). -/
/-- where a method has thrown q: the class by its name, the cell, what was written, the world -/
def vx_T (XC : String → State → State → Prop) (st : State) (q : Addr) (t : State) (mc ms : Nat) (free : Addr → Prop) : Prop :=
  ∃ (E : String) (ce : Cell) (L : List Loc), XC E st t ∧ t.heap[q]? = some ce ∧ ce.vm = .none ∧ st.vm.findClass E = some ce.cls ∧ st.WarmedH t.vm ∧ st.sameButNew ({ t with vm := st.vm } : State) L mc ms ∧ ∀ z ∈ L, free z.base
def vx_Q (Qc : Array Value → State → Outcome → State → Prop) (XC : String → State → State → Prop) (mc ms : Nat) (free : Addr → Prop) : Array Value → State → Outcome → State → Prop := fun a st o t =>
  (Qc a st o t ∧ ∃ L, FrameEnd st o t L mc ms ∧ ∀ q ∈ L, free q.base) ∨ ∃ q, o = .threw q ∧ vx_T XC st q t mc ms free
/-- a callee that returns or throws -/
def vx_Met (l : Launch) (y : MethodName) (ws : List Cond) (rm : Room) (Pc : Array Value → State → Prop) (Qc : Array Value → State → Outcome → State → Prop) (XC : String → State → State → Prop) (mc ms : Nat) (free : Addr → Prop) : Prop :=
  MetFree l y (headSpec ws rm) Pc (fun _ _ _ _ _ => True) (vx_Q Qc XC mc ms free)
def vx_Post (XC : String → State → State → Prop) (mc ms : Nat) (free : Addr → Prop) : Pt → Array Value → Addr → Pt → Prop := fun A a q B =>
  ∃ (g : JFrame) (mk : MethodId) (t : State) (L : List Loc) (E : String) (ce : Cell), B.U.heap = t.heap ∧ B.U.vm = t.vm ∧ XC E (A.U.calling g mk a) t ∧ t.heap[q]? = some ce ∧ ce.vm = .none ∧ A.U.vm.findClass E = some ce.cls ∧ B.locs = A.locs ++ L ∧ (∀ z ∈ L, free z.base) ∧ B.cells = A.cells + mc ∧ B.slots = A.slots + ms
def vx_Back (l : Launch) (R : Room) (p : Program) (e : Env) (below : List Frame) (s : State) (sargs : Array Value) (y : MethodName) (len W9 : Nat)
    (Pre : Pt → Array Value → Prop) (Post : Pt → Array Value → Option Value → Pt → Prop) (PostX : Pt → Array Value → Addr → Pt → Prop) : Prop :=
  ∀ (m : MethodId) (meth : Method) (c : Code) (A : Pt) (g : JFrame) (ig : Instr) (mk : MethodId) (a : Array Value),
    Stand p l e R s m sargs below meth c A.U A.locs A.cells A.slots → g.method = m → g.locals.size = c.maxLocals → decode c.code g.pc = .ok (ig, len) →
    2 * g.monitorRoom + (g.stack.map fun v => v.category).sum ≤ W9 → A.U.methodNamed? y = some mk → Pre A a →
    (∃ (v : Option Value) (B : Pt), Stand p l e R s m sargs below meth c B.U B.locs B.cells B.slots ∧ Post A a v B ∧
      Steps p.tables e below (doInvoke e (A.U.setTop g) [] mk a).1 (B.U.setTop { g with pc := g.pc + len, stack := v.toList ++ g.stack })) ∨
    (∃ (q : Addr) (B : Pt), Stand p l e R s m sargs below meth c B.U B.locs B.cells B.slots ∧ PostX A a q B ∧
      Steps p.tables e below (doInvoke e (A.U.setTop g) [] mk a).1 ((B.U.setTop g).pushFrame (.throwing q)))
section Payer
variable {l : Launch} {R : Room} {p : Program} {e : Env} {below : List Frame} {s : State} {sargs : Array Value} {y : MethodName} {len W9 : Nat}
theorem vx_back {ws : List Cond} {rm : Room} {Pc : Array Value → State → Prop} {Qc : Array Value → State → Outcome → State → Prop} {XC : String → State → State → Prop} {mc ms : Nat} {free : Addr → Prop} {bytes : ByteArray} {maxL : Nat} {ret : Option FieldType}
    (hM : vx_Met l y ws rm Pc Qc XC mc ms free) (hblind : FrameBlind Pc) (hrc : rm.cells = mc) (hrs : rm.slots = ms)
    (hframes : rm.frames + 1 ≤ R.frames) (hlocals : W9 + (maxL + 11) + rm.locals ≤ R.locals)
    (hws : ∀ w ∈ ws, ∀ a' U, s.WarmedH U.vm → w.before a' U = true) (hcode : Cond.code y bytes maxL ret ∈ ws) (hinit : ∀ a' U, s.WarmedH U.vm → (Cond.initialized y.cls).before a' U = true) :
    vx_Back l R p e below s sargs y len W9 (PreOf R mc ms Pc) (PostOf Qc mc ms free) (vx_Post XC mc ms free) := by
  intro m meth c A g ig mk a X hg hsize hdg hW hn hp
  have h1 : (headSpec ws rm).pre.before a A.U = true := atoms_intro fun w hw => hws w hw _ _ X.warmed
  have h2 : (Cond.code y bytes maxL ret).before a A.U = true := hws _ hcode _ _ X.warmed
  have h3 : (Cond.initialized y.cls).before a A.U = true := hinit _ _ X.warmed
  have h4 : A.cells + (headSpec ws rm).room.cells ≤ R.cells := by rw [show (headSpec ws rm).room.cells = mc from hrc]; exact hp.1
  have h5 : A.slots + (headSpec ws rm).room.slots ≤ R.slots := by rw [show (headSpec ws rm).room.slots = ms from hrs]; exact hp.2.1
  have hPc : Pc a (A.U.calling g mk a) := hblind _ _ _ _ hp.2.2
  obtain ⟨U, Ls, c0, s0⟩ := A
  dsimp only [Pt.U, Pt.locs, Pt.cells, Pt.slots] at h1 h2 h3 h4 h5 X hn hPc ⊢
  obtain ⟨methY, cY, hmY, hcY, -, hlY, -, -, -, -⟩ := Cond.code_spec hn h2
  obtain ⟨kY, hkY, -⟩ := className_of_methodNamed hn
  have hinitY : kY.init = .initialized := Cond.initialized_spec (findClass_of_methodNamed hn) hkY h3
  have h : At U g.method c below := by rw [hg]; exact X.here
  have hlocals9 : W9 + (maxL + 11) + (headSpec ws rm).room.locals ≤ R.locals := hlocals
  have happ : (headSpec ws rm).appliesLoose y e.platform (U.calling g mk a) = true :=
    Spec.appliesLoose_calling (g := g) h hdg hn hkY hinitY
      (X.room_calling (g := g) (R' := (headSpec ws rm).room) hsize hmY hcY hframes (by rw [hlY]; omega) h4 h5) h1
  obtain ⟨mid, hmid⟩ := h.above
  have hfr : (U.setTop g).frames = (.java g :: mid) ++ below := by rw [State.frames_setTop' g h.top, hmid]; rfl
  obtain ⟨o, s₂, hsteps, -, hend, hq⟩ := Steps.callFree hM p X.admits X.cas X.clock (acts := []) hfr happ hPc trivial
  have hq' : vx_Q Qc XC mc ms free a (U.calling g mk a) o s₂ := hq
  rw [State.frames_setTop' g h.top] at hend
  obtain ⟨g₀, hg0⟩ := Option.isSome_iff_exists.mp h.top
  obtain ⟨r, hr⟩ := State.topJava?_eq_some.mp hg0
  have hr' : (({ U with heap := s₂.heap, slotsUsed := s₂.slotsUsed } : State).setVm s₂.vm).frames = .java g₀ :: r := hr
  rcases hq' with ⟨hqc, L, hfe, hL⟩ | ⟨q, rfl, E, ce, L, hx, hce, hcv, hcl, hW₂, hsm, hL⟩
  · obtain ⟨⟨v, rfl⟩, hW₂, e2, q2, q3, q4, q5, q6⟩ := id hfe
    have e3 : s₂ = ({ (U.calling g mk a).setFrames s₂.frames with heap := s₂.heap, slotsUsed := s₂.slotsUsed } : State).setVm s₂.vm := by
      have : s₂ = ({ s₂ with vm := (U.calling g mk a).vm } : State).setVm s₂.vm := rfl
      rw [e2] at this
      exact this
    obtain ⟨c₂, i₂, len₂, hc₂, hd₂, hf₂⟩ := hend
    have hW' : U.WarmedH s₂.vm := hW₂
    have hcc : c₂ = c := by
      have h1 : s₂.code? g.method = U.code? g.method := by
        rw [State.code?_eq, State.code?_eq, hW'.alike.method?]
      exact Option.some.inj (hc₂.symm.trans (h1.trans h.code))
    subst hcc
    have hlen : len₂ = len := by rw [hdg] at hd₂; cases hd₂; rfl
    subst hlen
    have hs₂ : s₂ = (({ U with heap := s₂.heap, slotsUsed := s₂.slotsUsed } : State).setVm s₂.vm).setTop { g with pc := g.pc + len₂, stack := v.toList ++ g.stack } := by
      refine e3.trans ?_
      rw [hf₂, State.calling_eq h.top, State.setFrames_setFrames, State.setTop_of_frames _ hr', hr]
      rfl
    have hsame : U.sameButNew ({ U with heap := s₂.heap, slotsUsed := s₂.slotsUsed } : State) L mc ms := by
      refine ⟨?_, q2, q3, q4, q5, q6⟩
      obtain ⟨t, ht, -⟩ := State.frames_cons hr
      show ({ U with heap := s₂.heap, slotsUsed := s₂.slotsUsed } : State) = { U.setFrames U.frames with heap := s₂.heap, slotsUsed := s₂.slotsUsed }
      rw [State.setFrames_self ht]
    subst hg
    refine Or.inl ⟨v, ⟨(({ U with heap := s₂.heap, slotsUsed := s₂.slotsUsed } : State).setVm s₂.vm), Ls ++ L, c0 + mc, s0 + ms⟩,
      ⟨X.admits, X.cas, X.clock, X.frames, X.room, X.hears, X.method, X.code, (X.here.setHeapUsed s₂.heap s₂.slotsUsed).setVm hW'.alike, X.tail, State.WarmedH.trans X.warmed hW', X.limits, X.bytes, X.same.trans (hsame.setVm s.vm)⟩,
      ⟨g, mk, s₂, L, rfl, rfl, hqc, rfl, hL, rfl, rfl⟩, ?_⟩
    show Steps p.tables e below _ ((({ U with heap := s₂.heap, slotsUsed := s₂.slotsUsed } : State).setVm s₂.vm).setTop { g with pc := g.pc + len₂, stack := v.toList ++ g.stack })
    rw [← hs₂]
    exact hsteps
  · obtain ⟨e2, q2, q3, q4, q5, q6⟩ := id hsm
    have e3 : s₂ = ({ (U.calling g mk a).setFrames s₂.frames with heap := s₂.heap, slotsUsed := s₂.slotsUsed } : State).setVm s₂.vm := by
      have : s₂ = ({ s₂ with vm := (U.calling g mk a).vm } : State).setVm s₂.vm := rfl
      rw [e2] at this
      exact this
    have hf₂ : s₂.frames = .throwing q :: .java g :: U.frames.tail := hend
    have hW' : U.WarmedH s₂.vm := hW₂
    have hs₂ : s₂ = ((({ U with heap := s₂.heap, slotsUsed := s₂.slotsUsed } : State).setVm s₂.vm).setTop g).pushFrame (.throwing q) := by
      refine e3.trans ?_
      rw [hf₂, State.calling_eq h.top, State.setFrames_setFrames, State.pushFrame, State.frames_setTop _ hr', State.setTop_of_frames _ hr', State.setFrames_setFrames, hr]
      rfl
    have hsame : U.sameButNew ({ U with heap := s₂.heap, slotsUsed := s₂.slotsUsed } : State) L mc ms := by
      refine ⟨?_, q2, q3, q4, q5, q6⟩
      obtain ⟨t, ht, -⟩ := State.frames_cons hr
      show ({ U with heap := s₂.heap, slotsUsed := s₂.slotsUsed } : State) = { U.setFrames U.frames with heap := s₂.heap, slotsUsed := s₂.slotsUsed }
      rw [State.setFrames_self ht]
    subst hg
    refine Or.inr ⟨q, ⟨(({ U with heap := s₂.heap, slotsUsed := s₂.slotsUsed } : State).setVm s₂.vm), Ls ++ L, c0 + mc, s0 + ms⟩,
      ⟨X.admits, X.cas, X.clock, X.frames, X.room, X.hears, X.method, X.code, (X.here.setHeapUsed s₂.heap s₂.slotsUsed).setVm hW'.alike, X.tail, State.WarmedH.trans X.warmed hW', X.limits, X.bytes, X.same.trans (hsame.setVm s.vm)⟩,
      ⟨g, mk, s₂, L, E, ce, rfl, rfl, hx, hce, hcv, hcl, rfl, hL, rfl, rfl⟩, ?_⟩
    show Steps p.tables e below _ (((({ U with heap := s₂.heap, slotsUsed := s₂.slotsUsed } : State).setVm s₂.vm).setTop g).pushFrame (.throwing q))
    rw [← hs₂]
    exact hsteps
end Payer
section Calls
variable {p : Program} {l : Launch} {e : Env} {R : Room} {s : State} {m : MethodId} {args : Array Value} {below : List Frame} {meth : Method} {c : Code} {T : State} {locs : List Loc} {cells slots : Nat}
theorem vx_callV (X : Stand p l e R s m args below meth c T locs cells slots) (hexec : p.tables.exec = Jvm.exec) {own C : String} {index : Nat} {y : MethodName} {bytes : ByteArray} {maxL : Nat} {ret : Option FieldType}
    (hown : s.vm.findClass own = some m.cls) (hlink : (Cond.methodLink own index y).before args s = true) (hinst : (Cond.instanceMethod y).before args s = true) (hsel : (Cond.selects C y y).before args s = true)
    (hcode : (Cond.code y bytes maxL ret).before args s = true) (hy : y.cls ≠ "java/lang/invoke/MethodHandle" ∧ y.cls ≠ "java/lang/invoke/VarHandle")
    {W9 : Nat} {Pre : Pt → Array Value → Prop} {Post : Pt → Array Value → Option Value → Pt → Prop} {PostX : Pt → Array Value → Addr → Pt → Prop} (hK : vx_Back l R p e below s args y 3 W9 Pre Post PostX)
    {b : Addr} {cellB : Cell} (hcell : T.heap[b]? = some cellB) (hobj : cellB.vm.isStatics = false) (hcls : s.vm.findClass C = some cellB.cls)
    {g : JFrame} (hg : g.method = m) (hsize : g.locals.size = c.maxLocals) {argsL rest : List Value} (hlen : ∀ sig, parseMethodDescriptor y.desc = some sig → argsL.length = sig.parameters.length)
    (hstack : g.stack = argsL.reverse ++ .ref b :: rest) (hW : 2 * g.monitorRoom + (rest.map fun v => v.category).sum ≤ W9) (hdg : decode c.code g.pc = .ok (.invokevirtual index, 3))
    (hpre : ∀ vm₁, s.WarmedH vm₁ → Pre ⟨T.setVm vm₁, locs, cells, slots⟩ (Value.ref b :: argsL).toArray) :
    (∃ (v : Option Value) (vm₁ : Vm) (B : Pt), s.WarmedH vm₁ ∧ Stand p l e R s m args below meth c B.U B.locs B.cells B.slots ∧ Post ⟨T.setVm vm₁, locs, cells, slots⟩ (Value.ref b :: argsL).toArray v B ∧
      ∀ target, Steps p.tables e below (B.U.setTop { g with pc := g.pc + 3, stack := v.toList ++ rest }) target → Steps p.tables e below (T.setTop g) target) ∨
    (∃ (q : Addr) (vm₁ : Vm) (B : Pt), s.WarmedH vm₁ ∧ Stand p l e R s m args below meth c B.U B.locs B.cells B.slots ∧ PostX ⟨T.setVm vm₁, locs, cells, slots⟩ (Value.ref b :: argsL).toArray q B ∧
      Steps p.tables e below (T.setTop g) ((B.U.setTop { g with stack := rest }).pushFrame (.throwing q))) := by
  obtain ⟨mk, methM, hnamed, hmethM, hstM, habM⟩ := Cond.instanceMethod_spec hinst
  obtain ⟨methM', cM, hmethM', -, -, -, -, -, -, hsigM⟩ := Cond.code_spec hnamed hcode
  cases hmethM.symm.trans hmethM'
  obtain ⟨c2, r2, m2, q1, q2, q3, q4, kP, hkP, hkPi⟩ := Cond.selects_spec hsel
  cases hcls.symm.trans q1
  cases (State.methodFound?_of_named hnamed hy).symm.trans q2
  cases hnamed.symm.trans q3
  have hselP : selectMethod e.platform s.vm cellB.cls mk = .method mk := by rw [Launch.admits_selectMethod X.admits]; exact q4
  obtain ⟨vm₁, X₁, hstep₁⟩ := X.invokevirtual hexec hown hlink hnamed hmethM hstM hkP hkPi hy (a := b) (cell := cellB) hcell
    (fun z h => by rw [h] at hobj; cases hobj) hselP hmethM habM hkP hkPi (g := g) hg (argsL := argsL) (rest := rest) (hlen _ hsigM) hstack hdg
  rcases hK m meth c ⟨T.setVm vm₁, locs, cells, slots⟩ { g with stack := rest } (.invokevirtual index) mk (Value.ref b :: argsL).toArray X₁ hg hsize hdg hW (X₁.named hnamed) (hpre vm₁ X₁.warmed) with ⟨v, B, X', hpost, hsteps⟩ | ⟨q, B, X', hpost, hsteps⟩
  · exact Or.inl ⟨v, vm₁, B, X₁.warmed, X', hpost, fun target h => hstep₁ _ fun acts => by rw [doInvoke_state]; exact hsteps.trans h⟩
  · exact Or.inr ⟨q, vm₁, B, X₁.warmed, X', hpost, hstep₁ _ fun acts => by rw [doInvoke_state]; exact hsteps⟩
theorem vx_callS (X : Stand p l e R s m args below meth c T locs cells slots) (hexec : p.tables.exec = Jvm.exec) {own : String} {index : Nat} {y : MethodName} {bytes : ByteArray} {maxL : Nat} {ret : Option FieldType}
    (hown : s.vm.findClass own = some m.cls) (hlink : (Cond.methodLink own index y).before args s = true) (hstat : (Cond.static y).before args s = true) (hinit : (Cond.initialized y.cls).before args s = true)
    (hcode : (Cond.code y bytes maxL ret).before args s = true) (hy : y.cls ≠ "java/lang/invoke/MethodHandle" ∧ y.cls ≠ "java/lang/invoke/VarHandle")
    {W9 : Nat} {Pre : Pt → Array Value → Prop} {Post : Pt → Array Value → Option Value → Pt → Prop} {PostX : Pt → Array Value → Addr → Pt → Prop} (hK : vx_Back l R p e below s args y 3 W9 Pre Post PostX)
    {g : JFrame} (hg : g.method = m) (hsize : g.locals.size = c.maxLocals) {argsL rest : List Value} (hlen : ∀ sig, parseMethodDescriptor y.desc = some sig → argsL.length = sig.parameters.length)
    (hstack : g.stack = argsL.reverse ++ rest) (hW : 2 * g.monitorRoom + (rest.map fun v => v.category).sum ≤ W9) (hdg : decode c.code g.pc = .ok (.invokestatic index, 3))
    (hpre : ∀ vm₁, s.WarmedH vm₁ → Pre ⟨T.setVm vm₁, locs, cells, slots⟩ argsL.toArray) :
    (∃ (v : Option Value) (vm₁ : Vm) (B : Pt), s.WarmedH vm₁ ∧ Stand p l e R s m args below meth c B.U B.locs B.cells B.slots ∧ Post ⟨T.setVm vm₁, locs, cells, slots⟩ argsL.toArray v B ∧
      ∀ target, Steps p.tables e below (B.U.setTop { g with pc := g.pc + 3, stack := v.toList ++ rest }) target → Steps p.tables e below (T.setTop g) target) ∨
    (∃ (q : Addr) (vm₁ : Vm) (B : Pt), s.WarmedH vm₁ ∧ Stand p l e R s m args below meth c B.U B.locs B.cells B.slots ∧ PostX ⟨T.setVm vm₁, locs, cells, slots⟩ argsL.toArray q B ∧
      Steps p.tables e below (T.setTop g) ((B.U.setTop { g with stack := rest }).pushFrame (.throwing q))) := by
  obtain ⟨mk, hnamed⟩ := Cond.code_named hcode
  obtain ⟨methM, cM, hmethM, -, -, -, -, -, -, hsigM⟩ := Cond.code_spec hnamed hcode
  have hstatic : methM.isStatic = true := Cond.static_spec hnamed hmethM hstat
  obtain ⟨kP, hkP, -⟩ := className_of_methodNamed hnamed
  have hinitP : kP.init = .initialized := Cond.initialized_spec (findClass_of_methodNamed hnamed) hkP hinit
  obtain ⟨vm₁, X₁, hstep₁⟩ := X.invokestatic hexec hown hlink hnamed hmethM hstatic hkP hinitP hy (g := g) hg (argsL := argsL) (rest := rest) (hlen _ hsigM) hstack hdg
  rcases hK m meth c ⟨T.setVm vm₁, locs, cells, slots⟩ { g with stack := rest } (.invokestatic index) mk argsL.toArray X₁ hg hsize hdg hW (X₁.named hnamed) (hpre vm₁ X₁.warmed) with ⟨v, B, X', hpost, hsteps⟩ | ⟨q, B, X', hpost, hsteps⟩
  · exact Or.inl ⟨v, vm₁, B, X₁.warmed, X', hpost, fun target h => hstep₁ _ fun acts => by rw [doInvoke_state]; exact hsteps.trans h⟩
  · exact Or.inr ⟨q, vm₁, B, X₁.warmed, X', hpost, hstep₁ _ fun acts => by rw [doInvoke_state]; exact hsteps⟩
end Calls
theorem vx_cls {s : State} {T : State} {vm₁ : Vm} {E : String} {k : ClassId} (hW : s.WarmedH vm₁) (h : (T.setVm vm₁).vm.findClass E = some k) : s.vm.findClass E = some k := by
  have h1 : vm₁.findClass E = some k := h
  rw [hW.alike.findClass] at h1
  exact h1
/-- the method's frame g, with q thrown over it -/
def vx_W (p : Program) (l : Launch) (e : Env) (R : Room) (s : State) (m : MethodId) (args : Array Value) (below : List Frame) (meth : Method) (c : Code) (H : Heap) (locs : List Loc) (cells slots : Nat) (Q : State → Prop) (g : JFrame) (q : Addr) : Prop :=
  ∀ T : State, T.heap = H → Stand p l e R s m args below meth c T locs cells slots → ∃ t, Steps p.tables e below ((T.setTop g).pushFrame (.throwing q)) t ∧ Q t
def vx_Run (p : Program) (l : Launch) (e : Env) (R : Room) (s : State) (m : MethodId) (args : Array Value) (below : List Frame) (meth : Method) (c : Code) (H : Heap) (locs : List Loc) (cells slots mc ms : Nat) (g : JFrame) (rest : List Value) (Qa : State → Outcome → State → Prop) (XC : String → State → State → Prop) (free : Addr → Prop) : Prop :=
  ∀ T : State, T.heap = H → Stand p l e R s m args below meth c T locs cells slots →
    (∃ (v : Option Value) (st₀ t T' : State) (L : List Loc), st₀.heap = H ∧ Stand p l e R s m args below meth c T' (locs ++ L) (cells + mc) (slots + ms) ∧ (∀ q ∈ L, free q.base) ∧ T'.heap = t.heap ∧ T'.vm = t.vm ∧ Qa st₀ (.returned v) t ∧
      Goes p e below T g T' { g with pc := g.pc + 3, stack := v.toList ++ rest }) ∨
    (∃ (q : Addr) (st₀ t T' : State) (L : List Loc) (E : String) (ce : Cell), st₀.heap = H ∧ Stand p l e R s m args below meth c T' (locs ++ L) (cells + mc) (slots + ms) ∧ (∀ z ∈ L, free z.base) ∧ T'.heap = t.heap ∧ T'.vm = t.vm ∧ XC E st₀ t ∧ t.heap[q]? = some ce ∧ ce.vm = .none ∧ s.vm.findClass E = some ce.cls ∧
      Steps p.tables e below (T.setTop g) ((T'.setTop { g with stack := rest }).pushFrame (.throwing q)))
def vx_X {S : Type} (px : S → Prop) (B : String → S → State → Prop) (A : Nat → Prop) : String → State → State → Prop := fun E st t => ∃ u : S, px u ∧ B E u t ∧ va_F A st t
section Runs
variable {p : Program} {l : Launch} {e : Env} {R : Room} {s : State} {m : MethodId} {args : Array Value} {below : List Frame} {meth : Method} {c : Code} {H : Heap} {locs : List Loc} {cells slots : Nat}
variable {y : MethodName} {bytes cc : ByteArray} {maxL nL mc ms n index : Nat} {ret : Option FieldType} {ws : List Cond} {rm : Room} {Pc : Array Value → State → Prop} {Qc : Array Value → State → Outcome → State → Prop} {XC : String → State → State → Prop} {free : Addr → Prop} {Ts : List Cond} {own C : String} {b : Addr} {As rest : List Value} {g : JFrame}
theorem vx_callBack (cb : CallB R s args own index y bytes maxL ret ws rm mc ms n) (hM : vx_Met l y ws rm Pc Qc XC mc ms free) (hbl : FrameBlind Pc) : vx_Back l R p e below s args y 3 8 (PreOf R mc ms Pc) (PostOf Qc mc ms free) (vx_Post XC mc ms free) := by
  obtain ⟨hrc, hrs, hfr, hlo, hws, hcw, -, hini, -⟩ := cb
  exact vx_back (bytes := bytes) (maxL := maxL) (ret := ret) hM hbl hrc hrs hfr hlo hws hcw (fun a' U hW => word_at hW (Or.inl (by first | rfl | simp [Cond.onTables, Cond.keeps, Cond.steady])) hini)
theorem vx_runV (S : CallFix p m c cc nL s args Ts own) (hM : vx_Met l y ws rm Pc Qc XC mc ms free) (cw : CallW R s args own C index y bytes maxL ret ws rm mc ms n) (hp : PreV s H C b Pc As)
    (hg : g.method = m) (hn : As.length = n) (hsize : g.locals.size = nL) (hstack : g.stack = As.reverse ++ .ref b :: rest) (hW : 2 * g.monitorRoom + (rest.map fun v => v.category).sum ≤ 8) (hdg : decode cc g.pc = .ok (.invokevirtual index, 3)) (hf : cells + mc ≤ R.cells ∧ slots + ms ≤ R.slots) :
    vx_Run p l e R s m args below meth c H locs cells slots mc ms g rest (Qc (Value.ref b :: As).toArray) XC free := by
  have hK : vx_Back l R p e below s args y 3 8 (PreOf R mc ms Pc) (PostOf Qc mc ms free) (vx_Post XC mc ms free) := vx_callBack cw.1 hM hp.1
  obtain ⟨⟨-, -, -, -, -, -, hcode, -, hy, hlen, hl⟩, hin, hse⟩ := cw
  obtain ⟨hx, hb, hml, ho, -⟩ := S
  obtain ⟨-, ⟨cellB, hcB, hoB, hclB⟩, hPc⟩ := hp
  intro T hT X
  rcases vx_callV X hx (C := C) (bytes := bytes) (maxL := maxL) (ret := ret) ho hl hin hse hcode hy hK (by rw [hT]; exact hcB) hoB hclB hg (hsize.trans hml.symm) (argsL := As) (rest := rest) (fun sig h => hn.trans (hlen sig h)) hstack hW (by rw [hb]; exact hdg)
    (fun vm₁ hW₁ => ⟨hf.1, hf.2, hPc (T.setVm vm₁) hT hW₁⟩) with ⟨v, vm₁, ⟨U', l2, c2, s2⟩, hW₁, X', ⟨g', mk, t, L, e1, e2, hq, h1, hL, h2, h3⟩, st⟩ | ⟨q, vm₁, ⟨U', l2, c2, s2⟩, hW₁, X', ⟨g', mk, t, L, E, ce, e1, e2, hq, hce, hcv, hcl, h1, hL, h2, h3⟩, st⟩
  · dsimp only [Pt.U, Pt.locs, Pt.cells, Pt.slots] at X' e1 e2 h1 h2 h3 st
    subst h1; subst h2; subst h3
    exact Or.inl ⟨v, (T.setVm vm₁).calling g' mk (Value.ref b :: As).toArray, t, U', L, hT, X', hL, e1, e2, hq, st⟩
  · dsimp only [Pt.U, Pt.locs, Pt.cells, Pt.slots] at X' e1 e2 h1 h2 h3 st hcl
    subst h1; subst h2; subst h3
    exact Or.inr ⟨q, (T.setVm vm₁).calling g' mk (Value.ref b :: As).toArray, t, U', L, E, ce, hT, X', hL, e1, e2, hq, hce, hcv, vx_cls hW₁ hcl, st⟩
theorem vx_runS (S : CallFix p m c cc nL s args Ts own) (hM : vx_Met l y ws rm Pc Qc XC mc ms free) (cw : CallB R s args own index y bytes maxL ret ws rm mc ms n ∧ (Cond.static y).before args s = true) (hp : PreS s H Pc As)
    (hg : g.method = m) (hn : As.length = n) (hsize : g.locals.size = nL) (hstack : g.stack = As.reverse ++ rest) (hW : 2 * g.monitorRoom + (rest.map fun v => v.category).sum ≤ 8) (hdg : decode cc g.pc = .ok (.invokestatic index, 3)) (hf : cells + mc ≤ R.cells ∧ slots + ms ≤ R.slots) :
    vx_Run p l e R s m args below meth c H locs cells slots mc ms g rest (Qc As.toArray) XC free := by
  have hK : vx_Back l R p e below s args y 3 8 (PreOf R mc ms Pc) (PostOf Qc mc ms free) (vx_Post XC mc ms free) := vx_callBack cw.1 hM hp.1
  obtain ⟨⟨-, -, -, -, -, -, hcode, hini, hy, hlen, hl⟩, hstt⟩ := cw
  obtain ⟨hx, hb, hml, ho, -⟩ := S
  intro T hT X
  rcases vx_callS X hx (bytes := bytes) (maxL := maxL) (ret := ret) ho hl hstt hini hcode hy hK hg (hsize.trans hml.symm) (argsL := As) (rest := rest) (fun sig h => hn.trans (hlen sig h)) hstack hW (by rw [hb]; exact hdg)
    (fun vm₁ hW₁ => ⟨hf.1, hf.2, hp.2 (T.setVm vm₁) hT hW₁⟩) with ⟨v, vm₁, ⟨U', l2, c2, s2⟩, hW₁, X', ⟨g', mk, t, L, e1, e2, hq, h1, hL, h2, h3⟩, st⟩ | ⟨q, vm₁, ⟨U', l2, c2, s2⟩, hW₁, X', ⟨g', mk, t, L, E, ce, e1, e2, hq, hce, hcv, hcl, h1, hL, h2, h3⟩, st⟩
  · dsimp only [Pt.U, Pt.locs, Pt.cells, Pt.slots] at X' e1 e2 h1 h2 h3 st
    subst h1; subst h2; subst h3
    exact Or.inl ⟨v, (T.setVm vm₁).calling g' mk As.toArray, t, U', L, hT, X', hL, e1, e2, hq, st⟩
  · dsimp only [Pt.U, Pt.locs, Pt.cells, Pt.slots] at X' e1 e2 h1 h2 h3 st hcl
    subst h1; subst h2; subst h3
    exact Or.inr ⟨q, (T.setVm vm₁).calling g' mk As.toArray, t, U', L, E, ce, hT, X', hL, e1, e2, hq, hce, hcv, vx_cls hW₁ hcl, st⟩
end Runs
section Rows
variable {p : Program} {l : Launch} {e : Env} {R : Room} {s : State} {m : MethodId} {args : Array Value} {below : List Frame} {meth : Method} {c : Code} {H : Heap} {locs : List Loc} {cells slots : Nat} {Q : State → Prop}
variable {mc ms : Nat} {free : Addr → Prop} {A0 A1 : Nat → Prop} {H0 : Heap} {a : Array Value} {pc : Nat} {ls : Array Slot} {st0 rest : List Value}
theorem vx_keep {st₀ t T' : State} {L : List Loc} (h0 : st₀.heap = H) (e1 : T'.heap = t.heap) (hS : va_S A0 H0 H locs) (hA : ∀ q, q < H.size → A1 q → A0 q) (hf : ∀ q, free q → A0 q) (hL : ∀ q ∈ L, free q.base) (hF : va_F A1 st₀ t) :
    H.size ≤ T'.heap.size ∧ (∀ q : Nat, q < H.size → ¬ A1 q → T'.heap[q]? = H[q]?) ∧ va_S A0 H0 T'.heap (locs ++ L) := by
  obtain ⟨hz, hk⟩ := hF
  rw [h0] at hz hk
  exact ⟨by rw [e1]; exact hz, fun q h1 h2 => by rw [e1]; exact hk q h1 h2,
    ⟨Nat.le_trans hS.1 (by rw [e1]; exact hz), fun q h1 h2 => by rw [e1, hk q (Nat.lt_of_lt_of_le h1 hS.1) (fun z => h2 (hA q (Nat.lt_of_lt_of_le h1 hS.1) z))]; exact hS.2.1 q h1 h2, fun q hq => by
      rcases List.mem_append.mp hq with h | h
      · exact hS.2.2 q h
      · exact hf _ (hL q h)⟩⟩
theorem vx_calli {S SX : Type} {post : Int32 → S → Prop} {px : SX → Prop} {B : S → State → Prop} {BX : String → SX → State → Prop} {AX : Nat → Prop} (hr : vx_Run p l e R s m args below meth c H locs cells slots mc ms (F0 m pc ls st0) rest (va_Qi post B A1 a) (vx_X px BX AX) free) (hS : va_S A0 H0 H locs) (hA : ∀ q, q < H.size → A1 q → A0 q) (hf : ∀ q, free q → A0 q) (hAX : ∀ q, q < H.size → AX q → A0 q)
    (kx : ∀ (E : String) (ce : Cell) (q9 : Addr) (u : SX) (t : State) (H1 : Heap) (locs1 : List Loc), t.heap = H1 → s.vm.Alike t.vm → px u → BX E u t → H.size ≤ H1.size → (∀ q : Nat, q < H.size → ¬ AX q → H1[q]? = H[q]?) → va_S A0 H0 H1 locs1 → H1[q9]? = some ce → ce.vm = .none → s.vm.findClass E = some ce.cls → vx_W p l e R s m args below meth c H1 locs1 (cells + mc) (slots + ms) Q (F0 m pc ls rest) q9)
    (kk : ∀ (r : Int32) (u : S) (t : State) (H1 : Heap) (locs1 : List Loc), t.heap = H1 → s.vm.Alike t.vm → post r u → B u t → H.size ≤ H1.size → (∀ q : Nat, q < H.size → ¬ A1 q → H1[q]? = H[q]?) → va_S A0 H0 H1 locs1 → W p l e R s m args below meth c H1 locs1 (cells + mc) (slots + ms) Q (F0 m (pc + 3) ls (.int r :: rest))) : W p l e R s m args below meth c H locs cells slots Q (F0 m pc ls st0) := by
  intro T hT X
  rcases hr T hT X with ⟨v, st₀, t, T', L, h0, X', hL, e1, e2, ⟨⟨r, u, hv, hp, hb⟩, hF⟩, st⟩ | ⟨q, st₀, t, T', L, E, ce, h0, X', hL, e1, e2, ⟨u, hp, hb, hF⟩, hce, hcv, hcl, st⟩
  · cases hv
    obtain ⟨k1, k2, k3⟩ := vx_keep h0 e1 hS hA hf hL hF
    obtain ⟨t2, a1, b1⟩ := kk r u t T'.heap (locs ++ L) e1.symm (by rw [← e2]; exact X'.warmed.alike) hp hb k1 k2 k3 T' rfl X'
    exact ⟨t2, st t2 a1, b1⟩
  · obtain ⟨k1, k2, k3⟩ := vx_keep h0 e1 hS hAX hf hL hF
    obtain ⟨t2, a1, b1⟩ := kx E ce q u t T'.heap (locs ++ L) e1.symm (by rw [← e2]; exact X'.warmed.alike) hp hb k1 k2 k3 (by rw [e1]; exact hce) hcv hcl T' rfl X'
    exact ⟨t2, st.trans a1, b1⟩
theorem vx_calll {S SX : Type} {post : Int64 → S → Prop} {px : SX → Prop} {B : S → State → Prop} {BX : String → SX → State → Prop} {AX : Nat → Prop} (hr : vx_Run p l e R s m args below meth c H locs cells slots mc ms (F0 m pc ls st0) rest (va_Ql post B A1 a) (vx_X px BX AX) free) (hS : va_S A0 H0 H locs) (hA : ∀ q, q < H.size → A1 q → A0 q) (hf : ∀ q, free q → A0 q) (hAX : ∀ q, q < H.size → AX q → A0 q)
    (kx : ∀ (E : String) (ce : Cell) (q9 : Addr) (u : SX) (t : State) (H1 : Heap) (locs1 : List Loc), t.heap = H1 → s.vm.Alike t.vm → px u → BX E u t → H.size ≤ H1.size → (∀ q : Nat, q < H.size → ¬ AX q → H1[q]? = H[q]?) → va_S A0 H0 H1 locs1 → H1[q9]? = some ce → ce.vm = .none → s.vm.findClass E = some ce.cls → vx_W p l e R s m args below meth c H1 locs1 (cells + mc) (slots + ms) Q (F0 m pc ls rest) q9)
    (kk : ∀ (r : Int64) (u : S) (t : State) (H1 : Heap) (locs1 : List Loc), t.heap = H1 → s.vm.Alike t.vm → post r u → B u t → H.size ≤ H1.size → (∀ q : Nat, q < H.size → ¬ A1 q → H1[q]? = H[q]?) → va_S A0 H0 H1 locs1 → W p l e R s m args below meth c H1 locs1 (cells + mc) (slots + ms) Q (F0 m (pc + 3) ls (.long r :: rest))) : W p l e R s m args below meth c H locs cells slots Q (F0 m pc ls st0) := by
  intro T hT X
  rcases hr T hT X with ⟨v, st₀, t, T', L, h0, X', hL, e1, e2, ⟨⟨r, u, hv, hp, hb⟩, hF⟩, st⟩ | ⟨q, st₀, t, T', L, E, ce, h0, X', hL, e1, e2, ⟨u, hp, hb, hF⟩, hce, hcv, hcl, st⟩
  · cases hv
    obtain ⟨k1, k2, k3⟩ := vx_keep h0 e1 hS hA hf hL hF
    obtain ⟨t2, a1, b1⟩ := kk r u t T'.heap (locs ++ L) e1.symm (by rw [← e2]; exact X'.warmed.alike) hp hb k1 k2 k3 T' rfl X'
    exact ⟨t2, st t2 a1, b1⟩
  · obtain ⟨k1, k2, k3⟩ := vx_keep h0 e1 hS hAX hf hL hF
    obtain ⟨t2, a1, b1⟩ := kx E ce q u t T'.heap (locs ++ L) e1.symm (by rw [← e2]; exact X'.warmed.alike) hp hb k1 k2 k3 (by rw [e1]; exact hce) hcv hcl T' rfl X'
    exact ⟨t2, st.trans a1, b1⟩
theorem vx_callf {S SX : Type} {post : UInt32 → S → Prop} {px : SX → Prop} {B : S → State → Prop} {BX : String → SX → State → Prop} {AX : Nat → Prop} (hr : vx_Run p l e R s m args below meth c H locs cells slots mc ms (F0 m pc ls st0) rest (va_Qf post B A1 a) (vx_X px BX AX) free) (hS : va_S A0 H0 H locs) (hA : ∀ q, q < H.size → A1 q → A0 q) (hf : ∀ q, free q → A0 q) (hAX : ∀ q, q < H.size → AX q → A0 q)
    (kx : ∀ (E : String) (ce : Cell) (q9 : Addr) (u : SX) (t : State) (H1 : Heap) (locs1 : List Loc), t.heap = H1 → s.vm.Alike t.vm → px u → BX E u t → H.size ≤ H1.size → (∀ q : Nat, q < H.size → ¬ AX q → H1[q]? = H[q]?) → va_S A0 H0 H1 locs1 → H1[q9]? = some ce → ce.vm = .none → s.vm.findClass E = some ce.cls → vx_W p l e R s m args below meth c H1 locs1 (cells + mc) (slots + ms) Q (F0 m pc ls rest) q9)
    (kk : ∀ (r : UInt32) (u : S) (t : State) (H1 : Heap) (locs1 : List Loc), t.heap = H1 → s.vm.Alike t.vm → post r u → B u t → H.size ≤ H1.size → (∀ q : Nat, q < H.size → ¬ A1 q → H1[q]? = H[q]?) → va_S A0 H0 H1 locs1 → W p l e R s m args below meth c H1 locs1 (cells + mc) (slots + ms) Q (F0 m (pc + 3) ls (.float r :: rest))) : W p l e R s m args below meth c H locs cells slots Q (F0 m pc ls st0) := by
  intro T hT X
  rcases hr T hT X with ⟨v, st₀, t, T', L, h0, X', hL, e1, e2, ⟨⟨r, u, hv, hp, hb⟩, hF⟩, st⟩ | ⟨q, st₀, t, T', L, E, ce, h0, X', hL, e1, e2, ⟨u, hp, hb, hF⟩, hce, hcv, hcl, st⟩
  · cases hv
    obtain ⟨k1, k2, k3⟩ := vx_keep h0 e1 hS hA hf hL hF
    obtain ⟨t2, a1, b1⟩ := kk r u t T'.heap (locs ++ L) e1.symm (by rw [← e2]; exact X'.warmed.alike) hp hb k1 k2 k3 T' rfl X'
    exact ⟨t2, st t2 a1, b1⟩
  · obtain ⟨k1, k2, k3⟩ := vx_keep h0 e1 hS hAX hf hL hF
    obtain ⟨t2, a1, b1⟩ := kx E ce q u t T'.heap (locs ++ L) e1.symm (by rw [← e2]; exact X'.warmed.alike) hp hb k1 k2 k3 (by rw [e1]; exact hce) hcv hcl T' rfl X'
    exact ⟨t2, st.trans a1, b1⟩
theorem vx_calld {S SX : Type} {post : UInt64 → S → Prop} {px : SX → Prop} {B : S → State → Prop} {BX : String → SX → State → Prop} {AX : Nat → Prop} (hr : vx_Run p l e R s m args below meth c H locs cells slots mc ms (F0 m pc ls st0) rest (va_Qd post B A1 a) (vx_X px BX AX) free) (hS : va_S A0 H0 H locs) (hA : ∀ q, q < H.size → A1 q → A0 q) (hf : ∀ q, free q → A0 q) (hAX : ∀ q, q < H.size → AX q → A0 q)
    (kx : ∀ (E : String) (ce : Cell) (q9 : Addr) (u : SX) (t : State) (H1 : Heap) (locs1 : List Loc), t.heap = H1 → s.vm.Alike t.vm → px u → BX E u t → H.size ≤ H1.size → (∀ q : Nat, q < H.size → ¬ AX q → H1[q]? = H[q]?) → va_S A0 H0 H1 locs1 → H1[q9]? = some ce → ce.vm = .none → s.vm.findClass E = some ce.cls → vx_W p l e R s m args below meth c H1 locs1 (cells + mc) (slots + ms) Q (F0 m pc ls rest) q9)
    (kk : ∀ (r : UInt64) (u : S) (t : State) (H1 : Heap) (locs1 : List Loc), t.heap = H1 → s.vm.Alike t.vm → post r u → B u t → H.size ≤ H1.size → (∀ q : Nat, q < H.size → ¬ A1 q → H1[q]? = H[q]?) → va_S A0 H0 H1 locs1 → W p l e R s m args below meth c H1 locs1 (cells + mc) (slots + ms) Q (F0 m (pc + 3) ls (.double r :: rest))) : W p l e R s m args below meth c H locs cells slots Q (F0 m pc ls st0) := by
  intro T hT X
  rcases hr T hT X with ⟨v, st₀, t, T', L, h0, X', hL, e1, e2, ⟨⟨r, u, hv, hp, hb⟩, hF⟩, st⟩ | ⟨q, st₀, t, T', L, E, ce, h0, X', hL, e1, e2, ⟨u, hp, hb, hF⟩, hce, hcv, hcl, st⟩
  · cases hv
    obtain ⟨k1, k2, k3⟩ := vx_keep h0 e1 hS hA hf hL hF
    obtain ⟨t2, a1, b1⟩ := kk r u t T'.heap (locs ++ L) e1.symm (by rw [← e2]; exact X'.warmed.alike) hp hb k1 k2 k3 T' rfl X'
    exact ⟨t2, st t2 a1, b1⟩
  · obtain ⟨k1, k2, k3⟩ := vx_keep h0 e1 hS hAX hf hL hF
    obtain ⟨t2, a1, b1⟩ := kx E ce q u t T'.heap (locs ++ L) e1.symm (by rw [← e2]; exact X'.warmed.alike) hp hb k1 k2 k3 (by rw [e1]; exact hce) hcv hcl T' rfl X'
    exact ⟨t2, st.trans a1, b1⟩
theorem vx_callv {S SX : Type} {post : S → Prop} {px : SX → Prop} {B : S → State → Prop} {BX : String → SX → State → Prop} {AX : Nat → Prop} (hr : vx_Run p l e R s m args below meth c H locs cells slots mc ms (F0 m pc ls st0) rest (va_Qv post B A1 a) (vx_X px BX AX) free) (hS : va_S A0 H0 H locs) (hA : ∀ q, q < H.size → A1 q → A0 q) (hf : ∀ q, free q → A0 q) (hAX : ∀ q, q < H.size → AX q → A0 q)
    (kx : ∀ (E : String) (ce : Cell) (q9 : Addr) (u : SX) (t : State) (H1 : Heap) (locs1 : List Loc), t.heap = H1 → s.vm.Alike t.vm → px u → BX E u t → H.size ≤ H1.size → (∀ q : Nat, q < H.size → ¬ AX q → H1[q]? = H[q]?) → va_S A0 H0 H1 locs1 → H1[q9]? = some ce → ce.vm = .none → s.vm.findClass E = some ce.cls → vx_W p l e R s m args below meth c H1 locs1 (cells + mc) (slots + ms) Q (F0 m pc ls rest) q9)
    (kk : ∀ (u : S) (t : State) (H1 : Heap) (locs1 : List Loc), t.heap = H1 → s.vm.Alike t.vm → post u → B u t → H.size ≤ H1.size → (∀ q : Nat, q < H.size → ¬ A1 q → H1[q]? = H[q]?) → va_S A0 H0 H1 locs1 → W p l e R s m args below meth c H1 locs1 (cells + mc) (slots + ms) Q (F0 m (pc + 3) ls (rest))) : W p l e R s m args below meth c H locs cells slots Q (F0 m pc ls st0) := by
  intro T hT X
  rcases hr T hT X with ⟨v, st₀, t, T', L, h0, X', hL, e1, e2, ⟨⟨u, hv, hp, hb⟩, hF⟩, st⟩ | ⟨q, st₀, t, T', L, E, ce, h0, X', hL, e1, e2, ⟨u, hp, hb, hF⟩, hce, hcv, hcl, st⟩
  · cases hv
    obtain ⟨k1, k2, k3⟩ := vx_keep h0 e1 hS hA hf hL hF
    obtain ⟨t2, a1, b1⟩ := kk u t T'.heap (locs ++ L) e1.symm (by rw [← e2]; exact X'.warmed.alike) hp hb k1 k2 k3 T' rfl X'
    exact ⟨t2, st t2 a1, b1⟩
  · obtain ⟨k1, k2, k3⟩ := vx_keep h0 e1 hS hAX hf hL hF
    obtain ⟨t2, a1, b1⟩ := kx E ce q u t T'.heap (locs ++ L) e1.symm (by rw [← e2]; exact X'.warmed.alike) hp hb k1 k2 k3 (by rw [e1]; exact hce) hcv hcl T' rfl X'
    exact ⟨t2, st.trans a1, b1⟩
/-- caught by the row x of this method's table; the rows ahead don't take it -/
theorem vx_catch {own name : String} {E : String} {ce : Cell} {q : Addr} (hown : s.vm.findClass own = some m.cls) (pre : List ExceptionTableEntry) (x : ExceptionTableEntry) (suf : List ExceptionTableEntry) (hsplit : c.exceptionTable.toList = pre ++ x :: suf)
    (hpass : ∀ z ∈ pre, covers z pc = false ∨ (z.catchType ≠ 0 ∧ ∃ nm : String, (Cond.classLink own z.catchType nm).before args s = true ∧ va_Nc E nm s)) (hx : covers x pc = true) (h0 : x.catchType ≠ 0)
    (hlink : (Cond.classLink own x.catchType name).before args s = true) (hcast : (Cond.castable E name).before args s = true) (hcell : H[q]? = some ce) (hv : ce.vm = .none) (hcl : s.vm.findClass E = some ce.cls)
    (kk : W p l e R s m args below meth c H locs cells slots Q (F0 m x.handlerPc ls [.ref q])) : vx_W p l e R s m args below meth c H locs cells slots Q (F0 m pc ls rest) q := by
  intro T hT X
  have hpl : e.platform.magicAccessors = ({} : Platform).magicAccessors := by rw [X.admits.platform]
  obtain ⟨c3, c4, hc3, hc4, hasg⟩ := Cond.castable_spec hcast
  cases Option.some.inj (hc3.symm.trans hcl)
  obtain ⟨c5, hc5, hcl5⟩ := Cond.classLink_spec hown hlink e.platform hpl
  cases Option.some.inj (hc4.symm.trans hc5)
  obtain ⟨vm', X', st⟩ := X.thenCaughtThrough q (g := F0 m pc ls rest) rfl (Steps.refl _) (by rw [hT]; exact hcell) (by rw [hv]; rfl) (by obtain ⟨k9, h9, -⟩ := Vm.findClass_spec hcl; exact ⟨k9, h9⟩) pre x suf hsplit
    (fun z hz => by
      rcases hpass z hz with h | ⟨hz0, nm, hl1, hn1⟩
      · exact Or.inl h
      · obtain ⟨c6, hc6, hcl6⟩ := Cond.classLink_spec hown hl1 e.platform hpl
        obtain ⟨a8, b8, h1, h2, h3⟩ := hn1
        cases Option.some.inj (h1.symm.trans hcl)
        cases Option.some.inj (h2.symm.trans hc6)
        exact Or.inr ⟨hz0, _, hcl6, h3⟩) hx (Or.inr ⟨h0, c4, hcl5, hasg⟩)
  obtain ⟨t, a1, b1⟩ := kk (T.setVm vm') hT X'
  exact ⟨t, st.trans a1, b1⟩
end Rows
section Ends
variable {p : Program} {l : Launch} {e : Env} {R : Room} {s : State} {m : MethodId} {args : Array Value} {below : List Frame} {meth : Method} {c : Code} {H : Heap} {locs : List Loc} {cells slots : Nat} {Q : State → Prop}
variable {mc ms : Nat} {free : Addr → Prop} {A0 A1 : Nat → Prop} {H0 : Heap} {a : Array Value} {ls : Array Slot} {st0 rest : List Value}
variable {Qc : Array Value → State → Outcome → State → Prop} {XC : String → State → State → Prop}
/-- what a body that may throw owes at its end -/
def vx_MQ (below : List Frame) (Qc : Array Value → State → Outcome → State → Prop) (XC : String → State → State → Prop) (a : Array Value) (s : State) (mc ms : Nat) (free : Addr → Prop) : State → Prop := fun t =>
  ∃ o, t.status = .running ∧ Ended t below o ∧ vx_Q Qc XC mc ms free a s o t
theorem vx_ret {g : JFrame} {mc ms : Nat} (k : W p l e R s m args below meth c H locs cells slots (MQ below Qc args s mc ms free) g) : W p l e R s m args below meth c H locs cells slots (vx_MQ below Qc XC args s mc ms free) g := by
  intro T hT X
  obtain ⟨t, a1, o, b1, b2, b3, b4⟩ := k T hT X
  exact ⟨t, a1, o, b1, b2, Or.inl ⟨b3, b4⟩⟩
/-- not caught here: it goes on to the caller -/
theorem vx_widen {g : JFrame} {q : Addr} {k n : Nat} (h1 : cells ≤ k) (h2 : slots ≤ n) (kk : vx_W p l e R s m args below meth c H locs k n Q g q) : vx_W p l e R s m args below meth c H locs cells slots Q g q := fun T hT X => kk T hT (stand_widen X h1 h2)
theorem vx_out {pc : Nat} {E : String} {ce : Cell} {q : Addr} {mc ms : Nat} (hout : ∀ x ∈ c.exceptionTable.toList, covers x pc = false) (hlocks : meth.locks = false) (hcell : H[q]? = some ce) (hv : ce.vm = .none) (hcl : s.vm.findClass E = some ce.cls)
    (hx : ∀ t : State, t.heap = H → s.vm.Alike t.vm → XC E s t) (hf : ∀ z ∈ locs, free z.base) (hc : cells ≤ mc) (hs : slots ≤ ms) :
    vx_W p l e R s m args below meth c H locs cells slots (vx_MQ below Qc XC args s mc ms free) (F0 m pc ls rest) q := by
  intro T hT X
  obtain ⟨st1, hrun, hend, hW, hsm⟩ := X.leaveThrown q (g := F0 m pc ls rest) rfl rfl rfl hout hlocks
  have hcell9 : (T.setFrames (.throwing q :: below)).heap[q]? = some ce := by
    show T.heap[q]? = some ce
    rw [hT]; exact hcell
  exact ⟨_, st1, .threw q, hrun, hend, Or.inr ⟨q, rfl, E, ce, locs, hx _ hT hW.alike, hcell9, hv, hcl, hW, hsm.mono hc hs, hf⟩⟩
theorem vx_frame {U : State} {k n : Nat} (h : s.sameButNew ({ U with vm := s.vm } : State) locs k n) : s.heap.size ≤ U.heap.size ∧ ∀ q : Nat, q < s.heap.size → (∀ z ∈ locs, z.base ≠ q) → U.heap[q]? = s.heap[q]? := by
  obtain ⟨-, h2, -, -, -, h6⟩ := h
  refine ⟨h2, fun q hq hz => ?_⟩
  obtain ⟨c9, e1, e2, e3, e4⟩ := h6 q _ (Array.getElem?_eq_getElem hq)
  have hs : c9.slots = (s.heap[q]).slots := Array.ext_getElem? fun i => e4 i fun hm => hz _ hm rfl
  have h9 : c9 = s.heap[q] := by
    rw [hs] at e2
    exact e2
  have e5 : U.heap[q]? = some c9 := e1
  rw [e5, h9, Array.getElem?_eq_getElem hq]
/-- the words of a throw but the four that speak of the heap -/
def vx_no (w : Cond) : Bool := decide (w ≠ .isRef (.static Bundle.tN "UNASSIGNED_STACK" Bundle.steD)) && decide (w ≠ .isRef (.static Bundle.tN "SUPPRESSED_SENTINEL" Bundle.listD)) && decide (w ≠ .laysStatic Bundle.tN "UNASSIGNED_STACK" Bundle.steD) && decide (w ≠ .laysStatic Bundle.tN "SUPPRESSED_SENTINEL" Bundle.listD)
def vx_at0 (own : String) (ic : Nat) (X : String) (names : List String) : List Cond := (Bundle.ownAtoms0 own ic X names).filter vx_no
def vx_atS (own : String) (ic : Nat) (X : String) (names : List String) : List Cond := (Bundle.ownAtoms own ic X names).filter vx_no
/-- a word that the tables alone decide, or a good one -/
def vx_ot (w : Cond) : Bool := w.onTables || goodWord w
theorem vx_ot_at {args a' : Array Value} {s U : State} {w : Cond} (hW : s.WarmedH U.vm) (hvm : s.vm = U.vm) (hg : vx_ot w = true) (h : w.before args s = true) : w.before a' U = true := by
  simp only [vx_ot, Bool.or_eq_true] at hg
  rcases hg with hg | hg
  · exact va_tabs hg hvm h
  · exact word_at hW (good_of_word hg) h
/-- a list's words: the good ones out of the method's own list, the others by premises of their own -/
theorem vx_hat {args : Array Value} {s : State} {L B : List Cond} (h1 : ∀ w ∈ L.filter goodWord, w.before args s = true) (h2 : ∀ w ∈ L.filter (fun w => !goodWord w), w ∈ B) (h3 : ∀ w ∈ B, w.before args s = true) : ∀ w ∈ L, w.before args s = true := by
  intro w hw
  by_cases g : goodWord w = true
  · exact h1 w (List.mem_filter.mpr ⟨hw, g⟩)
  · refine h3 w (h2 w (List.mem_filter.mpr ⟨hw, ?_⟩))
    show (!goodWord w) = true
    cases hgw : goodWord w
    · rfl
    · exact absurd hgw g
theorem vx_c {args : Array Value} {s : State} {w : Cond} {B : List Cond} (h : w.before args s = true) (t : ∀ w ∈ B, w.before args s = true) : ∀ w' ∈ w :: B, w'.before args s = true := fun w' h' => (List.mem_cons.mp h').elim (fun e => by rw [e]; exact h) (t w')
theorem vx_n {args : Array Value} {s : State} : ∀ w ∈ ([] : List Cond), w.before args s = true := fun _ h => nomatch h
theorem vx_own {args : Array Value} {s : State} {L : List Cond} (h1 : ∀ w ∈ L.filter vx_no, w.before args s = true)
    (hU : (Cond.isRef (.static Bundle.tN "UNASSIGNED_STACK" Bundle.steD)).before args s = true) (hN : (Cond.isRef (.static Bundle.tN "SUPPRESSED_SENTINEL" Bundle.listD)).before args s = true)
    (lU : (Cond.laysStatic Bundle.tN "UNASSIGNED_STACK" Bundle.steD).before args s = true) (lN : (Cond.laysStatic Bundle.tN "SUPPRESSED_SENTINEL" Bundle.listD).before args s = true) : ∀ w ∈ L, w.before args s = true := by
  intro w hw
  by_cases e1 : w = .isRef (.static Bundle.tN "UNASSIGNED_STACK" Bundle.steD)
  · rw [e1]; exact hU
  · by_cases e2 : w = .isRef (.static Bundle.tN "SUPPRESSED_SENTINEL" Bundle.listD)
    · rw [e2]; exact hN
    · by_cases e3 : w = .laysStatic Bundle.tN "UNASSIGNED_STACK" Bundle.steD
      · rw [e3]; exact lU
      · by_cases e4 : w = .laysStatic Bundle.tN "SUPPRESSED_SENTINEL" Bundle.listD
        · rw [e4]; exact lN
        · exact h1 w (List.mem_filter.mpr ⟨hw, by unfold vx_no; rw [decide_eq_true e1, decide_eq_true e2, decide_eq_true e3, decide_eq_true e4]; rfl⟩)
/-- where a static field lies, its class's statics cell in H -/
def vx_L (C n d : String) (A : Nat → Prop) (U : State) (H : Heap) : Prop := ∃ (c : ClassId) (k : Class) (i : Nat) (f : Field) (a : Nat) (cell : Cell), U.vm.findClass C = some c ∧ U.fieldFound? C n d = some (c, k, i, f) ∧ f.isStatic = true ∧ k.statics = some a ∧ H[a]? = some cell ∧ cell.vm.isStatics = true ∧ cell.cls = c ∧ f.slot < cell.slots.size ∧ k.staticTypes[f.slot]? = some f.type ∧ ¬ A a
theorem vx_L.moved {C n d : String} {A : Nat → Prop} {u U : State} {H : Heap} (hvm : u.vm.Alike U.vm) (h : vx_L C n d A u H) : vx_L C n d A U H := by
  obtain ⟨c, k, i, f, a, cell, h1, h2, h3, h4, h5, h6, h7, h8, h9, h10⟩ := h
  obtain ⟨k', hi', he⟩ := State.fieldFound?_setVm hvm h2
  exact ⟨c, k', i, f, a, cell, by rw [hvm.findClass]; exact h1, hi', h3, by rw [he]; exact h4, h5, h6, h7, h8, by rw [he]; exact h9, h10⟩
theorem vx_L.kept {C n d : String} {A : Nat → Prop} {U : State} {H H1 : Heap} (h : vx_L C n d A U H) (hq : ∀ a : Nat, a < H.size → ¬ A a → H1[a]? = H[a]?) : vx_L C n d A U H1 := by
  obtain ⟨c, k, i, f, a, cell, h1, h2, h3, h4, h5, h6, h7, h8, h9, h10⟩ := h
  exact ⟨c, k, i, f, a, cell, h1, h2, h3, h4, by rw [hq a (Array.getElem?_eq_some_iff.mp h5).1 h10]; exact h5, h6, h7, h8, h9, h10⟩
theorem vx_L.narrow {C n d : String} {A B : Nat → Prop} {U : State} {H : Heap} (h : vx_L C n d A U H) (hAB : ∀ q, B q → A q) : vx_L C n d B U H := by
  obtain ⟨c, k, i, f, a, cell, h1, h2, h3, h4, h5, h6, h7, h8, h9, h10⟩ := h
  exact ⟨c, k, i, f, a, cell, h1, h2, h3, h4, h5, h6, h7, h8, h9, fun z => h10 (hAB _ z)⟩
theorem vx_L.word {C n d : String} {A : Nat → Prop} {s : State} {args : Array Value} (h : vx_L C n d A s s.heap) : (Cond.laysStatic C n d).before args s = true := by
  obtain ⟨c, k, i, f, a, cell, h1, h2, h3, h4, h5, h6, h7, h8, h9, -⟩ := h
  show (Cond.laysStatic C n d).holds args s none s [] = true
  exact Cond.laysStatic_of h1 h2 h3 h4 h5 h6 h7 h8 h9
/-- .. and what it holds: null or some reference -/
def vx_Zq (C n d : String) (A : Nat → Prop) (U : State) (H : Heap) : Prop := va_Zq C n d A U H ∧ vx_L C n d A U H
theorem vx_Zq.moved {C n d : String} {A : Nat → Prop} {u U : State} {H : Heap} (hvm : u.vm.Alike U.vm) (h : vx_Zq C n d A u H) : vx_Zq C n d A U H := ⟨va_Zq.moved hvm h.1, vx_L.moved hvm h.2⟩
theorem vx_Zq.kept {C n d : String} {A : Nat → Prop} {U : State} {H H1 : Heap} (h : vx_Zq C n d A U H) (hq : ∀ a : Nat, a < H.size → ¬ A a → H1[a]? = H[a]?) : vx_Zq C n d A U H1 := ⟨va_Zq.kept h.1 hq, vx_L.kept h.2 hq⟩
theorem vx_Zq.narrow {C n d : String} {A B : Nat → Prop} {U : State} {H : Heap} (h : vx_Zq C n d A U H) (hAB : ∀ q, B q → A q) : vx_Zq C n d B U H := ⟨va_Zq.narrow h.1 hAB, vx_L.narrow h.2 hAB⟩
theorem vx_Zqof {args : Array Value} {s : State} {C n d : String} {A : Nat → Prop} (hl : (Cond.laysStatic C n d).before args s = true) (hini : (Cond.initialized C).before args s = true) (h : (Cond.isRef (.static C n d)).before args s = true) (hA : ∀ a : Nat, a < s.heap.size → ¬ A a) : vx_Zq C n d A s s.heap := by
  refine ⟨va_Zqof hl hini h hA, ?_⟩
  obtain ⟨c, k, i, f, a, cell, h1, h2, h3, h4, h5, h6, h7, h8, h9⟩ := Cond.laysStatic_spec hl
  exact ⟨c, k, i, f, a, cell, h1, h2, h3, h4, h5, h6, h7, h8, h9, hA a (Array.getElem?_eq_some_iff.mp h5).1⟩
theorem vx_isRef {C n d : String} {v : Value} {A : Nat → Prop} {s : State} {args : Array Value} (h : va_Z C n d v A s s.heap) (hv : v.isRef = true) : (Cond.isRef (.static C n d)).before args s = true := by
  obtain ⟨cf, kf, fi, f, a, cell, h1, h2, h3, h4, h5, h6, h7, -⟩ := h
  have he : (Term.static C n d).eval args s none [] s = some v := by
    simp [Term.eval, State.fieldNamed?, h1, h2, h4, h5, h6, h7]
  simp only [Cond.before, Cond.holds, Cond.value, he]
  cases v <;> simp_all [Value.isRef]
theorem vx_isRefq {C n d : String} {A : Nat → Prop} {s : State} {args : Array Value} (h : va_Zq C n d A s s.heap) : (Cond.isRef (.static C n d)).before args s = true := by
  rcases h with h | ⟨t, h⟩
  · exact vx_isRef h rfl
  · exact vx_isRef h rfl
/-- the same frame, seen from here: as if the method were called anew in this heap -/
theorem vx_rebase {T : State} (X : Stand p l e R s m args below meth c T locs cells slots) {R' : Room} (hf : R'.frames ≤ R.frames) (hl : R'.locals ≤ R.locals) (hc : cells + R'.cells ≤ R.cells) (hs : slots + R'.slots ≤ R.slots) :
    Stand p l e R' ((T.setVm s.vm).setFrames (.invoking m args :: below)) m args below meth c T [] 0 0 := by
  have htop : (T.setVm s.vm).topJava?.isSome := X.here.top
  have hF : ((T.setVm s.vm).setFrames (.invoking m args :: below)).frames = .invoking m args :: below := State.frames_setFrames _ (State.cur_lt_of_top htop)
  obtain ⟨g₀, hg0⟩ := Option.isSome_iff_exists.mp htop
  obtain ⟨r, hr⟩ := State.topJava?_eq_some.mp hg0
  have hl9 : e.platform.stackLimits (T.setVm s.vm).me = e.platform.stackLimits s.me := X.limits
  have hb9 : (T.setVm s.vm).me.stackBytes = s.me.stackBytes := X.bytes
  refine ⟨X.admits, X.cas, X.clock, hF, ?_, X.hears, X.method, X.code, X.here, X.tail, X.warmed, ?_, ?_, ?_⟩
  · have h := X.room
    have hU : ((T.setVm s.vm).setFrames (.invoking m args :: below)).localsInUse = s.localsInUse := by
      rw [State.localsInUse_invoking hF (meth := meth) (c := c) X.method X.code, State.localsInUse_invoking X.frames X.method X.code]
    simp only [State.hasRoom, Bool.and_eq_true, decide_eq_true_eq] at h ⊢
    obtain ⟨⟨⟨⟨h1, h2, h3, h4, h5, h6⟩, h7⟩, h8⟩, h9⟩ := h
    rw [X.frames, List.length_cons] at h2 h3
    have q1 := X.heapSize
    have q2 := X.used
    simp only [hF, hU, List.length_cons, State.stackLimits_setFrames, State.stackBytes_setFrames, hl9, hb9]
    refine ⟨⟨⟨⟨by omega, by omega, by omega, by omega, by omega, h6⟩, ?_⟩, ?_⟩, X.book⟩
    · show T.heap.size + R'.cells ≤ e.platform.maxCells
      omega
    · show T.slotsUsed + R'.slots ≤ e.platform.maxSlots
      omega
  · rw [State.stackLimits_setFrames]; rfl
  · rw [State.stackBytes_setFrames]; rfl
  · refine ⟨?_, Nat.le_refl _, Nat.le_refl _, ?_, ?_, fun a c9 h9 => ⟨c9, h9, rfl, rfl, fun _ _ => rfl⟩⟩
    · obtain ⟨t, ht, -⟩ := State.frames_cons hr
      show T.setVm s.vm = { ((T.setVm s.vm).setFrames (.invoking m args :: below)).setFrames (T.setVm s.vm).frames with heap := T.heap, slotsUsed := T.slotsUsed }
      rw [State.setFrames_setFrames, State.setFrames_self ht]
      rfl
    · show T.slotsUsed = T.slotsUsed + ((T.heap.toList.drop T.heap.size).map (·.slots.size)).sum
      rw [List.drop_eq_nil_of_le (Nat.le_of_eq Array.length_toList)]
      rfl
    · show ((T.heap.toList.drop T.heap.size).map (·.slots.size)).sum ≤ 0
      rw [List.drop_eq_nil_of_le (Nat.le_of_eq Array.length_toList)]
      exact Nat.le_refl _
/-- 'throw new E()': new; dup; invokespecial; athrow -/
theorem vx_throw0 {cc : ByteArray} {pc : Nat} (hexec : p.tables.exec = Jvm.exec) (hb : c.code = cc) (hl : l.stackTraces = false) {own cls : String} {names : List String} {ik ic mc ms : Nat} {A : Nat → Prop}
    (hown : s.vm.findClass own = some m.cls) (hcls : Bundle.fit cls = true) (hnames : ∀ n ∈ names, Bundle.fit n = true)
    (hk : (Cond.classLink own ik cls).before args s = true) (hini : (Cond.initialized cls).before args s = true) (hat : ∀ w ∈ vx_at0 own ic cls names, w.before args s = true)
    (hgood : ∀ w ∈ Cond.classLink own ik cls :: Cond.initialized cls :: vx_at0 own ic cls names, vx_ot w = true)
    (hU : vx_Zq Bundle.tN "UNASSIGNED_STACK" Bundle.steD A s s.heap) (hN : vx_Zq Bundle.tN "SUPPRESSED_SENTINEL" Bundle.listD A s s.heap) (hS : va_S A s.heap H locs) (hsize : ls.size = c.maxLocals)
    (d0 : decode cc pc = .ok (.new ik, 3)) (d3 : decode cc (pc + 3) = .ok (.dup, 1)) (d4 : decode cc (pc + 4) = .ok (.invokespecial ic, 3)) (d7 : decode cc (pc + 7) = .ok (.athrow, 1))
    (hout : ∀ x ∈ c.exceptionTable.toList, covers x (pc + 7) = false)
    (hRframes : names.length + 3 < R.frames) (hRlocals : (rest.map fun v => v.category).sum + (13 * (names.length + 1) + 42) ≤ R.locals) (hRcells : cells + 1 ≤ R.cells) (hRslots : slots + 6 ≤ R.slots) (hlocks : meth.locks = false)
    (hx : ∀ t : State, s.vm.Alike t.vm → H.size ≤ t.heap.size → (∀ q : Nat, q < H.size → t.heap[q]? = H[q]?) → XC cls s t)
    (hf : ∀ z ∈ locs, free z.base) (hc : cells + 1 ≤ mc) (hs : slots + 6 ≤ ms) :
    W p l e R s m args below meth c H locs cells slots (vx_MQ below Qc XC args s mc ms free) (F0 m pc ls rest) := by
  intro T hT X
  have htr : e.platform.stackTraces = false := (show e.platform.stackTraces = l.stackTraces by rw [X.admits.platform]).trans hl
  have Y := vx_rebase X (R' := { frames := R.frames, locals := R.locals, cells := 1, slots := 6 }) (Nat.le_refl _) (Nat.le_refl _) hRcells hRslots
  obtain ⟨s', hA⟩ : ∃ z, z = (T.setVm s.vm).setFrames (.invoking m args :: below) := ⟨_, rfl⟩
  rw [← hA] at Y
  have hvm : s'.vm = s.vm := by rw [hA]; rfl
  have hhp : s'.heap = H := by rw [hA]; exact hT
  have hW0 : s.WarmedH s'.vm := by rw [hvm]; exact State.WarmedH.refl s
  have hat' : ∀ w ∈ vx_at0 own ic cls names, w.before args s' = true := fun w hw => vx_ot_at hW0 hvm.symm (hgood w (List.mem_cons_of_mem _ (List.mem_cons_of_mem _ hw))) (hat w hw)
  have hk' : (Cond.classLink own ik cls).before args s' = true := vx_ot_at hW0 hvm.symm (hgood _ List.mem_cons_self) hk
  have hini' : (Cond.initialized cls).before args s' = true := vx_ot_at hW0 hvm.symm (hgood _ (List.mem_cons_of_mem _ List.mem_cons_self)) hini
  have hU' : vx_Zq Bundle.tN "UNASSIGNED_STACK" Bundle.steD A s' s'.heap := by rw [hhp]; exact vx_Zq.moved hW0.alike (hU.kept hS.2.1)
  have hN' : vx_Zq Bundle.tN "SUPPRESSED_SENTINEL" Bundle.listD A s' s'.heap := by rw [hhp]; exact vx_Zq.moved hW0.alike (hN.kept hS.2.1)
  have h : ∀ w ∈ Bundle.ownAtoms0 own ic cls names, w.before args s' = true := vx_own hat' (vx_isRefq hU'.1) (vx_isRefq hN'.1) hU'.2.word hN'.2.word
  have hown' : s'.vm.findClass own = some m.cls := by rw [hvm]; exact hown
  have hins : (Cond.instantiable cls 6).before args s' = true := h _ (by simp [Bundle.ownAtoms0])
  obtain ⟨vm₁, cX, kX, hfX, hkX, -, -, X₁, st1⟩ := Y.newCold hexec (own := own) (C := cls) (index := ik) (n := 6) hown' hk' hins hini'
    (g := F0 m pc ls rest) rfl (by rw [hb]; exact d0) (Nat.le_refl _) (Nat.le_refl _)
  generalize hT1 : (T.setVm vm₁).pushCell { cls := cX, slots := kX.instanceTypes.map defaultValue, vm := .none } = T1 at X₁ st1
  have hcat : (Value.ref T.heap.size).category = 1 := rfl
  have hcellA : T1.heap[T.heap.size]? = some (freshCell cX kX) := by rw [← hT1]; exact State.heap_pushCell_size _ _
  have d3' : decode c.code (pc + 3) = .ok (.dup, 1) := by rw [hb]; exact d3
  obtain ⟨U, hsteps, hrun, hend, hW, hsame, ce, hce, hO⟩ := X₁.ctorThrow0 hexec htr (own := own) (cls := cls) (names := names) (ic := ic) hown' hcls hnames h (fun x hx => nomatch hx) hfX hkX hcellA (by rw [hhp, hT]; exact Nat.le_refl _)
    (g := { method := m, pc := pc + 4, locals := ls, stack := .ref T.heap.size :: .ref T.heap.size :: rest, locked := none }) rfl hsize rfl rfl (rest := rest) rfl
    (by rw [hb]; exact d4) (by rw [hb]; exact d7) hout hRframes (by simp only [List.map_cons, List.sum_cons, hcat]; omega) hlocks
  obtain ⟨f1, f2⟩ := vx_frame hsame
  rw [hhp] at f1 f2
  have hWs : s.WarmedH U.vm := State.WarmedH.trans hW0 hW
  have hcl : s.vm.findClass cls = some ce.cls := by
    have h9 := hO.cls
    rw [hvm] at h9
    exact h9
  have hall : s.sameButNew ({ U with vm := s.vm } : State) locs mc ms := by
    subst hA
    obtain ⟨e1, e2⟩ := hsame
    rw [State.setFrames_setFrames] at e1
    have h2 : (T.setVm s.vm).sameButNew ({ U with vm := s.vm } : State) [] (0 + 1) (0 + 6) := ⟨e1, e2⟩
    have h3 := X.same.trans h2
    rw [List.append_nil] at h3
    exact h3.mono hc hs
  refine ⟨U, ?_, .threw T.heap.size, hrun, hend, Or.inr ⟨T.heap.size, rfl, cls, ce, locs, hx U hWs.alike f1 (fun q hq => f2 q hq (fun z hz => nomatch hz)), hce, hO.vm, hcl, hWs, hall, hf⟩⟩
  refine st1 _ ?_
  show Steps p.tables e below (T1.setTop { method := m, pc := pc + 3, locals := ls, stack := .ref T.heap.size :: rest, locked := none }) _
  jvm_step X₁.here [X₁.here.top, hexec, d3', Value.category]
  exact hsteps
/-- 'throw new E("text")': new; dup; ldc; invokespecial; athrow -/
theorem vx_throwS {cc : ByteArray} {pc : Nat} (hexec : p.tables.exec = Jvm.exec) (hb : c.code = cc) (hl : l.stackTraces = false) {own cls text : String} {names : List String} {ik is ic mc ms sa : Nat} {A : Nat → Prop}
    (hown : s.vm.findClass own = some m.cls) (hcls : Bundle.fit cls = true) (hnames : ∀ n ∈ names, Bundle.fit n = true)
    (hk : (Cond.classLink own ik cls).before args s = true) (hini : (Cond.initialized cls).before args s = true) (hstr : vk_R own is text sa s) (hat : ∀ w ∈ vx_atS own ic cls names, w.before args s = true)
    (hgood : ∀ w ∈ Cond.classLink own ik cls :: Cond.initialized cls :: vx_atS own ic cls names, vx_ot w = true)
    (hU : vx_Zq Bundle.tN "UNASSIGNED_STACK" Bundle.steD A s s.heap) (hN : vx_Zq Bundle.tN "SUPPRESSED_SENTINEL" Bundle.listD A s s.heap) (hS : va_S A s.heap H locs) (hsize : ls.size = c.maxLocals)
    (d0 : decode cc pc = .ok (.new ik, 3)) (d3 : decode cc (pc + 3) = .ok (.dup, 1)) (d4 : decode cc (pc + 4) = .ok (.ldc is, 2)) (d6 : decode cc (pc + 6) = .ok (.invokespecial ic, 3)) (d9 : decode cc (pc + 9) = .ok (.athrow, 1))
    (hout : ∀ x ∈ c.exceptionTable.toList, covers x (pc + 9) = false)
    (hRframes : names.length + 3 < R.frames) (hRlocals : (rest.map fun v => v.category).sum + (13 * (names.length + 1) + 43) ≤ R.locals) (hRcells : cells + 1 ≤ R.cells) (hRslots : slots + 6 ≤ R.slots) (hlocks : meth.locks = false)
    (hx : ∀ t : State, s.vm.Alike t.vm → H.size ≤ t.heap.size → (∀ q : Nat, q < H.size → t.heap[q]? = H[q]?) → XC cls s t)
    (hf : ∀ z ∈ locs, free z.base) (hc : cells + 1 ≤ mc) (hs : slots + 6 ≤ ms) :
    W p l e R s m args below meth c H locs cells slots (vx_MQ below Qc XC args s mc ms free) (F0 m pc ls rest) := by
  intro T hT X
  have htr : e.platform.stackTraces = false := (show e.platform.stackTraces = l.stackTraces by rw [X.admits.platform]).trans hl
  have Y := vx_rebase X (R' := { frames := R.frames, locals := R.locals, cells := 1, slots := 6 }) (Nat.le_refl _) (Nat.le_refl _) hRcells hRslots
  obtain ⟨s', hA⟩ : ∃ z, z = (T.setVm s.vm).setFrames (.invoking m args :: below) := ⟨_, rfl⟩
  rw [← hA] at Y
  have hvm : s'.vm = s.vm := by rw [hA]; rfl
  have hhp : s'.heap = H := by rw [hA]; exact hT
  have hW0 : s.WarmedH s'.vm := by rw [hvm]; exact State.WarmedH.refl s
  have hat' : ∀ w ∈ vx_atS own ic cls names, w.before args s' = true := fun w hw => vx_ot_at hW0 hvm.symm (hgood w (List.mem_cons_of_mem _ (List.mem_cons_of_mem _ hw))) (hat w hw)
  have hk' : (Cond.classLink own ik cls).before args s' = true := vx_ot_at hW0 hvm.symm (hgood _ List.mem_cons_self) hk
  have hini' : (Cond.initialized cls).before args s' = true := vx_ot_at hW0 hvm.symm (hgood _ (List.mem_cons_of_mem _ List.mem_cons_self)) hini
  have hU' : vx_Zq Bundle.tN "UNASSIGNED_STACK" Bundle.steD A s' s'.heap := by rw [hhp]; exact vx_Zq.moved hW0.alike (hU.kept hS.2.1)
  have hN' : vx_Zq Bundle.tN "SUPPRESSED_SENTINEL" Bundle.listD A s' s'.heap := by rw [hhp]; exact vx_Zq.moved hW0.alike (hN.kept hS.2.1)
  have h : ∀ w ∈ Bundle.ownAtoms own ic cls names, w.before args s' = true := vx_own hat' (vx_isRefq hU'.1) (vx_isRefq hN'.1) hU'.2.word hN'.2.word
  have hown' : s'.vm.findClass own = some m.cls := by rw [hvm]; exact hown
  have hins : (Cond.instantiable cls 6).before args s' = true := h _ (by simp [Bundle.ownAtoms])
  obtain ⟨vm₁, cX, kX, hfX, hkX, -, -, X₁, st1⟩ := Y.newCold hexec (own := own) (C := cls) (index := ik) (n := 6) hown' hk' hins hini'
    (g := F0 m pc ls rest) rfl (by rw [hb]; exact d0) (Nat.le_refl _) (Nat.le_refl _)
  generalize hT1 : (T.setVm vm₁).pushCell { cls := cX, slots := kX.instanceTypes.map defaultValue, vm := .none } = T1 at X₁ st1
  have hcat : (Value.ref T.heap.size).category = 1 := rfl
  have hcellA : T1.heap[T.heap.size]? = some (freshCell cX kX) := by rw [← hT1]; exact State.heap_pushCell_size _ _
  have d3' : decode c.code (pc + 3) = .ok (.dup, 1) := by rw [hb]; exact d3
  have d4' : decode c.code (pc + 4) = .ok (.ldc is, 2) := by rw [hb]; exact d4
  have hstr' : vk_R own is text sa s' := vk_R.warm hW0 hstr
  obtain ⟨U, hsteps, hrun, hend, hW, hsame, ce, hce, hO⟩ := X₁.ctorThrowS hexec htr (own := own) (cls := cls) (names := names) (ic := ic) hown' hcls hnames h (fun x hx => nomatch hx) hfX hkX hcellA (by rw [hhp, hT]; exact Nat.le_refl _) (msg := .ref sa) rfl
    (g := { method := m, pc := pc + 6, locals := ls, stack := .ref sa :: .ref T.heap.size :: .ref T.heap.size :: rest, locked := none }) rfl hsize rfl rfl (rest := rest) rfl
    (by rw [hb]; exact d6) (by rw [hb]; exact d9) hout hRframes (by simp only [List.map_cons, List.sum_cons, hcat]; omega) hlocks
  obtain ⟨f1, f2⟩ := vx_frame hsame
  rw [hhp] at f1 f2
  have hWs : s.WarmedH U.vm := State.WarmedH.trans hW0 hW
  have hcl : s.vm.findClass cls = some ce.cls := by
    have h9 := hO.cls
    rw [hvm] at h9
    exact h9
  have hall : s.sameButNew ({ U with vm := s.vm } : State) locs mc ms := by
    subst hA
    obtain ⟨e1, e2⟩ := hsame
    rw [State.setFrames_setFrames] at e1
    have h2 : (T.setVm s.vm).sameButNew ({ U with vm := s.vm } : State) [] (0 + 1) (0 + 6) := ⟨e1, e2⟩
    have h3 := X.same.trans h2
    rw [List.append_nil] at h3
    exact h3.mono hc hs
  refine ⟨U, ?_, .threw T.heap.size, hrun, hend, Or.inr ⟨T.heap.size, rfl, cls, ce, locs, hx U hWs.alike f1 (fun q hq => f2 q hq (fun z hz => nomatch hz)), hce, hO.vm, hcl, hWs, hall, hf⟩⟩
  refine st1 _ ?_
  show Steps p.tables e below (T1.setTop { method := m, pc := pc + 3, locals := ls, stack := .ref T.heap.size :: rest, locked := none }) _
  jvm_step X₁.here [X₁.here.top, hexec, d3', Value.category]
  exact X₁.ldcString hexec (own := own) (text := text) (index := is) (a := sa) hown' hstr'.1 hstr'.2
    (g := { method := m, pc := pc + 4, locals := ls, stack := .ref T.heap.size :: .ref T.heap.size :: rest, locked := none }) rfl d4' _ hsteps
/-- 'throw new E("text")', the text by a wide index -/
theorem vx_throwSW {cc : ByteArray} {pc : Nat} (hexec : p.tables.exec = Jvm.exec) (hb : c.code = cc) (hl : l.stackTraces = false) {own cls text : String} {names : List String} {ik is ic mc ms sa : Nat} {A : Nat → Prop}
    (hown : s.vm.findClass own = some m.cls) (hcls : Bundle.fit cls = true) (hnames : ∀ n ∈ names, Bundle.fit n = true)
    (hk : (Cond.classLink own ik cls).before args s = true) (hini : (Cond.initialized cls).before args s = true) (hstr : vk_R own is text sa s) (hat : ∀ w ∈ vx_atS own ic cls names, w.before args s = true)
    (hgood : ∀ w ∈ Cond.classLink own ik cls :: Cond.initialized cls :: vx_atS own ic cls names, vx_ot w = true)
    (hU : vx_Zq Bundle.tN "UNASSIGNED_STACK" Bundle.steD A s s.heap) (hN : vx_Zq Bundle.tN "SUPPRESSED_SENTINEL" Bundle.listD A s s.heap) (hS : va_S A s.heap H locs) (hsize : ls.size = c.maxLocals)
    (d0 : decode cc pc = .ok (.new ik, 3)) (d3 : decode cc (pc + 3) = .ok (.dup, 1)) (d4 : decode cc (pc + 4) = .ok (.ldc_w is, 3)) (d7 : decode cc (pc + 7) = .ok (.invokespecial ic, 3)) (d10 : decode cc (pc + 10) = .ok (.athrow, 1))
    (hout : ∀ x ∈ c.exceptionTable.toList, covers x (pc + 10) = false)
    (hRframes : names.length + 3 < R.frames) (hRlocals : (rest.map fun v => v.category).sum + (13 * (names.length + 1) + 43) ≤ R.locals) (hRcells : cells + 1 ≤ R.cells) (hRslots : slots + 6 ≤ R.slots) (hlocks : meth.locks = false)
    (hx : ∀ t : State, s.vm.Alike t.vm → H.size ≤ t.heap.size → (∀ q : Nat, q < H.size → t.heap[q]? = H[q]?) → XC cls s t)
    (hf : ∀ z ∈ locs, free z.base) (hc : cells + 1 ≤ mc) (hs : slots + 6 ≤ ms) :
    W p l e R s m args below meth c H locs cells slots (vx_MQ below Qc XC args s mc ms free) (F0 m pc ls rest) := by
  intro T hT X
  have htr : e.platform.stackTraces = false := (show e.platform.stackTraces = l.stackTraces by rw [X.admits.platform]).trans hl
  have Y := vx_rebase X (R' := { frames := R.frames, locals := R.locals, cells := 1, slots := 6 }) (Nat.le_refl _) (Nat.le_refl _) hRcells hRslots
  obtain ⟨s', hA⟩ : ∃ z, z = (T.setVm s.vm).setFrames (.invoking m args :: below) := ⟨_, rfl⟩
  rw [← hA] at Y
  have hvm : s'.vm = s.vm := by rw [hA]; rfl
  have hhp : s'.heap = H := by rw [hA]; exact hT
  have hW0 : s.WarmedH s'.vm := by rw [hvm]; exact State.WarmedH.refl s
  have hat' : ∀ w ∈ vx_atS own ic cls names, w.before args s' = true := fun w hw => vx_ot_at hW0 hvm.symm (hgood w (List.mem_cons_of_mem _ (List.mem_cons_of_mem _ hw))) (hat w hw)
  have hk' : (Cond.classLink own ik cls).before args s' = true := vx_ot_at hW0 hvm.symm (hgood _ List.mem_cons_self) hk
  have hini' : (Cond.initialized cls).before args s' = true := vx_ot_at hW0 hvm.symm (hgood _ (List.mem_cons_of_mem _ List.mem_cons_self)) hini
  have hU' : vx_Zq Bundle.tN "UNASSIGNED_STACK" Bundle.steD A s' s'.heap := by rw [hhp]; exact vx_Zq.moved hW0.alike (hU.kept hS.2.1)
  have hN' : vx_Zq Bundle.tN "SUPPRESSED_SENTINEL" Bundle.listD A s' s'.heap := by rw [hhp]; exact vx_Zq.moved hW0.alike (hN.kept hS.2.1)
  have h : ∀ w ∈ Bundle.ownAtoms own ic cls names, w.before args s' = true := vx_own hat' (vx_isRefq hU'.1) (vx_isRefq hN'.1) hU'.2.word hN'.2.word
  have hown' : s'.vm.findClass own = some m.cls := by rw [hvm]; exact hown
  have hins : (Cond.instantiable cls 6).before args s' = true := h _ (by simp [Bundle.ownAtoms])
  obtain ⟨vm₁, cX, kX, hfX, hkX, -, -, X₁, st1⟩ := Y.newCold hexec (own := own) (C := cls) (index := ik) (n := 6) hown' hk' hins hini'
    (g := F0 m pc ls rest) rfl (by rw [hb]; exact d0) (Nat.le_refl _) (Nat.le_refl _)
  generalize hT1 : (T.setVm vm₁).pushCell { cls := cX, slots := kX.instanceTypes.map defaultValue, vm := .none } = T1 at X₁ st1
  have hcat : (Value.ref T.heap.size).category = 1 := rfl
  have hcellA : T1.heap[T.heap.size]? = some (freshCell cX kX) := by rw [← hT1]; exact State.heap_pushCell_size _ _
  have d3' : decode c.code (pc + 3) = .ok (.dup, 1) := by rw [hb]; exact d3
  have d4' : decode c.code (pc + 4) = .ok (.ldc_w is, 3) := by rw [hb]; exact d4
  have hstr' : vk_R own is text sa s' := vk_R.warm hW0 hstr
  obtain ⟨U, hsteps, hrun, hend, hW, hsame, ce, hce, hO⟩ := X₁.ctorThrowS hexec htr (own := own) (cls := cls) (names := names) (ic := ic) hown' hcls hnames h (fun x hx => nomatch hx) hfX hkX hcellA (by rw [hhp, hT]; exact Nat.le_refl _) (msg := .ref sa) rfl
    (g := { method := m, pc := pc + 7, locals := ls, stack := .ref sa :: .ref T.heap.size :: .ref T.heap.size :: rest, locked := none }) rfl hsize rfl rfl (rest := rest) rfl
    (by rw [hb]; exact d7) (by rw [hb]; exact d10) hout hRframes (by simp only [List.map_cons, List.sum_cons, hcat]; omega) hlocks
  obtain ⟨f1, f2⟩ := vx_frame hsame
  rw [hhp] at f1 f2
  have hWs : s.WarmedH U.vm := State.WarmedH.trans hW0 hW
  have hcl : s.vm.findClass cls = some ce.cls := by
    have h9 := hO.cls
    rw [hvm] at h9
    exact h9
  have hall : s.sameButNew ({ U with vm := s.vm } : State) locs mc ms := by
    subst hA
    obtain ⟨e1, e2⟩ := hsame
    rw [State.setFrames_setFrames] at e1
    have h2 : (T.setVm s.vm).sameButNew ({ U with vm := s.vm } : State) [] (0 + 1) (0 + 6) := ⟨e1, e2⟩
    have h3 := X.same.trans h2
    rw [List.append_nil] at h3
    exact h3.mono hc hs
  refine ⟨U, ?_, .threw T.heap.size, hrun, hend, Or.inr ⟨T.heap.size, rfl, cls, ce, locs, hx U hWs.alike f1 (fun q hq => f2 q hq (fun z hz => nomatch hz)), hce, hO.vm, hcl, hWs, hall, hf⟩⟩
  refine st1 _ ?_
  show Steps p.tables e below (T1.setTop { method := m, pc := pc + 3, locals := ls, stack := .ref T.heap.size :: rest, locked := none }) _
  jvm_step X₁.here [X₁.here.top, hexec, d3', Value.category]
  exact X₁.ldcStringW hexec (own := own) (text := text) (index := is) (a := sa) hown' hstr'.1 hstr'.2
    (g := { method := m, pc := pc + 4, locals := ls, stack := .ref T.heap.size :: .ref T.heap.size :: rest, locked := none }) rfl d4' _ hsteps
end Ends
section Bodies
variable {l : Launch}
theorem vx_ofW {y : MethodName} {ws ws' : List Cond} {rm : Room} {Pc : Array Value → State → Prop} {Qc : Array Value → State → Outcome → State → Prop} {XC : String → State → State → Prop} {mc ms : Nat} {free : Addr → Prop} {cc : ByteArray} {maxL : Nat} {ret : Option FieldType}
    (hy : plainName y.cls = true) (hw : ws = Cond.code y cc maxL ret :: ws')
    (body : ∀ p e s m args below meth c s₁, BodyLoose p l y (headSpec ws rm) cc maxL ret e s m args below meth c s₁ → c.maxLocals = maxL → (∀ x ∈ c.exceptionTable.toList, False) → Pc args s →
      W p l e (headSpec ws rm).room s m args below meth c s.heap [] 0 0 (vx_MQ below Qc XC args s mc ms free) (entryFrame m args maxL)) : vx_Met l y ws rm Pc Qc XC mc ms free := by
  refine MetFree.of_bodyS (code := cc) (maxLocals := maxL) (ret := ret) hy ?_ ?_
  · intro args s m h hn
    obtain ⟨meth, c, h1, h2, h3, h4, h5, h6, -, -⟩ := Cond.code_spec hn (atoms_spec (ws := ws) h _ (by rw [hw]; exact List.mem_cons_self))
    exact ⟨meth, c, h1, h2, h3, h4, h5, h6⟩
  · intro p e s m args below meth c s₁ B hml hP _
    have hh0 : s₁.heap = s.heap := by rw [B.state]; rfl
    have ht : ∀ x ∈ c.exceptionTable.toList, False := by
      obtain ⟨meth9, c9, h1, h2, -, -, -, -, h7, -⟩ := Cond.code_spec B.named (atoms_spec (ws := ws) B.pre _ (by rw [hw]; exact List.mem_cons_self))
      cases Option.some.inj (h1.symm.trans B.method)
      cases Option.some.inj (h2.symm.trans (Stand.of_body B).code)
      intro x hx
      rw [Array.isEmpty_iff.mp h7] at hx
      cases hx
    obtain ⟨t, a1, o, b1, b2, b3⟩ := body p e s m args below meth c s₁ B hml ht hP s₁ hh0 (Stand.of_body B)
    exact ⟨t, o, a1, b1, b2, b3⟩
/-- the table of a body with handlers -/
theorem vx_table {p : Program} {x y : MethodName} {S : Spec} {cc bytes : ByteArray} {maxL maxL' : Nat} {ret ret' : Option FieldType} {e : Env} {s s₁ : State} {m : MethodId} {args : Array Value} {below : List Frame} {meth : Method} {c : Code} {hh : List (Nat × Nat × Nat × Nat)}
    (B : BodyLoose p l y S cc maxL ret e s m args below meth c s₁) (h : (Cond.codeWith y bytes maxL' ret' hh).before args s = true) : c.exceptionTable.toList = tableOf hh := by
  obtain ⟨m9, meth9, c9, hn9, h1, h2, -, -, h6, -⟩ := Cond.codeWith_spec h
  cases Option.some.inj (hn9.symm.trans B.named)
  cases Option.some.inj (h1.symm.trans B.method)
  cases Option.some.inj (h2.symm.trans (Stand.of_body B).code)
  rw [← h6, table_eq]
end Bodies
end VXA
/-! ===== END ===== -/
/-! ===== BEGIN a static call of a method with an exception table ===== -/
section VXS
variable {p : Program} {l : Launch} {e : Env} {R : Room} {s : State} {m : MethodId} {args : Array Value} {below : List Frame} {meth : Method} {c : Code} {T : State} {H : Heap} {locs : List Loc} {cells slots : Nat}
abbrev vx_CSW (R : Room) (s : State) (args : Array Value) (own : String) (index : Nat) (y : MethodName) (bytes : ByteArray) (maxL : Nat) (ret : Option FieldType) (hh : List (Nat × Nat × Nat × Nat)) (ws : List Cond) (rm : Room) (mc ms n : Nat) : Prop :=
  (rm.cells = mc ∧ rm.slots = ms ∧ rm.frames + 1 ≤ R.frames ∧ 8 + (maxL + 11) + rm.locals ≤ R.locals ∧ (∀ w ∈ ws, ∀ (a' : Array Value) (U : State), s.WarmedH U.vm → w.before a' U = true) ∧ Cond.codeWith y bytes maxL ret hh ∈ ws) ∧
  (Cond.codeWith y bytes maxL ret hh).before args s = true ∧ (Cond.initialized y.cls).before args s = true ∧ (y.cls ≠ "java/lang/invoke/MethodHandle" ∧ y.cls ≠ "java/lang/invoke/VarHandle") ∧
  (∀ sig, parseMethodDescriptor y.desc = some sig → n = sig.parameters.length) ∧ (Cond.methodLink own index y).before args s = true ∧ (Cond.static y).before args s = true
theorem vx_cwSW {own : String} {index maxL mc ms : Nat} {y : MethodName} {bytes : ByteArray} {ret : Option FieldType} {hh : List (Nat × Nat × Nat × Nat)} {Ts ws ws' : List Cond} {rm : Room} (n : Nat) (ht : ∀ w ∈ Ts, w.before args s = true) (hT : GoodIn Ts (va_wsS own index y ws)) (hw : ws = Cond.codeWith y bytes maxL ret hh :: ws') (hrc : rm.cells = mc) (hrs : rm.slots = ms)
    (hd : y.cls ≠ "java/lang/invoke/MethodHandle" ∧ y.cls ≠ "java/lang/invoke/VarHandle" ∧ (parseMethodDescriptor y.desc).map (fun d => d.parameters.length) = some n) (hR : rm.frames + 1 ≤ R.frames ∧ 8 + (maxL + 11) + rm.locals ≤ R.locals) :
    vx_CSW R s args own index y bytes maxL ret hh ws rm mc ms n := by
  have ok : ∀ w ∈ va_wsS own index y ws, w.before args s = true := fun w h => ht w (hT w h).1
  have hG : GoodIn Ts ws := fun w h => hT w (by unfold va_wsS; exact List.mem_append_right _ h)
  have hc : Cond.codeWith y bytes maxL ret hh ∈ ws := by rw [hw]; exact List.mem_cons_self
  refine ⟨⟨hrc, hrs, hR.1, hR.2, pay_in ht hG, hc⟩, ht _ (hG _ hc).1, ok _ (by simp [va_wsS]), ⟨hd.1, hd.2.1⟩, fun sig h => ?_, ok _ (by simp [va_wsS]), ok _ (by simp [va_wsS])⟩
  have h2 := hd.2.2
  rw [h] at h2
  exact (Option.some.inj h2).symm
theorem vx_callSW (X : Stand p l e R s m args below meth c T locs cells slots) (hexec : p.tables.exec = Jvm.exec) {own : String} {index : Nat} {y : MethodName} {bytes : ByteArray} {maxL : Nat} {ret : Option FieldType} {hh : List (Nat × Nat × Nat × Nat)}
    (hown : s.vm.findClass own = some m.cls) (hlink : (Cond.methodLink own index y).before args s = true) (hstat : (Cond.static y).before args s = true) (hinit : (Cond.initialized y.cls).before args s = true)
    (hcode : (Cond.codeWith y bytes maxL ret hh).before args s = true) (hy : y.cls ≠ "java/lang/invoke/MethodHandle" ∧ y.cls ≠ "java/lang/invoke/VarHandle")
    {W9 : Nat} {Pre : Pt → Array Value → Prop} {Post : Pt → Array Value → Option Value → Pt → Prop} (hK : Back l R p e below s args y 3 W9 Pre Post)
    {g : JFrame} (hg : g.method = m) (hsize : g.locals.size = c.maxLocals) {argsL rest : List Value} (hlen : ∀ sig, parseMethodDescriptor y.desc = some sig → argsL.length = sig.parameters.length)
    (hstack : g.stack = argsL.reverse ++ rest) (hW : 2 * g.monitorRoom + (rest.map fun v => v.category).sum ≤ W9) (hdg : decode c.code g.pc = .ok (.invokestatic index, 3))
    (hpre : ∀ vm₁, s.WarmedH vm₁ → Pre ⟨T.setVm vm₁, locs, cells, slots⟩ argsL.toArray) :
    ∃ (v : Option Value) (vm₁ : Vm) (B : Pt), s.WarmedH vm₁ ∧ Stand p l e R s m args below meth c B.U B.locs B.cells B.slots ∧ Post ⟨T.setVm vm₁, locs, cells, slots⟩ argsL.toArray v B ∧
      ∀ target, Steps p.tables e below (B.U.setTop { g with pc := g.pc + 3, stack := v.toList ++ rest }) target → Steps p.tables e below (T.setTop g) target := by
  obtain ⟨mk, methM, cM, hnamed, hmethM, -, -, -, -, -, -, hsigM⟩ := Cond.codeWith_spec hcode
  have hstatic : methM.isStatic = true := Cond.static_spec hnamed hmethM hstat
  obtain ⟨kP, hkP, -⟩ := className_of_methodNamed hnamed
  have hinitP : kP.init = .initialized := Cond.initialized_spec (findClass_of_methodNamed hnamed) hkP hinit
  obtain ⟨vm₁, X₁, hstep₁⟩ := X.invokestatic hexec hown hlink hnamed hmethM hstatic hkP hinitP hy (g := g) hg (argsL := argsL) (rest := rest) (hlen _ hsigM) hstack hdg
  obtain ⟨v, B, X', hpost, hsteps⟩ := hK m meth c ⟨T.setVm vm₁, locs, cells, slots⟩ { g with stack := rest } (.invokestatic index) mk argsL.toArray X₁ hg hsize hdg hW (X₁.named hnamed) (hpre vm₁ X₁.warmed)
  exact ⟨v, vm₁, B, X₁.warmed, X', hpost, fun target h => hstep₁ _ fun acts => by rw [doInvoke_state]; exact hsteps.trans h⟩
theorem vx_runSW {y : MethodName} {bytes cc : ByteArray} {maxL nL mc ms n index : Nat} {ret : Option FieldType} {hh : List (Nat × Nat × Nat × Nat)} {ws : List Cond} {rm : Room} {Pc : Array Value → State → Prop} {Qc : Array Value → State → Outcome → State → Prop} {free : Addr → Prop} {Ts : List Cond} {own : String} {As rest : List Value} {g : JFrame}
    (S : CallFix p m c cc nL s args Ts own) (hM : Met l y ws rm Pc Qc mc ms free) (cw : vx_CSW R s args own index y bytes maxL ret hh ws rm mc ms n) (hp : PreS s H Pc As)
    (hg : g.method = m) (hn : As.length = n) (hsize : g.locals.size = nL) (hstack : g.stack = As.reverse ++ rest) (hW : 2 * g.monitorRoom + (rest.map fun v => v.category).sum ≤ 8) (hdg : decode cc g.pc = .ok (.invokestatic index, 3)) (hf : cells + mc ≤ R.cells ∧ slots + ms ≤ R.slots) :
    va_Run p l e R s m args below meth c H locs cells slots mc ms g rest (Qc As.toArray) (free) := by
  obtain ⟨⟨hrc, hrs, hfr, hlo, hws, hcw⟩, hcode, hini, hy, hlen, hl, hstt⟩ := cw
  have hK : Back l R p e below s args y 3 8 (PreOf R mc ms Pc) (PostOf Qc mc ms free) := va_backW (hh := hh) (bytes := bytes) (maxL := maxL) (ret := ret) hM hp.1 hrc hrs hfr hlo hws hcw (fun a' U hW => word_at hW (Or.inl (by first | rfl | simp [Cond.onTables, Cond.keeps, Cond.steady])) hini)
  obtain ⟨hx, hb, hml, ho, -⟩ := S
  intro T hT X
  obtain ⟨v, vm₁, ⟨U', l2, c2, s2⟩, hW₁, X', ⟨g', mk, t, L, e1, e2, hq, h1, hL, h2, h3⟩, st⟩ := vx_callSW X hx (hh := hh) (bytes := bytes) (maxL := maxL) (ret := ret) ho hl hstt hini hcode hy hK hg (hsize.trans hml.symm) (argsL := As) (rest := rest) (fun sig h => hn.trans (hlen sig h)) hstack hW (by rw [hb]; exact hdg)
    (fun vm₁ hW₁ => ⟨hf.1, hf.2, hp.2 (T.setVm vm₁) hT hW₁⟩)
  dsimp only [Pt.U, Pt.locs, Pt.cells, Pt.slots] at X' e1 e2 h1 h2 h3 st
  subst h1; subst h2; subst h3
  exact ⟨v, (T.setVm vm₁).calling g' mk As.toArray, t, U', L, hT, X', hL, e1, e2, hq, st⟩
/-- not caught here, past rows that name other classes: it goes on to the caller -/
theorem vx_outP {p : Program} {l : Launch} {e : Env} {R : Room} {s : State} {m : MethodId} {args : Array Value} {below : List Frame} {meth : Method} {c : Code} {H : Heap} {locs : List Loc} {cells slots : Nat} {free : Addr → Prop} {ls : Array Slot} {rest : List Value} {Qc : Array Value → State → Outcome → State → Prop} {XC : String → State → State → Prop}
    {pc : Nat} {own E : String} {ce : Cell} {q : Addr} {mc ms : Nat} (hown : s.vm.findClass own = some m.cls) (hlocks : meth.locks = false)
    (hpass : ∀ z ∈ c.exceptionTable.toList, covers z pc = false ∨ (z.catchType ≠ 0 ∧ ∃ nm : String, (Cond.classLink own z.catchType nm).before args s = true ∧ va_Nc E nm s)) (hcell : H[q]? = some ce) (hv : ce.vm = .none) (hcl : s.vm.findClass E = some ce.cls)
    (hx : ∀ t : State, t.heap = H → s.vm.Alike t.vm → XC E s t) (hf : ∀ z ∈ locs, free z.base) (hc : cells ≤ mc) (hs : slots ≤ ms) :
    vx_W p l e R s m args below meth c H locs cells slots (vx_MQ below Qc XC args s mc ms free) (F0 m pc ls rest) q := by
  intro T hT X
  have hpl : e.platform.magicAccessors = ({} : Platform).magicAccessors := by rw [X.admits.platform]
  obtain ⟨vm', hW', X', st⟩ := X.outThrough hlocks q (g := F0 m pc ls rest) rfl rfl rfl (cell := ce) (by rw [hT]; exact hcell) (by rw [hv]; rfl)
    (by obtain ⟨k9, h9, -⟩ := Vm.findClass_spec hcl; exact ⟨k9, h9⟩) (fun z hz => by
      rcases hpass z hz with h | ⟨hz0, nm, hl1, hn1⟩
      · exact Or.inl h
      · obtain ⟨c6, hc6, hcl6⟩ := Cond.classLink_spec hown hl1 e.platform hpl
        obtain ⟨a8, b8, h1, h2, h3⟩ := hn1
        cases Option.some.inj (h1.symm.trans hcl)
        cases Option.some.inj (h2.symm.trans hc6)
        exact Or.inr ⟨hz0, _, hcl6, h3⟩)
  obtain ⟨g₀, hfr⟩ := X'.frames_eq
  have hcell9 : ((T.setVm vm').setFrames (.throwing q :: below)).heap[q]? = some ce := by
    show T.heap[q]? = some ce
    rw [hT]; exact hcell
  have hend : Ended ((T.setVm vm').setFrames (.throwing q :: below)) below (.threw q) := State.frames_setFrames _ (State.cur_lt_of_frames hfr)
  refine ⟨(T.setVm vm').setFrames (.throwing q :: below), ?_, .threw q, X'.here.running, hend, Or.inr ⟨q, rfl, E, ce, locs, hx _ hT (X'.ends _).1.alike, hcell9, hv, hcl, (X'.ends _).1, (X'.ends _).2.mono hc hs, hf⟩⟩
  rw [X.pushThrowing_eq]
  exact st
/-- a thing of a world lies in the heap -/
theorem vx_lt {D : va_G} {cl : List vw_C} {ws : va_W} {H1 : Heap} (h : va_P D cl ws H1) {k : Nat} {q : Nat × va_E} (hk : ws[k]? = some q) : q.1 < H1.size := (h k q hk).lt
end VXS
/-! ===== END ===== -/
/-! ===== BEGIN methods with a table of their own: called by a name, returning or throwing ===== -/
section VXH
/-! vx_backW, vx_callVX, vx_callSX, vx_callVW, vx_runVW, vx_runVX, vx_runSX, vx_ofWH follow the same proofs as their sisters above (Free/Laws.lean, Shelf42/LK1.lean); vx_outP calls Shelf42/NT130.lean (outThrough). -/
section
variable {l : Launch} {R : Room} {p : Program} {e : Env} {below : List Frame} {s : State} {sargs : Array Value} {y : MethodName} {len W9 : Nat}
theorem vx_backW {ws : List Cond} {rm : Room} {Pc : Array Value → State → Prop} {Qc : Array Value → State → Outcome → State → Prop} {XC : String → State → State → Prop} {mc ms : Nat} {free : Addr → Prop} {bytes : ByteArray} {maxL : Nat} {ret : Option FieldType} {hh : List (Nat × Nat × Nat × Nat)}
    (hM : vx_Met l y ws rm Pc Qc XC mc ms free) (hblind : FrameBlind Pc) (hrc : rm.cells = mc) (hrs : rm.slots = ms)
    (hframes : rm.frames + 1 ≤ R.frames) (hlocals : W9 + (maxL + 11) + rm.locals ≤ R.locals)
    (hws : ∀ w ∈ ws, ∀ a' U, s.WarmedH U.vm → w.before a' U = true) (hcode : Cond.codeWith y bytes maxL ret hh ∈ ws) (hinit : ∀ a' U, s.WarmedH U.vm → (Cond.initialized y.cls).before a' U = true) :
    vx_Back l R p e below s sargs y len W9 (PreOf R mc ms Pc) (PostOf Qc mc ms free) (vx_Post XC mc ms free) := by
  intro m meth c A g ig mk a X hg hsize hdg hW hn hp
  have h1 : (headSpec ws rm).pre.before a A.U = true := atoms_intro fun w hw => hws w hw _ _ X.warmed
  have h2 : (Cond.codeWith y bytes maxL ret hh).before a A.U = true := hws _ hcode _ _ X.warmed
  have h3 : (Cond.initialized y.cls).before a A.U = true := hinit _ _ X.warmed
  have h4 : A.cells + (headSpec ws rm).room.cells ≤ R.cells := by rw [show (headSpec ws rm).room.cells = mc from hrc]; exact hp.1
  have h5 : A.slots + (headSpec ws rm).room.slots ≤ R.slots := by rw [show (headSpec ws rm).room.slots = ms from hrs]; exact hp.2.1
  have hPc : Pc a (A.U.calling g mk a) := hblind _ _ _ _ hp.2.2
  obtain ⟨U, Ls, c0, s0⟩ := A
  dsimp only [Pt.U, Pt.locs, Pt.cells, Pt.slots] at h1 h2 h3 h4 h5 X hn hPc ⊢
  obtain ⟨m9, methY, cY, hn9, hmY, hcY, -, hlY, -⟩ := Cond.codeWith_spec h2
  cases Option.some.inj (hn9.symm.trans hn)
  obtain ⟨kY, hkY, -⟩ := className_of_methodNamed hn
  have hinitY : kY.init = .initialized := Cond.initialized_spec (findClass_of_methodNamed hn) hkY h3
  have h : At U g.method c below := by rw [hg]; exact X.here
  have hlocals9 : W9 + (maxL + 11) + (headSpec ws rm).room.locals ≤ R.locals := hlocals
  have happ : (headSpec ws rm).appliesLoose y e.platform (U.calling g mk a) = true :=
    Spec.appliesLoose_calling (g := g) h hdg hn hkY hinitY
      (X.room_calling (g := g) (R' := (headSpec ws rm).room) hsize hmY hcY hframes (by rw [hlY]; omega) h4 h5) h1
  obtain ⟨mid, hmid⟩ := h.above
  have hfr : (U.setTop g).frames = (.java g :: mid) ++ below := by rw [State.frames_setTop' g h.top, hmid]; rfl
  obtain ⟨o, s₂, hsteps, -, hend, hq⟩ := Steps.callFree hM p X.admits X.cas X.clock (acts := []) hfr happ hPc trivial
  have hq' : vx_Q Qc XC mc ms free a (U.calling g mk a) o s₂ := hq
  rw [State.frames_setTop' g h.top] at hend
  obtain ⟨g₀, hg0⟩ := Option.isSome_iff_exists.mp h.top
  obtain ⟨r, hr⟩ := State.topJava?_eq_some.mp hg0
  have hr' : (({ U with heap := s₂.heap, slotsUsed := s₂.slotsUsed } : State).setVm s₂.vm).frames = .java g₀ :: r := hr
  rcases hq' with ⟨hqc, L, hfe, hL⟩ | ⟨q, rfl, E, ce, L, hx, hce, hcv, hcl, hW₂, hsm, hL⟩
  · obtain ⟨⟨v, rfl⟩, hW₂, e2, q2, q3, q4, q5, q6⟩ := id hfe
    have e3 : s₂ = ({ (U.calling g mk a).setFrames s₂.frames with heap := s₂.heap, slotsUsed := s₂.slotsUsed } : State).setVm s₂.vm := by
      have : s₂ = ({ s₂ with vm := (U.calling g mk a).vm } : State).setVm s₂.vm := rfl
      rw [e2] at this
      exact this
    obtain ⟨c₂, i₂, len₂, hc₂, hd₂, hf₂⟩ := hend
    have hW' : U.WarmedH s₂.vm := hW₂
    have hcc : c₂ = c := by
      have h1 : s₂.code? g.method = U.code? g.method := by
        rw [State.code?_eq, State.code?_eq, hW'.alike.method?]
      exact Option.some.inj (hc₂.symm.trans (h1.trans h.code))
    subst hcc
    have hlen : len₂ = len := by rw [hdg] at hd₂; cases hd₂; rfl
    subst hlen
    have hs₂ : s₂ = (({ U with heap := s₂.heap, slotsUsed := s₂.slotsUsed } : State).setVm s₂.vm).setTop { g with pc := g.pc + len₂, stack := v.toList ++ g.stack } := by
      refine e3.trans ?_
      rw [hf₂, State.calling_eq h.top, State.setFrames_setFrames, State.setTop_of_frames _ hr', hr]
      rfl
    have hsame : U.sameButNew ({ U with heap := s₂.heap, slotsUsed := s₂.slotsUsed } : State) L mc ms := by
      refine ⟨?_, q2, q3, q4, q5, q6⟩
      obtain ⟨t, ht, -⟩ := State.frames_cons hr
      show ({ U with heap := s₂.heap, slotsUsed := s₂.slotsUsed } : State) = { U.setFrames U.frames with heap := s₂.heap, slotsUsed := s₂.slotsUsed }
      rw [State.setFrames_self ht]
    subst hg
    refine Or.inl ⟨v, ⟨(({ U with heap := s₂.heap, slotsUsed := s₂.slotsUsed } : State).setVm s₂.vm), Ls ++ L, c0 + mc, s0 + ms⟩,
      ⟨X.admits, X.cas, X.clock, X.frames, X.room, X.hears, X.method, X.code, (X.here.setHeapUsed s₂.heap s₂.slotsUsed).setVm hW'.alike, X.tail, State.WarmedH.trans X.warmed hW', X.limits, X.bytes, X.same.trans (hsame.setVm s.vm)⟩,
      ⟨g, mk, s₂, L, rfl, rfl, hqc, rfl, hL, rfl, rfl⟩, ?_⟩
    show Steps p.tables e below _ ((({ U with heap := s₂.heap, slotsUsed := s₂.slotsUsed } : State).setVm s₂.vm).setTop { g with pc := g.pc + len₂, stack := v.toList ++ g.stack })
    rw [← hs₂]
    exact hsteps
  · obtain ⟨e2, q2, q3, q4, q5, q6⟩ := id hsm
    have e3 : s₂ = ({ (U.calling g mk a).setFrames s₂.frames with heap := s₂.heap, slotsUsed := s₂.slotsUsed } : State).setVm s₂.vm := by
      have : s₂ = ({ s₂ with vm := (U.calling g mk a).vm } : State).setVm s₂.vm := rfl
      rw [e2] at this
      exact this
    have hf₂ : s₂.frames = .throwing q :: .java g :: U.frames.tail := hend
    have hW' : U.WarmedH s₂.vm := hW₂
    have hs₂ : s₂ = ((({ U with heap := s₂.heap, slotsUsed := s₂.slotsUsed } : State).setVm s₂.vm).setTop g).pushFrame (.throwing q) := by
      refine e3.trans ?_
      rw [hf₂, State.calling_eq h.top, State.setFrames_setFrames, State.pushFrame, State.frames_setTop _ hr', State.setTop_of_frames _ hr', State.setFrames_setFrames, hr]
      rfl
    have hsame : U.sameButNew ({ U with heap := s₂.heap, slotsUsed := s₂.slotsUsed } : State) L mc ms := by
      refine ⟨?_, q2, q3, q4, q5, q6⟩
      obtain ⟨t, ht, -⟩ := State.frames_cons hr
      show ({ U with heap := s₂.heap, slotsUsed := s₂.slotsUsed } : State) = { U.setFrames U.frames with heap := s₂.heap, slotsUsed := s₂.slotsUsed }
      rw [State.setFrames_self ht]
    subst hg
    refine Or.inr ⟨q, ⟨(({ U with heap := s₂.heap, slotsUsed := s₂.slotsUsed } : State).setVm s₂.vm), Ls ++ L, c0 + mc, s0 + ms⟩,
      ⟨X.admits, X.cas, X.clock, X.frames, X.room, X.hears, X.method, X.code, (X.here.setHeapUsed s₂.heap s₂.slotsUsed).setVm hW'.alike, X.tail, State.WarmedH.trans X.warmed hW', X.limits, X.bytes, X.same.trans (hsame.setVm s.vm)⟩,
      ⟨g, mk, s₂, L, E, ce, rfl, rfl, hx, hce, hcv, hcl, rfl, hL, rfl, rfl⟩, ?_⟩
    show Steps p.tables e below _ (((({ U with heap := s₂.heap, slotsUsed := s₂.slotsUsed } : State).setVm s₂.vm).setTop g).pushFrame (.throwing q))
    rw [← hs₂]
    exact hsteps
end
variable {p : Program} {l : Launch} {e : Env} {R : Room} {s : State} {m : MethodId} {args : Array Value} {below : List Frame} {meth : Method} {c : Code} {T : State} {H : Heap} {locs : List Loc} {cells slots : Nat}
theorem vx_callVX (X : Stand p l e R s m args below meth c T locs cells slots) (hexec : p.tables.exec = Jvm.exec) {own C : String} {index : Nat} {y : MethodName} {bytes : ByteArray} {maxL : Nat} {ret : Option FieldType} {hh : List (Nat × Nat × Nat × Nat)}
    (hown : s.vm.findClass own = some m.cls) (hlink : (Cond.methodLink own index y).before args s = true) (hinst : (Cond.instanceMethod y).before args s = true) (hsel : (Cond.selects C y y).before args s = true)
    (hcode : (Cond.codeWith y bytes maxL ret hh).before args s = true) (hy : y.cls ≠ "java/lang/invoke/MethodHandle" ∧ y.cls ≠ "java/lang/invoke/VarHandle")
    {W9 : Nat} {Pre : Pt → Array Value → Prop} {Post : Pt → Array Value → Option Value → Pt → Prop} {PostX : Pt → Array Value → Addr → Pt → Prop} (hK : vx_Back l R p e below s args y 3 W9 Pre Post PostX)
    {b : Addr} {cellB : Cell} (hcell : T.heap[b]? = some cellB) (hobj : cellB.vm.isStatics = false) (hcls : s.vm.findClass C = some cellB.cls)
    {g : JFrame} (hg : g.method = m) (hsize : g.locals.size = c.maxLocals) {argsL rest : List Value} (hlen : ∀ sig, parseMethodDescriptor y.desc = some sig → argsL.length = sig.parameters.length)
    (hstack : g.stack = argsL.reverse ++ .ref b :: rest) (hW : 2 * g.monitorRoom + (rest.map fun v => v.category).sum ≤ W9) (hdg : decode c.code g.pc = .ok (.invokevirtual index, 3))
    (hpre : ∀ vm₁, s.WarmedH vm₁ → Pre ⟨T.setVm vm₁, locs, cells, slots⟩ (Value.ref b :: argsL).toArray) :
    (∃ (v : Option Value) (vm₁ : Vm) (B : Pt), s.WarmedH vm₁ ∧ Stand p l e R s m args below meth c B.U B.locs B.cells B.slots ∧ Post ⟨T.setVm vm₁, locs, cells, slots⟩ (Value.ref b :: argsL).toArray v B ∧
      ∀ target, Steps p.tables e below (B.U.setTop { g with pc := g.pc + 3, stack := v.toList ++ rest }) target → Steps p.tables e below (T.setTop g) target) ∨
    (∃ (q : Addr) (vm₁ : Vm) (B : Pt), s.WarmedH vm₁ ∧ Stand p l e R s m args below meth c B.U B.locs B.cells B.slots ∧ PostX ⟨T.setVm vm₁, locs, cells, slots⟩ (Value.ref b :: argsL).toArray q B ∧
      Steps p.tables e below (T.setTop g) ((B.U.setTop { g with stack := rest }).pushFrame (.throwing q))) := by
  obtain ⟨mk, methM, hnamed, hmethM, hstM, habM⟩ := Cond.instanceMethod_spec hinst
  obtain ⟨m8, methM', cM, hn8, hmethM', -, -, -, -, -, -, hsigM⟩ := Cond.codeWith_spec hcode
  cases Option.some.inj (hn8.symm.trans hnamed)
  cases hmethM.symm.trans hmethM'
  obtain ⟨c2, r2, m2, q1, q2, q3, q4, kP, hkP, hkPi⟩ := Cond.selects_spec hsel
  cases hcls.symm.trans q1
  cases (State.methodFound?_of_named hnamed hy).symm.trans q2
  cases hnamed.symm.trans q3
  have hselP : selectMethod e.platform s.vm cellB.cls mk = .method mk := by rw [Launch.admits_selectMethod X.admits]; exact q4
  obtain ⟨vm₁, X₁, hstep₁⟩ := X.invokevirtual hexec hown hlink hnamed hmethM hstM hkP hkPi hy (a := b) (cell := cellB) hcell
    (fun z h => by rw [h] at hobj; cases hobj) hselP hmethM habM hkP hkPi (g := g) hg (argsL := argsL) (rest := rest) (hlen _ hsigM) hstack hdg
  rcases hK m meth c ⟨T.setVm vm₁, locs, cells, slots⟩ { g with stack := rest } (.invokevirtual index) mk (Value.ref b :: argsL).toArray X₁ hg hsize hdg hW (X₁.named hnamed) (hpre vm₁ X₁.warmed) with ⟨v, B, X', hpost, hsteps⟩ | ⟨q, B, X', hpost, hsteps⟩
  · exact Or.inl ⟨v, vm₁, B, X₁.warmed, X', hpost, fun target h => hstep₁ _ fun acts => by rw [doInvoke_state]; exact hsteps.trans h⟩
  · exact Or.inr ⟨q, vm₁, B, X₁.warmed, X', hpost, hstep₁ _ fun acts => by rw [doInvoke_state]; exact hsteps⟩
theorem vx_callSX (X : Stand p l e R s m args below meth c T locs cells slots) (hexec : p.tables.exec = Jvm.exec) {own : String} {index : Nat} {y : MethodName} {bytes : ByteArray} {maxL : Nat} {ret : Option FieldType} {hh : List (Nat × Nat × Nat × Nat)}
    (hown : s.vm.findClass own = some m.cls) (hlink : (Cond.methodLink own index y).before args s = true) (hstat : (Cond.static y).before args s = true) (hinit : (Cond.initialized y.cls).before args s = true)
    (hcode : (Cond.codeWith y bytes maxL ret hh).before args s = true) (hy : y.cls ≠ "java/lang/invoke/MethodHandle" ∧ y.cls ≠ "java/lang/invoke/VarHandle")
    {W9 : Nat} {Pre : Pt → Array Value → Prop} {Post : Pt → Array Value → Option Value → Pt → Prop} {PostX : Pt → Array Value → Addr → Pt → Prop} (hK : vx_Back l R p e below s args y 3 W9 Pre Post PostX)
    {g : JFrame} (hg : g.method = m) (hsize : g.locals.size = c.maxLocals) {argsL rest : List Value} (hlen : ∀ sig, parseMethodDescriptor y.desc = some sig → argsL.length = sig.parameters.length)
    (hstack : g.stack = argsL.reverse ++ rest) (hW : 2 * g.monitorRoom + (rest.map fun v => v.category).sum ≤ W9) (hdg : decode c.code g.pc = .ok (.invokestatic index, 3))
    (hpre : ∀ vm₁, s.WarmedH vm₁ → Pre ⟨T.setVm vm₁, locs, cells, slots⟩ argsL.toArray) :
    (∃ (v : Option Value) (vm₁ : Vm) (B : Pt), s.WarmedH vm₁ ∧ Stand p l e R s m args below meth c B.U B.locs B.cells B.slots ∧ Post ⟨T.setVm vm₁, locs, cells, slots⟩ argsL.toArray v B ∧
      ∀ target, Steps p.tables e below (B.U.setTop { g with pc := g.pc + 3, stack := v.toList ++ rest }) target → Steps p.tables e below (T.setTop g) target) ∨
    (∃ (q : Addr) (vm₁ : Vm) (B : Pt), s.WarmedH vm₁ ∧ Stand p l e R s m args below meth c B.U B.locs B.cells B.slots ∧ PostX ⟨T.setVm vm₁, locs, cells, slots⟩ argsL.toArray q B ∧
      Steps p.tables e below (T.setTop g) ((B.U.setTop { g with stack := rest }).pushFrame (.throwing q))) := by
  obtain ⟨mk, methM, cM, hnamed, hmethM, -, -, -, -, -, -, hsigM⟩ := Cond.codeWith_spec hcode
  have hstatic : methM.isStatic = true := Cond.static_spec hnamed hmethM hstat
  obtain ⟨kP, hkP, -⟩ := className_of_methodNamed hnamed
  have hinitP : kP.init = .initialized := Cond.initialized_spec (findClass_of_methodNamed hnamed) hkP hinit
  obtain ⟨vm₁, X₁, hstep₁⟩ := X.invokestatic hexec hown hlink hnamed hmethM hstatic hkP hinitP hy (g := g) hg (argsL := argsL) (rest := rest) (hlen _ hsigM) hstack hdg
  rcases hK m meth c ⟨T.setVm vm₁, locs, cells, slots⟩ { g with stack := rest } (.invokestatic index) mk argsL.toArray X₁ hg hsize hdg hW (X₁.named hnamed) (hpre vm₁ X₁.warmed) with ⟨v, B, X', hpost, hsteps⟩ | ⟨q, B, X', hpost, hsteps⟩
  · exact Or.inl ⟨v, vm₁, B, X₁.warmed, X', hpost, fun target h => hstep₁ _ fun acts => by rw [doInvoke_state]; exact hsteps.trans h⟩
  · exact Or.inr ⟨q, vm₁, B, X₁.warmed, X', hpost, hstep₁ _ fun acts => by rw [doInvoke_state]; exact hsteps⟩
theorem vx_callVW (X : Stand p l e R s m args below meth c T locs cells slots) (hexec : p.tables.exec = Jvm.exec) {own C : String} {index : Nat} {y : MethodName} {bytes : ByteArray} {maxL : Nat} {ret : Option FieldType} {hh : List (Nat × Nat × Nat × Nat)}
    (hown : s.vm.findClass own = some m.cls) (hlink : (Cond.methodLink own index y).before args s = true) (hinst : (Cond.instanceMethod y).before args s = true) (hsel : (Cond.selects C y y).before args s = true)
    (hcode : (Cond.codeWith y bytes maxL ret hh).before args s = true) (hy : y.cls ≠ "java/lang/invoke/MethodHandle" ∧ y.cls ≠ "java/lang/invoke/VarHandle")
    {W9 : Nat} {Pre : Pt → Array Value → Prop} {Post : Pt → Array Value → Option Value → Pt → Prop} (hK : Back l R p e below s args y 3 W9 Pre Post)
    {b : Addr} {cellB : Cell} (hcell : T.heap[b]? = some cellB) (hobj : cellB.vm.isStatics = false) (hcls : s.vm.findClass C = some cellB.cls)
    {g : JFrame} (hg : g.method = m) (hsize : g.locals.size = c.maxLocals) {argsL rest : List Value} (hlen : ∀ sig, parseMethodDescriptor y.desc = some sig → argsL.length = sig.parameters.length)
    (hstack : g.stack = argsL.reverse ++ .ref b :: rest) (hW : 2 * g.monitorRoom + (rest.map fun v => v.category).sum ≤ W9) (hdg : decode c.code g.pc = .ok (.invokevirtual index, 3))
    (hpre : ∀ vm₁, s.WarmedH vm₁ → Pre ⟨T.setVm vm₁, locs, cells, slots⟩ (Value.ref b :: argsL).toArray) :
    ∃ (v : Option Value) (vm₁ : Vm) (B : Pt), s.WarmedH vm₁ ∧ Stand p l e R s m args below meth c B.U B.locs B.cells B.slots ∧ Post ⟨T.setVm vm₁, locs, cells, slots⟩ (Value.ref b :: argsL).toArray v B ∧
      ∀ target, Steps p.tables e below (B.U.setTop { g with pc := g.pc + 3, stack := v.toList ++ rest }) target → Steps p.tables e below (T.setTop g) target := by
  obtain ⟨mk, methM, hnamed, hmethM, hstM, habM⟩ := Cond.instanceMethod_spec hinst
  obtain ⟨m8, methM', cM, hn8, hmethM', -, -, -, -, -, -, hsigM⟩ := Cond.codeWith_spec hcode
  cases Option.some.inj (hn8.symm.trans hnamed)
  cases hmethM.symm.trans hmethM'
  obtain ⟨c2, r2, m2, q1, q2, q3, q4, kP, hkP, hkPi⟩ := Cond.selects_spec hsel
  cases hcls.symm.trans q1
  cases (State.methodFound?_of_named hnamed hy).symm.trans q2
  cases hnamed.symm.trans q3
  have hselP : selectMethod e.platform s.vm cellB.cls mk = .method mk := by rw [Launch.admits_selectMethod X.admits]; exact q4
  obtain ⟨vm₁, X₁, hstep₁⟩ := X.invokevirtual hexec hown hlink hnamed hmethM hstM hkP hkPi hy (a := b) (cell := cellB) hcell
    (fun z h => by rw [h] at hobj; cases hobj) hselP hmethM habM hkP hkPi (g := g) hg (argsL := argsL) (rest := rest) (hlen _ hsigM) hstack hdg
  obtain ⟨v, B, X', hpost, hsteps⟩ := hK m meth c ⟨T.setVm vm₁, locs, cells, slots⟩ { g with stack := rest } (.invokevirtual index) mk (Value.ref b :: argsL).toArray X₁ hg hsize hdg hW (X₁.named hnamed) (hpre vm₁ X₁.warmed)
  exact ⟨v, vm₁, B, X₁.warmed, X', hpost, fun target h => hstep₁ _ fun acts => by rw [doInvoke_state]; exact hsteps.trans h⟩
abbrev vx_CVW (R : Room) (s : State) (args : Array Value) (own C : String) (index : Nat) (y : MethodName) (bytes : ByteArray) (maxL : Nat) (ret : Option FieldType) (hh : List (Nat × Nat × Nat × Nat)) (ws : List Cond) (rm : Room) (mc ms n : Nat) : Prop :=
  (rm.cells = mc ∧ rm.slots = ms ∧ rm.frames + 1 ≤ R.frames ∧ 8 + (maxL + 11) + rm.locals ≤ R.locals ∧ (∀ w ∈ ws, ∀ (a' : Array Value) (U : State), s.WarmedH U.vm → w.before a' U = true) ∧ Cond.codeWith y bytes maxL ret hh ∈ ws) ∧
  (Cond.codeWith y bytes maxL ret hh).before args s = true ∧ (Cond.initialized y.cls).before args s = true ∧ (y.cls ≠ "java/lang/invoke/MethodHandle" ∧ y.cls ≠ "java/lang/invoke/VarHandle") ∧
  (∀ sig, parseMethodDescriptor y.desc = some sig → n = sig.parameters.length) ∧ (Cond.methodLink own index y).before args s = true ∧ (Cond.instanceMethod y).before args s = true ∧ (Cond.selects C y y).before args s = true
theorem vx_cwVW {own C : String} {index maxL mc ms : Nat} {y : MethodName} {bytes : ByteArray} {ret : Option FieldType} {hh : List (Nat × Nat × Nat × Nat)} {Ts ws ws' : List Cond} {rm : Room} (n : Nat) (ht : ∀ w ∈ Ts, w.before args s = true) (hT : GoodIn Ts (wsV own index C y ws)) (hw : ws = Cond.codeWith y bytes maxL ret hh :: ws') (hrc : rm.cells = mc) (hrs : rm.slots = ms)
    (hd : y.cls = C ∧ y.cls ≠ "java/lang/invoke/MethodHandle" ∧ y.cls ≠ "java/lang/invoke/VarHandle" ∧ (parseMethodDescriptor y.desc).map (fun d => d.parameters.length) = some n) (hR : rm.frames + 1 ≤ R.frames ∧ 8 + (maxL + 11) + rm.locals ≤ R.locals) :
    vx_CVW R s args own C index y bytes maxL ret hh ws rm mc ms n := by
  obtain ⟨hC, hd⟩ := hd
  subst hC
  have ok : ∀ w ∈ wsV own index y.cls y ws, w.before args s = true := fun w h => ht w (hT w h).1
  have hG : GoodIn Ts ws := fun w h => hT w (by unfold wsV; exact List.mem_append_right _ h)
  have hc : Cond.codeWith y bytes maxL ret hh ∈ ws := by rw [hw]; exact List.mem_cons_self
  refine ⟨⟨hrc, hrs, hR.1, hR.2, pay_in ht hG, hc⟩, ht _ (hG _ hc).1, ok _ (by simp [wsV]), ⟨hd.1, hd.2.1⟩, fun sig h => ?_, ok _ (by simp [wsV]), ok _ (by simp [wsV]), ok _ (by simp [wsV])⟩
  have h2 := hd.2.2
  rw [h] at h2
  exact (Option.some.inj h2).symm
theorem vx_runVW {y : MethodName} {bytes cc : ByteArray} {maxL nL mc ms n index : Nat} {ret : Option FieldType} {hh : List (Nat × Nat × Nat × Nat)} {ws : List Cond} {rm : Room} {Pc : Array Value → State → Prop} {Qc : Array Value → State → Outcome → State → Prop} {free : Addr → Prop} {Ts : List Cond} {own C : String} {b : Addr} {As rest : List Value} {g : JFrame}
    (S : CallFix p m c cc nL s args Ts own) (hM : Met l y ws rm Pc Qc mc ms free) (cw : vx_CVW R s args own C index y bytes maxL ret hh ws rm mc ms n) (hp : PreV s H C b Pc As)
    (hg : g.method = m) (hn : As.length = n) (hsize : g.locals.size = nL) (hstack : g.stack = As.reverse ++ .ref b :: rest) (hW : 2 * g.monitorRoom + (rest.map fun v => v.category).sum ≤ 8) (hdg : decode cc g.pc = .ok (.invokevirtual index, 3)) (hf : cells + mc ≤ R.cells ∧ slots + ms ≤ R.slots) :
    va_Run p l e R s m args below meth c H locs cells slots mc ms g rest (Qc (Value.ref b :: As).toArray) free := by
  obtain ⟨⟨hrc, hrs, hfr, hlo, hws, hcw⟩, hcode, hini, hy, hlen, hl, hin, hse⟩ := cw
  have hK : Back l R p e below s args y 3 8 (PreOf R mc ms Pc) (PostOf Qc mc ms free) := va_backW (hh := hh) (bytes := bytes) (maxL := maxL) (ret := ret) hM hp.1 hrc hrs hfr hlo hws hcw (fun a' U hW => word_at hW (Or.inl (by first | rfl | simp [Cond.onTables, Cond.keeps, Cond.steady])) hini)
  obtain ⟨hx, hb, hml, ho, -⟩ := S
  obtain ⟨-, ⟨cellB, hcB, hoB, hclB⟩, hPc⟩ := hp
  intro T hT X
  obtain ⟨v, vm₁, ⟨U', l2, c2, s2⟩, hW₁, X', ⟨g', mk, t, L, e1, e2, hq, h1, hL, h2, h3⟩, st⟩ := vx_callVW X hx (C := C) (hh := hh) (bytes := bytes) (maxL := maxL) (ret := ret) ho hl hin hse hcode hy hK (by rw [hT]; exact hcB) hoB hclB hg (hsize.trans hml.symm) (argsL := As) (rest := rest) (fun sig h => hn.trans (hlen sig h)) hstack hW (by rw [hb]; exact hdg)
    (fun vm₁ hW₁ => ⟨hf.1, hf.2, hPc (T.setVm vm₁) hT hW₁⟩)
  dsimp only [Pt.U, Pt.locs, Pt.cells, Pt.slots] at X' e1 e2 h1 h2 h3 st
  subst h1; subst h2; subst h3
  exact ⟨v, (T.setVm vm₁).calling g' mk (Value.ref b :: As).toArray, t, U', L, hT, X', hL, e1, e2, hq, st⟩
section
variable {y : MethodName} {bytes cc : ByteArray} {maxL nL mc ms n index : Nat} {ret : Option FieldType} {ws : List Cond} {rm : Room} {Pc : Array Value → State → Prop} {Qc : Array Value → State → Outcome → State → Prop} {XC : String → State → State → Prop} {free : Addr → Prop} {Ts : List Cond} {own C : String} {b : Addr} {As rest : List Value} {g : JFrame}
theorem vx_runVX {hh : List (Nat × Nat × Nat × Nat)} (S : CallFix p m c cc nL s args Ts own) (hM : vx_Met l y ws rm Pc Qc XC mc ms free) (cw : vx_CVW R s args own C index y bytes maxL ret hh ws rm mc ms n) (hp : PreV s H C b Pc As)
    (hg : g.method = m) (hn : As.length = n) (hsize : g.locals.size = nL) (hstack : g.stack = As.reverse ++ .ref b :: rest) (hW : 2 * g.monitorRoom + (rest.map fun v => v.category).sum ≤ 8) (hdg : decode cc g.pc = .ok (.invokevirtual index, 3)) (hf : cells + mc ≤ R.cells ∧ slots + ms ≤ R.slots) :
    vx_Run p l e R s m args below meth c H locs cells slots mc ms g rest (Qc (Value.ref b :: As).toArray) XC free := by
  obtain ⟨⟨hrc, hrs, hfr, hlo, hws, hcw⟩, hcode, hini, hy, hlen, hl, hin, hse⟩ := cw
  have hK : vx_Back l R p e below s args y 3 8 (PreOf R mc ms Pc) (PostOf Qc mc ms free) (vx_Post XC mc ms free) := vx_backW (hh := hh) (bytes := bytes) (maxL := maxL) (ret := ret) hM hp.1 hrc hrs hfr hlo hws hcw (fun a' U hW => word_at hW (Or.inl (by first | rfl | simp [Cond.onTables, Cond.keeps, Cond.steady])) hini)
  obtain ⟨hx, hb, hml, ho, -⟩ := S
  obtain ⟨-, ⟨cellB, hcB, hoB, hclB⟩, hPc⟩ := hp
  intro T hT X
  rcases vx_callVX X hx (C := C) (hh := hh) (bytes := bytes) (maxL := maxL) (ret := ret) ho hl hin hse hcode hy hK (by rw [hT]; exact hcB) hoB hclB hg (hsize.trans hml.symm) (argsL := As) (rest := rest) (fun sig h => hn.trans (hlen sig h)) hstack hW (by rw [hb]; exact hdg)
    (fun vm₁ hW₁ => ⟨hf.1, hf.2, hPc (T.setVm vm₁) hT hW₁⟩) with ⟨v, vm₁, ⟨U', l2, c2, s2⟩, hW₁, X', ⟨g', mk, t, L, e1, e2, hq, h1, hL, h2, h3⟩, st⟩ | ⟨q, vm₁, ⟨U', l2, c2, s2⟩, hW₁, X', ⟨g', mk, t, L, E, ce, e1, e2, hq, hce, hcv, hcl, h1, hL, h2, h3⟩, st⟩
  · dsimp only [Pt.U, Pt.locs, Pt.cells, Pt.slots] at X' e1 e2 h1 h2 h3 st
    subst h1; subst h2; subst h3
    exact Or.inl ⟨v, (T.setVm vm₁).calling g' mk (Value.ref b :: As).toArray, t, U', L, hT, X', hL, e1, e2, hq, st⟩
  · dsimp only [Pt.U, Pt.locs, Pt.cells, Pt.slots] at X' e1 e2 h1 h2 h3 st hcl
    subst h1; subst h2; subst h3
    exact Or.inr ⟨q, (T.setVm vm₁).calling g' mk (Value.ref b :: As).toArray, t, U', L, E, ce, hT, X', hL, e1, e2, hq, hce, hcv, vx_cls hW₁ hcl, st⟩
theorem vx_runSX {hh : List (Nat × Nat × Nat × Nat)} (S : CallFix p m c cc nL s args Ts own) (hM : vx_Met l y ws rm Pc Qc XC mc ms free) (cw : vx_CSW R s args own index y bytes maxL ret hh ws rm mc ms n) (hp : PreS s H Pc As)
    (hg : g.method = m) (hn : As.length = n) (hsize : g.locals.size = nL) (hstack : g.stack = As.reverse ++ rest) (hW : 2 * g.monitorRoom + (rest.map fun v => v.category).sum ≤ 8) (hdg : decode cc g.pc = .ok (.invokestatic index, 3)) (hf : cells + mc ≤ R.cells ∧ slots + ms ≤ R.slots) :
    vx_Run p l e R s m args below meth c H locs cells slots mc ms g rest (Qc As.toArray) XC free := by
  obtain ⟨⟨hrc, hrs, hfr, hlo, hws, hcw⟩, hcode, hini, hy, hlen, hl, hstt⟩ := cw
  have hK : vx_Back l R p e below s args y 3 8 (PreOf R mc ms Pc) (PostOf Qc mc ms free) (vx_Post XC mc ms free) := vx_backW (hh := hh) (bytes := bytes) (maxL := maxL) (ret := ret) hM hp.1 hrc hrs hfr hlo hws hcw (fun a' U hW => word_at hW (Or.inl (by first | rfl | simp [Cond.onTables, Cond.keeps, Cond.steady])) hini)
  obtain ⟨hx, hb, hml, ho, -⟩ := S
  intro T hT X
  rcases vx_callSX X hx (hh := hh) (bytes := bytes) (maxL := maxL) (ret := ret) ho hl hstt hini hcode hy hK hg (hsize.trans hml.symm) (argsL := As) (rest := rest) (fun sig h => hn.trans (hlen sig h)) hstack hW (by rw [hb]; exact hdg)
    (fun vm₁ hW₁ => ⟨hf.1, hf.2, hp.2 (T.setVm vm₁) hT hW₁⟩) with ⟨v, vm₁, ⟨U', l2, c2, s2⟩, hW₁, X', ⟨g', mk, t, L, e1, e2, hq, h1, hL, h2, h3⟩, st⟩ | ⟨q, vm₁, ⟨U', l2, c2, s2⟩, hW₁, X', ⟨g', mk, t, L, E, ce, e1, e2, hq, hce, hcv, hcl, h1, hL, h2, h3⟩, st⟩
  · dsimp only [Pt.U, Pt.locs, Pt.cells, Pt.slots] at X' e1 e2 h1 h2 h3 st
    subst h1; subst h2; subst h3
    exact Or.inl ⟨v, (T.setVm vm₁).calling g' mk As.toArray, t, U', L, hT, X', hL, e1, e2, hq, st⟩
  · dsimp only [Pt.U, Pt.locs, Pt.cells, Pt.slots] at X' e1 e2 h1 h2 h3 st hcl
    subst h1; subst h2; subst h3
    exact Or.inr ⟨q, (T.setVm vm₁).calling g' mk As.toArray, t, U', L, E, ce, hT, X', hL, e1, e2, hq, hce, hcv, vx_cls hW₁ hcl, st⟩
end
end VXH
theorem vx_ofWH {l : Launch} {y : MethodName} {ws ws' : List Cond} {rm : Room} {Pc : Array Value → State → Prop} {Qc : Array Value → State → Outcome → State → Prop} {XC : String → State → State → Prop} {mc ms : Nat} {free : Addr → Prop} {cc : ByteArray} {maxL : Nat} {ret : Option FieldType} {hh : List (Nat × Nat × Nat × Nat)}
    (hy : plainName y.cls = true) (hw : ws = Cond.codeWith y cc maxL ret hh :: ws')
    (body : ∀ p e s m args below meth c s₁, BodyLoose p l y (headSpec ws rm) cc maxL ret e s m args below meth c s₁ → c.maxLocals = maxL → Pc args s →
      W p l e (headSpec ws rm).room s m args below meth c s.heap [] 0 0 (vx_MQ below Qc XC args s mc ms free) (entryFrame m args maxL)) : vx_Met l y ws rm Pc Qc XC mc ms free := by
  refine MetFree.of_bodyS (code := cc) (maxLocals := maxL) (ret := ret) hy ?_ ?_
  · intro args s m h hn
    obtain ⟨m9, meth, c, hn9, h1, h2, h3, h4, -, h5, h6, -⟩ := Cond.codeWith_spec (atoms_spec (ws := ws) h _ (by rw [hw]; exact List.mem_cons_self))
    cases hn.symm.trans hn9
    exact ⟨meth, c, h1, h2, h3, h4, h5, h6⟩
  · intro p e s m args below meth c s₁ B hml hP _
    have hh0 : s₁.heap = s.heap := by rw [B.state]; rfl
    obtain ⟨t, a1, o, b1, b2, b3⟩ := body p e s m args below meth c s₁ B hml hP s₁ hh0 (Stand.of_body B)
    exact ⟨t, o, a1, b1, b2, b3⟩
/-! ===== END ===== -/
end
section
def RX0 : String := "Icehighway$Load"
def TX0 : u_T := fun k => match k with
  | 0 => ("Icehighway$Load", "goods", "I", true)
  | 1 => ("Icehighway$Load", "kilos", "I", true)
  | _ => ("Icehighway$Load", "isBack", "Z", false)
def tyX0 : Nat → FieldType := fun k => match k with
  | 0 => .int
  | 1 => .int
  | _ => .boolean
abbrev wsX00 : List Cond := u_ws RX0 TX0 3
theorem nmX0 : ∀ a, a < 3 → ∀ b, b < 3 → a ≠ b → (TX0 a).2.1 ≠ (TX0 b).2.1 := by decide +kernel
theorem tyX0_ok : ∀ k, k < 3 → parseFieldDescriptor (TX0 k).2.2.1 = some (tyX0 k) := by decide +kernel
abbrev cX0_init : ByteArray := prog_2_method_1_code
def yX0_init : MethodName := ⟨RX0, "<init>", "(II)V"⟩
def RX1 : String := "Icehighway$Piece"
def TX1 : u_T := fun k => match k with
  | 0 => ("Icehighway$Piece", "kind", "I", true)
  | 1 => ("Icehighway$Piece", "metres", "I", true)
  | 2 => ("Icehighway$Piece", "depth", "I", true)
  | 3 => ("Icehighway$Piece", "black", "I", false)
  | 4 => ("Icehighway$Piece", "white", "I", false)
  | 5 => ("Icehighway$Piece", "water", "I", false)
  | 6 => ("Icehighway$Piece", "snow", "I", false)
  | 7 => ("Icehighway$Piece", "crack", "I", false)
  | 8 => ("Icehighway$Piece", "openness", "I", false)
  | 9 => ("Icehighway$Piece", "speedLimit", "I", false)
  | 10 => ("Icehighway$Piece", "known", "D", false)
  | 11 => ("Icehighway$Piece", "onToMine", "I", false)
  | 12 => ("Icehighway$Piece", "onToBase", "I", false)
  | 13 => ("Icehighway$Piece", "weightOn", "I", false)
  | 14 => ("Icehighway$Piece", "lastToMine", "I", false)
  | _ => ("Icehighway$Piece", "lastToBase", "I", false)
def tyX1 : Nat → FieldType := fun k => match k with
  | 0 => .int
  | 1 => .int
  | 2 => .int
  | 3 => .int
  | 4 => .int
  | 5 => .int
  | 6 => .int
  | 7 => .int
  | 8 => .int
  | 9 => .int
  | 10 => .double
  | 11 => .int
  | 12 => .int
  | 13 => .int
  | 14 => .int
  | _ => .int
abbrev wsX10 : List Cond := u_ws RX1 TX1 16
theorem nmX1 : ∀ a, a < 16 → ∀ b, b < 16 → a ≠ b → (TX1 a).2.1 ≠ (TX1 b).2.1 := by decide +kernel
theorem tyX1_ok : ∀ k, k < 16 → parseFieldDescriptor (TX1 k).2.2.1 = some (tyX1 k) := by decide +kernel
abbrev cX1_init : ByteArray := prog_3_method_1_code
def yX1_init : MethodName := ⟨RX1, "<init>", "(III)V"⟩
abbrev cX1_isWaterPiece : ByteArray := prog_3_method_2_code
def yX1_isWaterPiece : MethodName := ⟨RX1, "isWaterPiece", "()Z"⟩
abbrev cX1_hasIce : ByteArray := prog_3_method_3_code
def yX1_hasIce : MethodName := ⟨RX1, "hasIce", "()Z"⟩
abbrev cX1_realThickness : ByteArray := prog_3_method_4_code
def yX1_realThickness : MethodName := ⟨RX1, "realThickness", "()D"⟩
abbrev cX1_thicknessAs : ByteArray := prog_3_method_5_code
def yX1_thicknessAs : MethodName := ⟨RX1, "thicknessAs", "(Z)D"⟩
abbrev cX1_bearsAs : ByteArray := prog_3_method_6_code
def yX1_bearsAs : MethodName := ⟨RX1, "bearsAs", "(Z)I"⟩
abbrev cX1_freeze : ByteArray := prog_3_method_7_code
def yX1_freeze : MethodName := ⟨RX1, "freeze", "(I)V"⟩
abbrev cX1_growth : ByteArray := prog_3_method_8_code
def yX1_growth : MethodName := ⟨RX1, "growth", "(I)I"⟩
abbrev cX1_thaw : ByteArray := prog_3_method_9_code
def yX1_thaw : MethodName := ⟨RX1, "thaw", "(I)V"⟩
abbrev cX1_speedOf : ByteArray := prog_3_method_10_code
def yX1_speedOf : MethodName := ⟨RX1, "speedOf", "(LIcehighway$Vehicle;)I"⟩
abbrev cX1_minutesOf : ByteArray := prog_3_method_11_code
def yX1_minutesOf : MethodName := ⟨RX1, "minutesOf", "(LIcehighway$Vehicle;)I"⟩
abbrev cX1_countOn : ByteArray := prog_3_method_12_code
def yX1_countOn : MethodName := ⟨RX1, "countOn", "(Z)I"⟩
abbrev cX1_lastComing : ByteArray := prog_3_method_13_code
def yX1_lastComing : MethodName := ⟨RX1, "lastComing", "(Z)I"⟩
abbrev cX1_noteComing : ByteArray := prog_3_method_14_code
def yX1_noteComing : MethodName := ⟨RX1, "noteComing", "(ZI)V"⟩
abbrev cX1_takeOn : ByteArray := prog_3_method_15_code
def yX1_takeOn : MethodName := ⟨RX1, "takeOn", "(LIcehighway$Vehicle;)V"⟩
abbrev cX1_letOff : ByteArray := prog_3_method_16_code
def yX1_letOff : MethodName := ⟨RX1, "letOff", "(LIcehighway$Vehicle;)V"⟩
abbrev cX1_breakUp : ByteArray := prog_3_method_17_code
def yX1_breakUp : MethodName := ⟨RX1, "breakUp", "()V"⟩
def RX2 : String := "Icehighway$Vehicle"
def TX2 : u_T := fun k => match k with
  | 0 => ("Icehighway$Vehicle", "empty", "I", true)
  | 1 => ("Icehighway$Vehicle", "carries", "I", true)
  | 2 => ("Icehighway$Vehicle", "ownSpeed", "I", true)
  | 3 => ("Icehighway$Vehicle", "where", "I", false)
  | 4 => ("Icehighway$Vehicle", "between", "I", false)
  | 5 => ("Icehighway$Vehicle", "isToMine", "Z", false)
  | 6 => ("Icehighway$Vehicle", "overAt", "I", false)
  | _ => ("Icehighway$Vehicle", "cargo", "LIcehighway$Load;", false)
def tyX2 : Nat → FieldType := fun k => match k with
  | 0 => .int
  | 1 => .int
  | 2 => .int
  | 3 => .int
  | 4 => .int
  | 5 => .boolean
  | 6 => .int
  | _ => .object "Icehighway$Load"
abbrev wsX20 : List Cond := u_ws RX2 TX2 8
theorem nmX2 : ∀ a, a < 8 → ∀ b, b < 8 → a ≠ b → (TX2 a).2.1 ≠ (TX2 b).2.1 := by decide +kernel
theorem tyX2_ok : ∀ k, k < 8 → parseFieldDescriptor (TX2 k).2.2.1 = some (tyX2 k) := by decide +kernel
abbrev cX2_init : ByteArray := prog_4_method_1_code
def yX2_init : MethodName := ⟨RX2, "<init>", "(III)V"⟩
abbrev cX2_weight : ByteArray := prog_4_method_2_code
def yX2_weight : MethodName := ⟨RX2, "weight", "()I"⟩
def RX3 : String := "Icehighway"
def TX3 : u_T := fun k => match k with
  | 0 => ("Icehighway", "pieces", "Ljava/util/List;", true)
  | 1 => ("Icehighway", "vehicles", "Ljava/util/List;", true)
  | 2 => ("Icehighway", "entered", "Ljava/util/List;", true)
  | 3 => ("Icehighway", "taken", "[I", true)
  | 4 => ("Icehighway", "brought", "[I", true)
  | 5 => ("Icehighway", "ordered", "[I", true)
  | 6 => ("Icehighway", "now", "I", false)
  | 7 => ("Icehighway", "cold", "I", false)
  | _ => ("Icehighway", "gapMinutes", "I", false)
def tyX3 : Nat → FieldType := fun k => match k with
  | 0 => .object "java/util/List"
  | 1 => .object "java/util/List"
  | 2 => .object "java/util/List"
  | 3 => .array .int
  | 4 => .array .int
  | 5 => .array .int
  | 6 => .int
  | 7 => .int
  | _ => .int
abbrev wsX30 : List Cond := u_ws RX3 TX3 9
theorem nmX3 : ∀ a, a < 9 → ∀ b, b < 9 → a ≠ b → (TX3 a).2.1 ≠ (TX3 b).2.1 := by decide +kernel
theorem tyX3_ok : ∀ k, k < 9 → parseFieldDescriptor (TX3 k).2.2.1 = some (tyX3 k) := by decide +kernel
abbrev cX3_init : ByteArray := prog_1_method_1_code
def yX3_init : MethodName := ⟨RX3, "<init>", "()V"⟩
abbrev cX3_piece : ByteArray := prog_1_method_2_code
def yX3_piece : MethodName := ⟨RX3, "piece", "(III)I"⟩
abbrev cX3_weather : ByteArray := prog_1_method_3_code
def yX3_weather : MethodName := ⟨RX3, "weather", "(I)I"⟩
abbrev cX3_snow : ByteArray := prog_1_method_4_code
def yX3_snow : MethodName := ⟨RX3, "snow", "(I)I"⟩
abbrev cX3_plough : ByteArray := prog_1_method_5_code
def yX3_plough : MethodName := ⟨RX3, "plough", "(I)I"⟩
abbrev cX3_flood : ByteArray := prog_1_method_6_code
def yX3_flood : MethodName := ⟨RX3, "flood", "(II)I"⟩
abbrev cX3_drill : ByteArray := prog_1_method_7_code
def yX3_drill : MethodName := ⟨RX3, "drill", "(I)D"⟩
abbrev cX3_open : ByteArray := prog_1_method_8_code
def yX3_open : MethodName := ⟨RX3, "open", "(II)I"⟩
abbrev cX3_limit : ByteArray := prog_1_method_9_code
def yX3_limit : MethodName := ⟨RX3, "limit", "(II)I"⟩
abbrev cX3_gap : ByteArray := prog_1_method_10_code
def yX3_gap : MethodName := ⟨RX3, "gap", "(I)I"⟩
abbrev cX3_vehicle : ByteArray := prog_1_method_11_code
def yX3_vehicle : MethodName := ⟨RX3, "vehicle", "(III)I"⟩
abbrev cX3_load : ByteArray := prog_1_method_12_code
def yX3_load : MethodName := ⟨RX3, "load", "(III)I"⟩
abbrev cX3_go : ByteArray := prog_1_method_13_code
def yX3_go : MethodName := ⟨RX3, "go", "(I)Z"⟩
abbrev cX3_turn : ByteArray := prog_1_method_14_code
def yX3_turn : MethodName := ⟨RX3, "turn", "(I)Z"⟩
abbrev cX3_order : ByteArray := prog_1_method_15_code
def yX3_order : MethodName := ⟨RX3, "order", "(II)I"⟩
abbrev cX3_pass : ByteArray := prog_1_method_16_code
def yX3_pass : MethodName := ⟨RX3, "pass", "(I)I"⟩
abbrev cX3_minute : ByteArray := prog_1_method_17_code
def yX3_minute : MethodName := ⟨RX3, "minute", "()I"⟩
abbrev cX3_told : ByteArray := prog_1_method_18_code
def yX3_told : MethodName := ⟨RX3, "told", "(II)I"⟩
abbrev cX3_thickness : ByteArray := prog_1_method_19_code
def yX3_thickness : MethodName := ⟨RX3, "thickness", "(IZ)D"⟩
abbrev cX3_bears : ByteArray := prog_1_method_20_code
def yX3_bears : MethodName := ⟨RX3, "bears", "(IZ)I"⟩
abbrev cX3_ofVehicle : ByteArray := prog_1_method_21_code
def yX3_ofVehicle : MethodName := ⟨RX3, "ofVehicle", "(II)I"⟩
abbrev cX3_why : ByteArray := prog_1_method_22_code
def yX3_why : MethodName := ⟨RX3, "why", "(I)I"⟩
abbrev cX3_speed : ByteArray := prog_1_method_23_code
def yX3_speed : MethodName := ⟨RX3, "speed", "(II)I"⟩
abbrev cX3_minutes : ByteArray := prog_1_method_24_code
def yX3_minutes : MethodName := ⟨RX3, "minutes", "(II)I"⟩
abbrev cX3_minutesAnew : ByteArray := prog_1_method_25_code
def yX3_minutesAnew : MethodName := ⟨RX3, "minutesAnew", "(II)I"⟩
abbrev cX3_kilos : ByteArray := prog_1_method_26_code
def yX3_kilos : MethodName := ⟨RX3, "kilos", "(II)I"⟩
abbrev cX3_kilosAnew : ByteArray := prog_1_method_27_code
def yX3_kilosAnew : MethodName := ⟨RX3, "kilosAnew", "(I)I"⟩
abbrev cX3_bill : ByteArray := prog_1_method_28_code
def yX3_bill : MethodName := ⟨RX3, "bill", "()J"⟩
abbrev cX3_needRange : ByteArray := prog_1_method_29_code
def yX3_needRange : MethodName := ⟨RX3, "needRange", "(III)V"⟩
abbrev cX3_needGoods : ByteArray := prog_1_method_30_code
def yX3_needGoods : MethodName := ⟨RX3, "needGoods", "(I)V"⟩
abbrev cX3_pieceNumbered : ByteArray := prog_1_method_31_code
def yX3_pieceNumbered : MethodName := ⟨RX3, "pieceNumbered", "(I)LIcehighway$Piece;"⟩
abbrev cX3_vehicleNumbered : ByteArray := prog_1_method_32_code
def yX3_vehicleNumbered : MethodName := ⟨RX3, "vehicleNumbered", "(I)LIcehighway$Vehicle;"⟩
abbrev cX3_kilosInVehicles : ByteArray := prog_1_method_33_code
def yX3_kilosInVehicles : MethodName := ⟨RX3, "kilosInVehicles", "(IZ)I"⟩
abbrev cX3_kilosMissing : ByteArray := prog_1_method_34_code
def yX3_kilosMissing : MethodName := ⟨RX3, "kilosMissing", "(I)I"⟩
abbrev cX3_unload : ByteArray := prog_1_method_35_code
def yX3_unload : MethodName := ⟨RX3, "unload", "(LIcehighway$Vehicle;)V"⟩
abbrev cX3_passOneMinute : ByteArray := prog_1_method_36_code
def yX3_passOneMinute : MethodName := ⟨RX3, "passOneMinute", "()V"⟩
abbrev cX3_endDay : ByteArray := prog_1_method_37_code
def yX3_endDay : MethodName := ⟨RX3, "endDay", "()V"⟩
abbrev cX3_moveOn : ByteArray := prog_1_method_38_code
def yX3_moveOn : MethodName := ⟨RX3, "moveOn", "(LIcehighway$Vehicle;)V"⟩
abbrev cX3_leave : ByteArray := prog_1_method_39_code
def yX3_leave : MethodName := ⟨RX3, "leave", "(LIcehighway$Vehicle;)V"⟩
abbrev cX3_stopAtEnd : ByteArray := prog_1_method_40_code
def yX3_stopAtEnd : MethodName := ⟨RX3, "stopAtEnd", "(LIcehighway$Vehicle;)V"⟩
abbrev cX3_comeOnto : ByteArray := prog_1_method_41_code
def yX3_comeOnto : MethodName := ⟨RX3, "comeOnto", "(LIcehighway$Vehicle;)V"⟩
abbrev cX3_pieceAhead : ByteArray := prog_1_method_42_code
def yX3_pieceAhead : MethodName := ⟨RX3, "pieceAhead", "(LIcehighway$Vehicle;)LIcehighway$Piece;"⟩
abbrev cX3_whatIsAgainst : ByteArray := prog_1_method_43_code
def yX3_whatIsAgainst : MethodName := ⟨RX3, "whatIsAgainst", "(LIcehighway$Vehicle;)I"⟩
def RX4 : String := "IcehighwayModel"
def TX4 : u_T := fun k => match k with
  | 0 => ("IcehighwayModel", "minute", "I", false)
  | 1 => ("IcehighwayModel", "cold", "I", false)
  | 2 => ("IcehighwayModel", "gap", "I", false)
  | 3 => ("IcehighwayModel", "pieces", "I", false)
  | 4 => ("IcehighwayModel", "kind", "[I", true)
  | 5 => ("IcehighwayModel", "metres", "[I", true)
  | 6 => ("IcehighwayModel", "depth", "[I", true)
  | 7 => ("IcehighwayModel", "black", "[I", true)
  | 8 => ("IcehighwayModel", "white", "[I", true)
  | 9 => ("IcehighwayModel", "water", "[I", true)
  | 10 => ("IcehighwayModel", "snow", "[I", true)
  | 11 => ("IcehighwayModel", "crack", "[I", true)
  | 12 => ("IcehighwayModel", "open", "[I", true)
  | 13 => ("IcehighwayModel", "limit", "[I", true)
  | 14 => ("IcehighwayModel", "known", "[D", true)
  | 15 => ("IcehighwayModel", "came", "[I", true)
  | 16 => ("IcehighwayModel", "vehicles", "I", false)
  | 17 => ("IcehighwayModel", "empty", "[I", true)
  | 18 => ("IcehighwayModel", "carries", "[I", true)
  | 19 => ("IcehighwayModel", "fast", "[I", true)
  | 20 => ("IcehighwayModel", "where", "[I", true)
  | 21 => ("IcehighwayModel", "at", "[I", true)
  | 22 => ("IcehighwayModel", "toMine", "[Z", true)
  | 23 => ("IcehighwayModel", "over", "[I", true)
  | 24 => ("IcehighwayModel", "load", "[I", true)
  | 25 => ("IcehighwayModel", "goods", "[I", true)
  | 26 => ("IcehighwayModel", "taken", "[I", true)
  | 27 => ("IcehighwayModel", "brought", "[I", true)
  | 28 => ("IcehighwayModel", "ordered", "[I", true)
  | _ => ("IcehighwayModel", "thrown", "I", false)
def tyX4 : Nat → FieldType := fun k => match k with
  | 0 => .int
  | 1 => .int
  | 2 => .int
  | 3 => .int
  | 4 => .array .int
  | 5 => .array .int
  | 6 => .array .int
  | 7 => .array .int
  | 8 => .array .int
  | 9 => .array .int
  | 10 => .array .int
  | 11 => .array .int
  | 12 => .array .int
  | 13 => .array .int
  | 14 => .array .double
  | 15 => .array .int
  | 16 => .int
  | 17 => .array .int
  | 18 => .array .int
  | 19 => .array .int
  | 20 => .array .int
  | 21 => .array .int
  | 22 => .array .boolean
  | 23 => .array .int
  | 24 => .array .int
  | 25 => .array .int
  | 26 => .array .int
  | 27 => .array .int
  | 28 => .array .int
  | _ => .int
abbrev wsX40 : List Cond := u_ws RX4 TX4 30
theorem nmX4 : ∀ a, a < 30 → ∀ b, b < 30 → a ≠ b → (TX4 a).2.1 ≠ (TX4 b).2.1 := by decide +kernel
theorem tyX4_ok : ∀ k, k < 30 → parseFieldDescriptor (TX4 k).2.2.1 = some (tyX4 k) := by decide +kernel
abbrev cX4_init : ByteArray := prog_6_method_1_code
def yX4_init : MethodName := ⟨RX4, "<init>", "()V"⟩
abbrev cX4_thrown : ByteArray := prog_6_method_2_code
def yX4_thrown : MethodName := ⟨RX4, "thrown", "()I"⟩
abbrev cX4_fails : ByteArray := prog_6_method_3_code
def yX4_fails : MethodName := ⟨RX4, "fails", "(I)Z"⟩
abbrev cX4_isIn : ByteArray := prog_6_method_4_code
def yX4_isIn : MethodName := ⟨RX4, "isIn", "(III)Z"⟩
abbrev cX4_isPiece : ByteArray := prog_6_method_5_code
def yX4_isPiece : MethodName := ⟨RX4, "isPiece", "(I)Z"⟩
abbrev cX4_isVehicle : ByteArray := prog_6_method_6_code
def yX4_isVehicle : MethodName := ⟨RX4, "isVehicle", "(I)Z"⟩
abbrev cX4_isGoods : ByteArray := prog_6_method_7_code
def yX4_isGoods : MethodName := ⟨RX4, "isGoods", "(I)Z"⟩
abbrev cX4_isWater : ByteArray := prog_6_method_8_code
def yX4_isWater : MethodName := ⟨RX4, "isWater", "(I)Z"⟩
abbrev cX4_piece : ByteArray := prog_6_method_9_code
def yX4_piece : MethodName := ⟨RX4, "piece", "(III)I"⟩
abbrev cX4_weather : ByteArray := prog_6_method_10_code
def yX4_weather : MethodName := ⟨RX4, "weather", "(I)I"⟩
abbrev cX4_snow : ByteArray := prog_6_method_11_code
def yX4_snow : MethodName := ⟨RX4, "snow", "(I)I"⟩
abbrev cX4_plough : ByteArray := prog_6_method_12_code
def yX4_plough : MethodName := ⟨RX4, "plough", "(I)I"⟩
abbrev cX4_flood : ByteArray := prog_6_method_13_code
def yX4_flood : MethodName := ⟨RX4, "flood", "(II)I"⟩
abbrev cX4_thick : ByteArray := prog_6_method_14_code
def yX4_thick : MethodName := ⟨RX4, "thick", "(I)D"⟩
abbrev cX4_drill : ByteArray := prog_6_method_15_code
def yX4_drill : MethodName := ⟨RX4, "drill", "(I)D"⟩
abbrev cX4_open : ByteArray := prog_6_method_16_code
def yX4_open : MethodName := ⟨RX4, "open", "(II)I"⟩
abbrev cX4_limit : ByteArray := prog_6_method_17_code
def yX4_limit : MethodName := ⟨RX4, "limit", "(II)I"⟩
abbrev cX4_gap : ByteArray := prog_6_method_18_code
def yX4_gap : MethodName := ⟨RX4, "gap", "(I)I"⟩
abbrev cX4_vehicle : ByteArray := prog_6_method_19_code
def yX4_vehicle : MethodName := ⟨RX4, "vehicle", "(III)I"⟩
abbrev cX4_weight : ByteArray := prog_6_method_20_code
def yX4_weight : MethodName := ⟨RX4, "weight", "(I)I"⟩
abbrev cX4_load : ByteArray := prog_6_method_21_code
def yX4_load : MethodName := ⟨RX4, "load", "(III)I"⟩
abbrev cX4_unloads : ByteArray := prog_6_method_22_code
def yX4_unloads : MethodName := ⟨RX4, "unloads", "(IZ)V"⟩
abbrev cX4_go : ByteArray := prog_6_method_23_code
def yX4_go : MethodName := ⟨RX4, "go", "(I)Z"⟩
abbrev cX4_isThere : ByteArray := prog_6_method_24_code
def yX4_isThere : MethodName := ⟨RX4, "isThere", "(I)Z"⟩
abbrev cX4_arrives : ByteArray := prog_6_method_25_code
def yX4_arrives : MethodName := ⟨RX4, "arrives", "(I)V"⟩
abbrev cX4_turn : ByteArray := prog_6_method_26_code
def yX4_turn : MethodName := ⟨RX4, "turn", "(I)Z"⟩
abbrev cX4_order : ByteArray := prog_6_method_27_code
def yX4_order : MethodName := ⟨RX4, "order", "(II)I"⟩
abbrev cX4_freezes : ByteArray := prog_6_method_28_code
def yX4_freezes : MethodName := ⟨RX4, "freezes", "(I)V"⟩
abbrev cX4_thaws : ByteArray := prog_6_method_29_code
def yX4_thaws : MethodName := ⟨RX4, "thaws", "(I)V"⟩
abbrev cX4_ends : ByteArray := prog_6_method_30_code
def yX4_ends : MethodName := ⟨RX4, "ends", "()V"⟩
abbrev cX4_bearsBy : ByteArray := prog_6_method_31_code
def yX4_bearsBy : MethodName := ⟨RX4, "bearsBy", "(ID)I"⟩
abbrev cX4_speedOn : ByteArray := prog_6_method_32_code
def yX4_speedOn : MethodName := ⟨RX4, "speedOn", "(II)I"⟩
abbrev cX4_minutesOn : ByteArray := prog_6_method_33_code
def yX4_minutesOn : MethodName := ⟨RX4, "minutesOn", "(II)I"⟩
abbrev cX4_weights : ByteArray := prog_6_method_34_code
def yX4_weights : MethodName := ⟨RX4, "weights", "(I)I"⟩
abbrev cX4_isMet : ByteArray := prog_6_method_35_code
def yX4_isMet : MethodName := ⟨RX4, "isMet", "(II)Z"⟩
abbrev cX4_nextPiece : ByteArray := prog_6_method_36_code
def yX4_nextPiece : MethodName := ⟨RX4, "nextPiece", "(I)I"⟩
abbrev cX4_against : ByteArray := prog_6_method_37_code
def yX4_against : MethodName := ⟨RX4, "against", "(I)I"⟩
abbrev cX4_leaves : ByteArray := prog_6_method_38_code
def yX4_leaves : MethodName := ⟨RX4, "leaves", "(I)V"⟩
abbrev cX4_comes : ByteArray := prog_6_method_39_code
def yX4_comes : MethodName := ⟨RX4, "comes", "(I)V"⟩
abbrev cX4_passes : ByteArray := prog_6_method_40_code
def yX4_passes : MethodName := ⟨RX4, "passes", "()V"⟩
abbrev cX4_pass : ByteArray := prog_6_method_41_code
def yX4_pass : MethodName := ⟨RX4, "pass", "(I)I"⟩
abbrev cX4_minute : ByteArray := prog_6_method_42_code
def yX4_minute : MethodName := ⟨RX4, "minute", "()I"⟩
abbrev cX4_told : ByteArray := prog_6_method_43_code
def yX4_told : MethodName := ⟨RX4, "told", "(II)I"⟩
abbrev cX4_many : ByteArray := prog_6_method_44_code
def yX4_many : MethodName := ⟨RX4, "many", "(I)I"⟩
abbrev cX4_thickness : ByteArray := prog_6_method_45_code
def yX4_thickness : MethodName := ⟨RX4, "thickness", "(IZ)D"⟩
abbrev cX4_bears : ByteArray := prog_6_method_46_code
def yX4_bears : MethodName := ⟨RX4, "bears", "(IZ)I"⟩
abbrev cX4_ofVehicle : ByteArray := prog_6_method_47_code
def yX4_ofVehicle : MethodName := ⟨RX4, "ofVehicle", "(II)I"⟩
abbrev cX4_why : ByteArray := prog_6_method_48_code
def yX4_why : MethodName := ⟨RX4, "why", "(I)I"⟩
abbrev cX4_speed : ByteArray := prog_6_method_49_code
def yX4_speed : MethodName := ⟨RX4, "speed", "(II)I"⟩
abbrev cX4_minutes : ByteArray := prog_6_method_50_code
def yX4_minutes : MethodName := ⟨RX4, "minutes", "(II)I"⟩
abbrev cX4_minutesAnew : ByteArray := prog_6_method_51_code
def yX4_minutesAnew : MethodName := ⟨RX4, "minutesAnew", "(II)I"⟩
abbrev cX4_carried : ByteArray := prog_6_method_52_code
def yX4_carried : MethodName := ⟨RX4, "carried", "(IZ)I"⟩
abbrev cX4_missing : ByteArray := prog_6_method_53_code
def yX4_missing : MethodName := ⟨RX4, "missing", "(I)I"⟩
abbrev cX4_kilos : ByteArray := prog_6_method_54_code
def yX4_kilos : MethodName := ⟨RX4, "kilos", "(II)I"⟩
abbrev cX4_kilosAnew : ByteArray := prog_6_method_55_code
def yX4_kilosAnew : MethodName := ⟨RX4, "kilosAnew", "(I)I"⟩
abbrev cX4_bill : ByteArray := prog_6_method_56_code
def yX4_bill : MethodName := ⟨RX4, "bill", "()J"⟩
def RJx145de : String := "java/io/Serializable"
def TJx145de : u_T := fun k => match k with
  | _ => ("", "", "", false)
def tyJx145de : Nat → FieldType := fun k => match k with
  | _ => .int
abbrev wsJx145de0 : List Cond := u_ws RJx145de TJx145de 0
theorem nmJx145de : ∀ a, a < 0 → ∀ b, b < 0 → a ≠ b → (TJx145de a).2.1 ≠ (TJx145de b).2.1 := by decide +kernel
theorem tyJx145de_ok : ∀ k, k < 0 → parseFieldDescriptor (TJx145de k).2.2.1 = some (tyJx145de k) := by decide +kernel
def RJx8e188 : String := "java/lang/Cloneable"
def TJx8e188 : u_T := fun k => match k with
  | _ => ("", "", "", false)
def tyJx8e188 : Nat → FieldType := fun k => match k with
  | _ => .int
abbrev wsJx8e1880 : List Cond := u_ws RJx8e188 TJx8e188 0
theorem nmJx8e188 : ∀ a, a < 0 → ∀ b, b < 0 → a ≠ b → (TJx8e188 a).2.1 ≠ (TJx8e188 b).2.1 := by decide +kernel
theorem tyJx8e188_ok : ∀ k, k < 0 → parseFieldDescriptor (TJx8e188 k).2.2.1 = some (tyJx8e188 k) := by decide +kernel
def RJxab1ab : String := "java/lang/Iterable"
def TJxab1ab : u_T := fun k => match k with
  | _ => ("", "", "", false)
def tyJxab1ab : Nat → FieldType := fun k => match k with
  | _ => .int
abbrev wsJxab1ab0 : List Cond := u_ws RJxab1ab TJxab1ab 0
theorem nmJxab1ab : ∀ a, a < 0 → ∀ b, b < 0 → a ≠ b → (TJxab1ab a).2.1 ≠ (TJxab1ab b).2.1 := by decide +kernel
theorem tyJxab1ab_ok : ∀ k, k < 0 → parseFieldDescriptor (TJxab1ab k).2.2.1 = some (tyJxab1ab k) := by decide +kernel
def RJ9 : String := "java/lang/Math"
def TJ9 : u_T := fun k => match k with
  | _ => ("", "", "", false)
def tyJ9 : Nat → FieldType := fun k => match k with
  | _ => .int
abbrev wsJ90 : List Cond := u_ws RJ9 TJ9 0
theorem nmJ9 : ∀ a, a < 0 → ∀ b, b < 0 → a ≠ b → (TJ9 a).2.1 ≠ (TJ9 b).2.1 := by decide +kernel
theorem tyJ9_ok : ∀ k, k < 0 → parseFieldDescriptor (TJ9 k).2.2.1 = some (tyJ9 k) := by decide +kernel
abbrev cJ9_max_7cf53 : ByteArray := prog_14_method_65_code
def yJ9_max_7cf53 : MethodName := ⟨RJ9, "max", "(II)I"⟩
abbrev cJ9_min_7cf53 : ByteArray := prog_14_method_69_code
def yJ9_min_7cf53 : MethodName := ⟨RJ9, "min", "(II)I"⟩
def RJ0 : String := "java/lang/String"
def TJ0 : u_T := fun k => match k with
  | _ => ("", "", "", false)
def tyJ0 : Nat → FieldType := fun k => match k with
  | _ => .int
abbrev wsJ00 : List Cond := u_ws RJ0 TJ0 0
theorem nmJ0 : ∀ a, a < 0 → ∀ b, b < 0 → a ≠ b → (TJ0 a).2.1 ≠ (TJ0 b).2.1 := by decide +kernel
theorem tyJ0_ok : ∀ k, k < 0 → parseFieldDescriptor (TJ0 k).2.2.1 = some (tyJ0 k) := by decide +kernel
def RJ10 : String := "java/lang/System"
def TJ10 : u_T := fun k => match k with
  | _ => ("", "", "", false)
def tyJ10 : Nat → FieldType := fun k => match k with
  | _ => .int
abbrev wsJ100 : List Cond := u_ws RJ10 TJ10 0
theorem nmJ10 : ∀ a, a < 0 → ∀ b, b < 0 → a ≠ b → (TJ10 a).2.1 ≠ (TJ10 b).2.1 := by decide +kernel
theorem tyJ10_ok : ∀ k, k < 0 → parseFieldDescriptor (TJ10 k).2.2.1 = some (tyJ10 k) := by decide +kernel
def RJxa1e45 : String := "java/util/AbstractCollection"
def TJxa1e45 : u_T := fun k => match k with
  | _ => ("", "", "", false)
def tyJxa1e45 : Nat → FieldType := fun k => match k with
  | _ => .int
abbrev wsJxa1e450 : List Cond := u_ws RJxa1e45 TJxa1e45 0
theorem nmJxa1e45 : ∀ a, a < 0 → ∀ b, b < 0 → a ≠ b → (TJxa1e45 a).2.1 ≠ (TJxa1e45 b).2.1 := by decide +kernel
theorem tyJxa1e45_ok : ∀ k, k < 0 → parseFieldDescriptor (TJxa1e45 k).2.2.1 = some (tyJxa1e45 k) := by decide +kernel
abbrev cJxa1e45_init_da8c8 : ByteArray := prog_19_method_1_code
def yJxa1e45_init_da8c8 : MethodName := ⟨RJxa1e45, "<init>", "()V"⟩
def RJxc12de : String := "java/util/AbstractList"
def TJxc12de : u_T := fun k => match k with
  | _ => ("", "", "", false)
def tyJxc12de : Nat → FieldType := fun k => match k with
  | _ => .int
abbrev wsJxc12de0 : List Cond := u_ws RJxc12de TJxc12de 0
theorem nmJxc12de : ∀ a, a < 0 → ∀ b, b < 0 → a ≠ b → (TJxc12de a).2.1 ≠ (TJxc12de b).2.1 := by decide +kernel
theorem tyJxc12de_ok : ∀ k, k < 0 → parseFieldDescriptor (TJxc12de k).2.2.1 = some (tyJxc12de k) := by decide +kernel
abbrev cJxc12de_init_da8c8 : ByteArray := prog_20_method_1_code
def yJxc12de_init_da8c8 : MethodName := ⟨RJxc12de, "<init>", "()V"⟩
def RJx4a65c : String := "java/util/ArrayList"
def TJx4a65c : u_T := fun k => match k with
  | 0 => ("java/util/AbstractList", "modCount", "I", false)
  | 1 => ("java/util/ArrayList", "elementData", "[Ljava/lang/Object;", false)
  | _ => ("java/util/ArrayList", "size", "I", false)
def tyJx4a65c : Nat → FieldType := fun k => match k with
  | 0 => .int
  | 1 => .array (.object "java/lang/Object")
  | _ => .int
abbrev wsJx4a65c0 : List Cond := u_ws RJx4a65c TJx4a65c 3
theorem nmJx4a65c : ∀ a, a < 3 → ∀ b, b < 3 → a ≠ b → (TJx4a65c a).2.1 ≠ (TJx4a65c b).2.1 := by decide +kernel
theorem tyJx4a65c_ok : ∀ k, k < 3 → parseFieldDescriptor (TJx4a65c k).2.2.1 = some (tyJx4a65c k) := by decide +kernel
abbrev cJx4a65c_init_da8c8 : ByteArray := prog_21_method_2_code
def yJx4a65c_init_da8c8 : MethodName := ⟨RJx4a65c, "<init>", "()V"⟩
abbrev cJx4a65c_grow_92f84 : ByteArray := prog_21_method_6_code
def yJx4a65c_grow_92f84 : MethodName := ⟨RJx4a65c, "grow", "(I)[Ljava/lang/Object;"⟩
abbrev cJx4a65c_grow_d5877 : ByteArray := prog_21_method_7_code
def yJx4a65c_grow_d5877 : MethodName := ⟨RJx4a65c, "grow", "()[Ljava/lang/Object;"⟩
abbrev cJx4a65c_size_8abf5 : ByteArray := prog_21_method_8_code
def yJx4a65c_size_8abf5 : MethodName := ⟨RJx4a65c, "size", "()I"⟩
abbrev cJx4a65c_isEmpty_aae02 : ByteArray := prog_21_method_9_code
def yJx4a65c_isEmpty_aae02 : MethodName := ⟨RJx4a65c, "isEmpty", "()Z"⟩
abbrev cJx4a65c_elementData_915e3 : ByteArray := prog_21_method_18_code
def yJx4a65c_elementData_915e3 : MethodName := ⟨RJx4a65c, "elementData", "(I)Ljava/lang/Object;"⟩
abbrev cJx4a65c_get_915e3 : ByteArray := prog_21_method_20_code
def yJx4a65c_get_915e3 : MethodName := ⟨RJx4a65c, "get", "(I)Ljava/lang/Object;"⟩
abbrev cJx4a65c_add_72be8 : ByteArray := prog_21_method_24_code
def yJx4a65c_add_72be8 : MethodName := ⟨RJx4a65c, "add", "(Ljava/lang/Object;[Ljava/lang/Object;I)V"⟩
abbrev cJx4a65c_add_9ea2d : ByteArray := prog_21_method_25_code
def yJx4a65c_add_9ea2d : MethodName := ⟨RJx4a65c, "add", "(Ljava/lang/Object;)Z"⟩
def RJ7 : String := "java/util/Arrays"
def TJ7 : u_T := fun k => match k with
  | _ => ("", "", "", false)
def tyJ7 : Nat → FieldType := fun k => match k with
  | _ => .int
abbrev wsJ70 : List Cond := u_ws RJ7 TJ7 0
theorem nmJ7 : ∀ a, a < 0 → ∀ b, b < 0 → a ≠ b → (TJ7 a).2.1 ≠ (TJ7 b).2.1 := by decide +kernel
theorem tyJ7_ok : ∀ k, k < 0 → parseFieldDescriptor (TJ7 k).2.2.1 = some (tyJ7 k) := by decide +kernel
abbrev cJ7_copyOf_1904c : ByteArray := prog_22_method_119_code
def yJ7_copyOf_1904c : MethodName := ⟨RJ7, "copyOf", "([Ljava/lang/Object;I)[Ljava/lang/Object;"⟩
abbrev cJ7_copyOf_6403c : ByteArray := prog_22_method_120_code
def yJ7_copyOf_6403c : MethodName := ⟨RJ7, "copyOf", "([Ljava/lang/Object;ILjava/lang/Class;)[Ljava/lang/Object;"⟩
def RJx5ef63 : String := "java/util/Collection"
def TJx5ef63 : u_T := fun k => match k with
  | _ => ("", "", "", false)
def tyJx5ef63 : Nat → FieldType := fun k => match k with
  | _ => .int
abbrev wsJx5ef630 : List Cond := u_ws RJx5ef63 TJx5ef63 0
theorem nmJx5ef63 : ∀ a, a < 0 → ∀ b, b < 0 → a ≠ b → (TJx5ef63 a).2.1 ≠ (TJx5ef63 b).2.1 := by decide +kernel
theorem tyJx5ef63_ok : ∀ k, k < 0 → parseFieldDescriptor (TJx5ef63 k).2.2.1 = some (tyJx5ef63 k) := by decide +kernel
def RJxbd725 : String := "java/util/List"
def TJxbd725 : u_T := fun k => match k with
  | _ => ("", "", "", false)
def tyJxbd725 : Nat → FieldType := fun k => match k with
  | _ => .int
abbrev wsJxbd7250 : List Cond := u_ws RJxbd725 TJxbd725 0
theorem nmJxbd725 : ∀ a, a < 0 → ∀ b, b < 0 → a ≠ b → (TJxbd725 a).2.1 ≠ (TJxbd725 b).2.1 := by decide +kernel
theorem tyJxbd725_ok : ∀ k, k < 0 → parseFieldDescriptor (TJxbd725 k).2.2.1 = some (tyJxbd725 k) := by decide +kernel
def RJ15 : String := "java/util/Objects"
def TJ15 : u_T := fun k => match k with
  | _ => ("", "", "", false)
def tyJ15 : Nat → FieldType := fun k => match k with
  | _ => .int
abbrev wsJ150 : List Cond := u_ws RJ15 TJ15 0
theorem nmJ15 : ∀ a, a < 0 → ∀ b, b < 0 → a ≠ b → (TJ15 a).2.1 ≠ (TJ15 b).2.1 := by decide +kernel
theorem tyJ15_ok : ∀ k, k < 0 → parseFieldDescriptor (TJ15 k).2.2.1 = some (tyJ15 k) := by decide +kernel
abbrev cJ15_checkIndex_7cf53 : ByteArray := prog_25_method_17_code
def yJ15_checkIndex_7cf53 : MethodName := ⟨RJ15, "checkIndex", "(II)I"⟩
def RJxf0a74 : String := "java/util/RandomAccess"
def TJxf0a74 : u_T := fun k => match k with
  | _ => ("", "", "", false)
def tyJxf0a74 : Nat → FieldType := fun k => match k with
  | _ => .int
abbrev wsJxf0a740 : List Cond := u_ws RJxf0a74 TJxf0a74 0
theorem nmJxf0a74 : ∀ a, a < 0 → ∀ b, b < 0 → a ≠ b → (TJxf0a74 a).2.1 ≠ (TJxf0a74 b).2.1 := by decide +kernel
theorem tyJxf0a74_ok : ∀ k, k < 0 → parseFieldDescriptor (TJxf0a74 k).2.2.1 = some (tyJxf0a74 k) := by decide +kernel
def RJxa66e6 : String := "java/util/SequencedCollection"
def TJxa66e6 : u_T := fun k => match k with
  | _ => ("", "", "", false)
def tyJxa66e6 : Nat → FieldType := fun k => match k with
  | _ => .int
abbrev wsJxa66e60 : List Cond := u_ws RJxa66e6 TJxa66e6 0
theorem nmJxa66e6 : ∀ a, a < 0 → ∀ b, b < 0 → a ≠ b → (TJxa66e6 a).2.1 ≠ (TJxa66e6 b).2.1 := by decide +kernel
theorem tyJxa66e6_ok : ∀ k, k < 0 → parseFieldDescriptor (TJxa66e6 k).2.2.1 = some (tyJxa66e6 k) := by decide +kernel
def RJ8 : String := "jdk/internal/util/ArraysSupport"
def TJ8 : u_T := fun k => match k with
  | _ => ("", "", "", false)
def tyJ8 : Nat → FieldType := fun k => match k with
  | _ => .int
abbrev wsJ80 : List Cond := u_ws RJ8 TJ8 0
theorem nmJ8 : ∀ a, a < 0 → ∀ b, b < 0 → a ≠ b → (TJ8 a).2.1 ≠ (TJ8 b).2.1 := by decide +kernel
theorem tyJ8_ok : ∀ k, k < 0 → parseFieldDescriptor (TJ8 k).2.2.1 = some (tyJ8 k) := by decide +kernel
abbrev cJ8_newLength_cabcc : ByteArray := prog_28_method_27_code
def yJ8_newLength_cabcc : MethodName := ⟨RJ8, "newLength", "(III)I"⟩
abbrev cJ8_hugeLength_7cf53 : ByteArray := prog_28_method_28_code
def yJ8_hugeLength_7cf53 : MethodName := ⟨RJ8, "hugeLength", "(II)I"⟩
def RJ3 : String := "jdk/internal/util/Preconditions"
def TJ3 : u_T := fun k => match k with
  | _ => ("", "", "", false)
def tyJ3 : Nat → FieldType := fun k => match k with
  | _ => .int
abbrev wsJ30 : List Cond := u_ws RJ3 TJ3 0
theorem nmJ3 : ∀ a, a < 0 → ∀ b, b < 0 → a ≠ b → (TJ3 a).2.1 ≠ (TJ3 b).2.1 := by decide +kernel
theorem tyJ3_ok : ∀ k, k < 0 → parseFieldDescriptor (TJ3 k).2.2.1 = some (tyJ3 k) := by decide +kernel
abbrev cJ3_checkIndex_8e157 : ByteArray := prog_29_method_11_code
def yJ3_checkIndex_8e157 : MethodName := ⟨RJ3, "checkIndex", "(IILjava/util/function/BiFunction;)I"⟩
def RL : String := "IcehighwayLaw"
abbrev cL_piece : ByteArray := method_3_code
def yL_piece : MethodName := ⟨RL, "piece", "(LIcehighway;III[J)I"⟩
abbrev cL_weather : ByteArray := method_4_code
def yL_weather : MethodName := ⟨RL, "weather", "(LIcehighway;I[J)I"⟩
abbrev cL_snow : ByteArray := method_5_code
def yL_snow : MethodName := ⟨RL, "snow", "(LIcehighway;I[J)I"⟩
abbrev cL_plough : ByteArray := method_6_code
def yL_plough : MethodName := ⟨RL, "plough", "(LIcehighway;I[J)I"⟩
abbrev cL_flood : ByteArray := method_7_code
def yL_flood : MethodName := ⟨RL, "flood", "(LIcehighway;II[J)I"⟩
abbrev cL_drill : ByteArray := method_8_code
def yL_drill : MethodName := ⟨RL, "drill", "(LIcehighway;I[D)I"⟩
abbrev cL_open : ByteArray := method_9_code
def yL_open : MethodName := ⟨RL, "open", "(LIcehighway;II[J)I"⟩
abbrev cL_limit : ByteArray := method_10_code
def yL_limit : MethodName := ⟨RL, "limit", "(LIcehighway;II[J)I"⟩
abbrev cL_gap : ByteArray := method_11_code
def yL_gap : MethodName := ⟨RL, "gap", "(LIcehighway;I[J)I"⟩
abbrev cL_vehicle : ByteArray := method_12_code
def yL_vehicle : MethodName := ⟨RL, "vehicle", "(LIcehighway;III[J)I"⟩
abbrev cL_load : ByteArray := method_13_code
def yL_load : MethodName := ⟨RL, "load", "(LIcehighway;III[J)I"⟩
abbrev cL_go : ByteArray := method_14_code
def yL_go : MethodName := ⟨RL, "go", "(LIcehighway;I[J)I"⟩
abbrev cL_turn : ByteArray := method_15_code
def yL_turn : MethodName := ⟨RL, "turn", "(LIcehighway;I[J)I"⟩
abbrev cL_order : ByteArray := method_16_code
def yL_order : MethodName := ⟨RL, "order", "(LIcehighway;II[J)I"⟩
abbrev cL_pass : ByteArray := method_17_code
def yL_pass : MethodName := ⟨RL, "pass", "(LIcehighway;I[J)I"⟩
abbrev cL_told : ByteArray := method_18_code
def yL_told : MethodName := ⟨RL, "told", "(LIcehighway;II[J)I"⟩
abbrev cL_thickness : ByteArray := method_19_code
def yL_thickness : MethodName := ⟨RL, "thickness", "(LIcehighway;IZ[D)I"⟩
abbrev cL_bears : ByteArray := method_20_code
def yL_bears : MethodName := ⟨RL, "bears", "(LIcehighway;IZ[J)I"⟩
abbrev cL_ofVehicle : ByteArray := method_21_code
def yL_ofVehicle : MethodName := ⟨RL, "ofVehicle", "(LIcehighway;II[J)I"⟩
abbrev cL_why : ByteArray := method_22_code
def yL_why : MethodName := ⟨RL, "why", "(LIcehighway;I[J)I"⟩
abbrev cL_speed : ByteArray := method_23_code
def yL_speed : MethodName := ⟨RL, "speed", "(LIcehighway;II[J)I"⟩
abbrev cL_minutes : ByteArray := method_24_code
def yL_minutes : MethodName := ⟨RL, "minutes", "(LIcehighway;II[J)I"⟩
abbrev cL_minutesAnew : ByteArray := method_25_code
def yL_minutesAnew : MethodName := ⟨RL, "minutesAnew", "(LIcehighway;II[J)I"⟩
abbrev cL_kilos : ByteArray := method_26_code
def yL_kilos : MethodName := ⟨RL, "kilos", "(LIcehighway;II[J)I"⟩
abbrev cL_kilosAnew : ByteArray := method_27_code
def yL_kilosAnew : MethodName := ⟨RL, "kilosAnew", "(LIcehighway;I[J)I"⟩
abbrev cL_law : ByteArray := code
def yL_law : MethodName := ⟨RL, "law", "([I)Z"⟩
abbrev vwCl : List vw_C := [(RJx4a65c, TJx4a65c, 3), (RX0, TX0, 3), (RX1, TX1, 16), (RX2, TX2, 8), (RX3, TX3, 9), (RX4, TX4, 30)]
end
section
/-- the words of the tables that hold in every warmed state -/
def WL : List Cond := lw_tbl.filter goodWord
def XF (w : Cond) : Bool := w.onTables && w.faceAtom
/-- the words of an interface's face -/
def XL : List Cond := tables_1.filter XF
theorem WL_t {w : Cond} (h : w ∈ tables_1) (g : goodWord w = true) : w ∈ WL := List.mem_filter.mpr ⟨List.mem_append_right _ h, g⟩
theorem WL_p {q : MethodName × Nat} (h : q ∈ lw_privs) : Cond.selects q.1.cls q.1 q.1 ∈ WL := List.mem_filter.mpr ⟨List.mem_append_left _ (List.mem_map.mpr ⟨q, h, rfl⟩), rfl⟩
theorem XL_t {w : Cond} (h : w ∈ tables_1) (g : XF w = true) : w ∈ XL := List.mem_filter.mpr ⟨h, g⟩
theorem WL_tbl {w : Cond} (h : w ∈ WL) : w ∈ lw_tbl := (List.mem_filter.mp h).1
theorem WL_good {w : Cond} (h : w ∈ WL) : goodWord w = true := (List.mem_filter.mp h).2
theorem WL_in {X Y : Cond} (h : Y ∈ WL) : GoodIn (X :: WL) (Y :: WL) := fun w hw => (List.mem_cons.mp hw).elim (fun e => e ▸ ⟨List.mem_cons_of_mem _ h, good_of_word (WL_good h)⟩) (fun hw => ⟨List.mem_cons_of_mem _ hw, good_of_word (WL_good hw)⟩)
theorem WL_in0 {Y : Cond} (h : Y ∈ WL) : GoodIn WL (Y :: WL) := fun w hw => (List.mem_cons.mp hw).elim (fun e => e ▸ ⟨h, good_of_word (WL_good h)⟩) (fun hw => ⟨hw, good_of_word (WL_good hw)⟩)
theorem in_tables_1_1 {w : Cond} (h : w ∈ tables_1_1) : w ∈ tables_1 := List.mem_append_left _ h
theorem in_tables_1_2 {w : Cond} (h : w ∈ tables_1_2) : w ∈ tables_1 := List.mem_append_right _ (List.mem_append_left _ h)
theorem in_tables_1_3 {w : Cond} (h : w ∈ tables_1_3) : w ∈ tables_1 := List.mem_append_right _ (List.mem_append_right _ (List.mem_append_left _ h))
theorem in_tables_1_4 {w : Cond} (h : w ∈ tables_1_4) : w ∈ tables_1 := List.mem_append_right _ (List.mem_append_right _ (List.mem_append_right _ (List.mem_append_left _ h)))
theorem in_tables_1_5 {w : Cond} (h : w ∈ tables_1_5) : w ∈ tables_1 := List.mem_append_right _ (List.mem_append_right _ (List.mem_append_right _ (List.mem_append_right _ (h))))
theorem q0 : (Jvm.Cond.initialized "IcehighwayLaw") ∈ WL := WL_t (in_tables_1_1 (List.mem_of_getElem? (i := 0) rfl)) rfl
theorem q1 : (Jvm.Cond.initialized "Icehighway") ∈ WL := WL_t (in_tables_1_1 (List.mem_of_getElem? (i := 1) rfl)) rfl
theorem q2 : (Jvm.Cond.initialized "java/util/AbstractCollection") ∈ WL := WL_t (in_tables_1_1 (List.mem_of_getElem? (i := 2) rfl)) rfl
theorem q3 : (Jvm.Cond.initialized "java/util/AbstractList") ∈ WL := WL_t (in_tables_1_1 (List.mem_of_getElem? (i := 3) rfl)) rfl
theorem q4 : (Jvm.Cond.initialized "java/util/ArrayList") ∈ WL := WL_t (in_tables_1_1 (List.mem_of_getElem? (i := 4) rfl)) rfl
theorem q5 : (Jvm.Cond.initialized "IcehighwayModel") ∈ WL := WL_t (in_tables_1_1 (List.mem_of_getElem? (i := 5) rfl)) rfl
theorem q6 : (Jvm.Cond.initialized "java/lang/Throwable") ∈ WL := WL_t (in_tables_1_1 (List.mem_of_getElem? (i := 6) rfl)) rfl
theorem q7 : (Jvm.Cond.initialized "java/lang/Exception") ∈ WL := WL_t (in_tables_1_1 (List.mem_of_getElem? (i := 7) rfl)) rfl
theorem q8 : (Jvm.Cond.initialized "java/lang/RuntimeException") ∈ WL := WL_t (in_tables_1_1 (List.mem_of_getElem? (i := 8) rfl)) rfl
theorem q9 : (Jvm.Cond.initialized "java/lang/IllegalArgumentException") ∈ WL := WL_t (in_tables_1_1 (List.mem_of_getElem? (i := 9) rfl)) rfl
theorem q10 : (Jvm.Cond.initialized "java/lang/IllegalStateException") ∈ WL := WL_t (in_tables_1_1 (List.mem_of_getElem? (i := 10) rfl)) rfl
theorem q11 : (Jvm.Cond.initialized "Icehighway$Piece") ∈ WL := WL_t (in_tables_1_1 (List.mem_of_getElem? (i := 11) rfl)) rfl
theorem q12 : (Jvm.Cond.initialized "jdk/internal/util/ArraysSupport") ∈ WL := WL_t (in_tables_1_1 (List.mem_of_getElem? (i := 12) rfl)) rfl
theorem q13 : (Jvm.Cond.initialized "java/lang/Math") ∈ WL := WL_t (in_tables_1_1 (List.mem_of_getElem? (i := 13) rfl)) rfl
theorem q14 : (Jvm.Cond.initialized "java/util/Arrays") ∈ WL := WL_t (in_tables_1_1 (List.mem_of_getElem? (i := 14) rfl)) rfl
theorem q15 : (Jvm.Cond.initialized "java/lang/System") ∈ WL := WL_t (in_tables_1_1 (List.mem_of_getElem? (i := 15) rfl)) rfl
theorem q16 : (Jvm.Cond.initialized "java/util/Objects") ∈ WL := WL_t (in_tables_1_1 (List.mem_of_getElem? (i := 16) rfl)) rfl
theorem q17 : (Jvm.Cond.initialized "jdk/internal/util/Preconditions") ∈ WL := WL_t (in_tables_1_1 (List.mem_of_getElem? (i := 17) rfl)) rfl
theorem q18 : (Jvm.Cond.initialized "java/lang/IndexOutOfBoundsException") ∈ WL := WL_t (in_tables_1_1 (List.mem_of_getElem? (i := 18) rfl)) rfl
theorem q19 : (Jvm.Cond.initialized "Icehighway$Vehicle") ∈ WL := WL_t (in_tables_1_1 (List.mem_of_getElem? (i := 19) rfl)) rfl
theorem q20 : (Jvm.Cond.initialized "Icehighway$Load") ∈ WL := WL_t (in_tables_1_1 (List.mem_of_getElem? (i := 20) rfl)) rfl
theorem q21 : (Jvm.Cond.classLink "IcehighwayLaw" (8 : Nat) "Icehighway") ∈ WL := WL_t (in_tables_1_1 (List.mem_of_getElem? (i := 21) rfl)) rfl
theorem q22 : (Jvm.Cond.instantiable "Icehighway" (9 : Nat)) ∈ WL := WL_t (in_tables_1_1 (List.mem_of_getElem? (i := 22) rfl)) rfl
theorem q23 : (Jvm.Cond.methodLink "IcehighwayLaw" (97 : Nat) ({ cls := "Icehighway", name := "<init>", desc := "()V" } : Jvm.MethodName)) ∈ WL := WL_t (in_tables_1_1 (List.mem_of_getElem? (i := 23) rfl)) rfl
theorem q24 : (Jvm.Cond.instanceMethod ({ cls := "Icehighway", name := "<init>", desc := "()V" } : Jvm.MethodName)) ∈ WL := WL_t (in_tables_1_1 (List.mem_of_getElem? (i := 24) rfl)) rfl
theorem q25 : (Jvm.Cond.code ({ cls := "Icehighway", name := "<init>", desc := "()V" } : Jvm.MethodName) prog_1_method_1_code (1 : Nat) (Option.none : Option Jvm.ClassFile.FieldType)) ∈ WL := WL_t (in_tables_1_1 (List.mem_of_getElem? (i := 25) rfl)) rfl
theorem q26 : (Jvm.Cond.methodLink "Icehighway" (1 : Nat) ({ cls := "java/lang/Object", name := "<init>", desc := "()V" } : Jvm.MethodName)) ∈ WL := WL_t (in_tables_1_1 (List.mem_of_getElem? (i := 26) rfl)) rfl
theorem q27 : (Jvm.Cond.instanceMethod ({ cls := "java/lang/Object", name := "<init>", desc := "()V" } : Jvm.MethodName)) ∈ WL := WL_t (in_tables_1_1 (List.mem_of_getElem? (i := 27) rfl)) rfl
theorem q28 : (Jvm.Cond.code ({ cls := "java/lang/Object", name := "<init>", desc := "()V" } : Jvm.MethodName) object_method_1_code (1 : Nat) (Option.none : Option Jvm.ClassFile.FieldType)) ∈ WL := WL_t (in_tables_1_1 (List.mem_of_getElem? (i := 28) rfl)) rfl
theorem q29 : (Jvm.Cond.classLink "Icehighway" (7 : Nat) "java/util/ArrayList") ∈ WL := WL_t (in_tables_1_1 (List.mem_of_getElem? (i := 29) rfl)) rfl
theorem q30 : (Jvm.Cond.instantiable "java/util/ArrayList" (3 : Nat)) ∈ WL := WL_t (in_tables_1_1 (List.mem_of_getElem? (i := 30) rfl)) rfl
theorem q31 : (Jvm.Cond.methodLink "Icehighway" (9 : Nat) ({ cls := "java/util/ArrayList", name := "<init>", desc := "()V" } : Jvm.MethodName)) ∈ WL := WL_t (in_tables_1_1 (List.mem_of_getElem? (i := 31) rfl)) rfl
theorem q32 : (Jvm.Cond.instanceMethod ({ cls := "java/util/ArrayList", name := "<init>", desc := "()V" } : Jvm.MethodName)) ∈ WL := WL_t (in_tables_1_1 (List.mem_of_getElem? (i := 32) rfl)) rfl
theorem q33 : (Jvm.Cond.code ({ cls := "java/util/ArrayList", name := "<init>", desc := "()V" } : Jvm.MethodName) prog_21_method_2_code (1 : Nat) (Option.none : Option Jvm.ClassFile.FieldType)) ∈ WL := WL_t (in_tables_1_1 (List.mem_of_getElem? (i := 33) rfl)) rfl
theorem q34 : (Jvm.Cond.methodLink "java/util/ArrayList" (1 : Nat) ({ cls := "java/util/AbstractList", name := "<init>", desc := "()V" } : Jvm.MethodName)) ∈ WL := WL_t (in_tables_1_1 (List.mem_of_getElem? (i := 34) rfl)) rfl
theorem q35 : (Jvm.Cond.instanceMethod ({ cls := "java/util/AbstractList", name := "<init>", desc := "()V" } : Jvm.MethodName)) ∈ WL := WL_t (in_tables_1_1 (List.mem_of_getElem? (i := 35) rfl)) rfl
theorem q36 : (Jvm.Cond.code ({ cls := "java/util/AbstractList", name := "<init>", desc := "()V" } : Jvm.MethodName) prog_20_method_1_code (1 : Nat) (Option.none : Option Jvm.ClassFile.FieldType)) ∈ WL := WL_t (in_tables_1_1 (List.mem_of_getElem? (i := 36) rfl)) rfl
theorem q37 : (Jvm.Cond.methodLink "java/util/AbstractList" (1 : Nat) ({ cls := "java/util/AbstractCollection", name := "<init>", desc := "()V" } : Jvm.MethodName)) ∈ WL := WL_t (in_tables_1_1 (List.mem_of_getElem? (i := 37) rfl)) rfl
theorem q38 : (Jvm.Cond.instanceMethod ({ cls := "java/util/AbstractCollection", name := "<init>", desc := "()V" } : Jvm.MethodName)) ∈ WL := WL_t (in_tables_1_1 (List.mem_of_getElem? (i := 38) rfl)) rfl
theorem q39 : (Jvm.Cond.code ({ cls := "java/util/AbstractCollection", name := "<init>", desc := "()V" } : Jvm.MethodName) prog_19_method_1_code (1 : Nat) (Option.none : Option Jvm.ClassFile.FieldType)) ∈ WL := WL_t (in_tables_1_1 (List.mem_of_getElem? (i := 39) rfl)) rfl
theorem q40 : (Jvm.Cond.methodLink "java/util/AbstractCollection" (1 : Nat) ({ cls := "java/lang/Object", name := "<init>", desc := "()V" } : Jvm.MethodName)) ∈ WL := WL_t (in_tables_1_1 (List.mem_of_getElem? (i := 40) rfl)) rfl
theorem q41 : (Jvm.Cond.fieldLink "java/util/ArrayList" (39 : Nat) "java/util/ArrayList" "DEFAULTCAPACITY_EMPTY_ELEMENTDATA" "[Ljava/lang/Object;") ∈ WL := WL_t (in_tables_1_1 (List.mem_of_getElem? (i := 41) rfl)) rfl
theorem q43 : (Jvm.Cond.fieldLink "java/util/ArrayList" (9 : Nat) "java/util/ArrayList" "elementData" "[Ljava/lang/Object;") ∈ WL := WL_t (in_tables_1_1 (List.mem_of_getElem? (i := 43) rfl)) rfl
theorem q44 : (Jvm.Cond.fieldLink "java/util/ArrayList" (48 : Nat) "java/util/ArrayList" "size" "I") ∈ WL := WL_t (in_tables_1_1 (List.mem_of_getElem? (i := 44) rfl)) rfl
theorem q45 : (Jvm.Cond.fieldLink "java/util/AbstractList" (7 : Nat) "java/util/AbstractList" "modCount" "I") ∈ WL := WL_t (in_tables_1_1 (List.mem_of_getElem? (i := 45) rfl)) rfl
theorem q46 : (Jvm.Cond.fieldLink "java/util/ArrayList" (63 : Nat) "java/util/ArrayList" "modCount" "I") ∈ WL := WL_t (in_tables_1_1 (List.mem_of_getElem? (i := 46) rfl)) rfl
theorem q47 : (Jvm.Cond.sameField "java/util/ArrayList" "java/util/AbstractList" "modCount" "I") ∈ WL := WL_t (in_tables_1_1 (List.mem_of_getElem? (i := 47) rfl)) rfl
theorem q48 : (Jvm.Cond.lays "java/util/ArrayList" "java/util/ArrayList" "elementData" "[Ljava/lang/Object;") ∈ WL := WL_t (in_tables_1_1 (List.mem_of_getElem? (i := 48) rfl)) rfl
theorem q50 : (Jvm.Cond.lays "java/util/ArrayList" "java/util/ArrayList" "size" "I") ∈ WL := WL_t (in_tables_1_1 (List.mem_of_getElem? (i := 50) rfl)) rfl
theorem q52 : (Jvm.Cond.lays "java/util/ArrayList" "java/util/AbstractList" "modCount" "I") ∈ WL := WL_t (in_tables_1_1 (List.mem_of_getElem? (i := 52) rfl)) rfl
theorem q55 : (Jvm.Cond.fieldLink "Icehighway" (10 : Nat) "Icehighway" "pieces" "Ljava/util/List;") ∈ WL := WL_t (in_tables_1_1 (List.mem_of_getElem? (i := 55) rfl)) rfl
theorem q56 : (Jvm.Cond.fieldLink "Icehighway" (16 : Nat) "Icehighway" "vehicles" "Ljava/util/List;") ∈ WL := WL_t (in_tables_1_1 (List.mem_of_getElem? (i := 56) rfl)) rfl
theorem q57 : (Jvm.Cond.fieldLink "Icehighway" (19 : Nat) "Icehighway" "entered" "Ljava/util/List;") ∈ WL := WL_t (in_tables_1_1 (List.mem_of_getElem? (i := 57) rfl)) rfl
theorem q58 : (Jvm.Cond.fieldLink "Icehighway" (22 : Nat) "Icehighway" "taken" "[I") ∈ WL := WL_t (in_tables_1_1 (List.mem_of_getElem? (i := 58) rfl)) rfl
theorem q59 : (Jvm.Cond.fieldLink "Icehighway" (26 : Nat) "Icehighway" "brought" "[I") ∈ WL := WL_t (in_tables_1_1 (List.mem_of_getElem? (i := 59) rfl)) rfl
theorem q60 : (Jvm.Cond.fieldLink "Icehighway" (29 : Nat) "Icehighway" "ordered" "[I") ∈ WL := WL_t (in_tables_1_1 (List.mem_of_getElem? (i := 60) rfl)) rfl
theorem q61 : (Jvm.Cond.fieldLink "Icehighway" (32 : Nat) "Icehighway" "now" "I") ∈ WL := WL_t (in_tables_1_1 (List.mem_of_getElem? (i := 61) rfl)) rfl
theorem q62 : (Jvm.Cond.fieldLink "Icehighway" (36 : Nat) "Icehighway" "cold" "I") ∈ WL := WL_t (in_tables_1_1 (List.mem_of_getElem? (i := 62) rfl)) rfl
theorem q63 : (Jvm.Cond.fieldLink "Icehighway" (39 : Nat) "Icehighway" "gapMinutes" "I") ∈ WL := WL_t (in_tables_1_1 (List.mem_of_getElem? (i := 63) rfl)) rfl
theorem q64 : (Jvm.Cond.laysFinal "Icehighway" "Icehighway" "pieces" "Ljava/util/List;") ∈ WL := WL_t (in_tables_1_1 (List.mem_of_getElem? (i := 64) rfl)) rfl
theorem q66 : (Jvm.Cond.laysFinal "Icehighway" "Icehighway" "vehicles" "Ljava/util/List;") ∈ WL := WL_t (in_tables_1_1 (List.mem_of_getElem? (i := 66) rfl)) rfl
theorem q68 : (Jvm.Cond.laysFinal "Icehighway" "Icehighway" "entered" "Ljava/util/List;") ∈ WL := WL_t (in_tables_1_1 (List.mem_of_getElem? (i := 68) rfl)) rfl
theorem q70 : (Jvm.Cond.laysFinal "Icehighway" "Icehighway" "taken" "[I") ∈ WL := WL_t (in_tables_1_1 (List.mem_of_getElem? (i := 70) rfl)) rfl
theorem q72 : (Jvm.Cond.laysFinal "Icehighway" "Icehighway" "brought" "[I") ∈ WL := WL_t (in_tables_1_1 (List.mem_of_getElem? (i := 72) rfl)) rfl
theorem q74 : (Jvm.Cond.laysFinal "Icehighway" "Icehighway" "ordered" "[I") ∈ WL := WL_t (in_tables_1_1 (List.mem_of_getElem? (i := 74) rfl)) rfl
theorem q76 : (Jvm.Cond.lays "Icehighway" "Icehighway" "now" "I") ∈ WL := WL_t (in_tables_1_1 (List.mem_of_getElem? (i := 76) rfl)) rfl
theorem q78 : (Jvm.Cond.lays "Icehighway" "Icehighway" "cold" "I") ∈ WL := WL_t (in_tables_1_1 (List.mem_of_getElem? (i := 78) rfl)) rfl
theorem q80 : (Jvm.Cond.lays "Icehighway" "Icehighway" "gapMinutes" "I") ∈ WL := WL_t (in_tables_1_1 (List.mem_of_getElem? (i := 80) rfl)) rfl
theorem q83 : (Jvm.Cond.arrayClass Jvm.ClassFile.FieldType.int) ∈ WL := WL_t (in_tables_1_1 (List.mem_of_getElem? (i := 83) rfl)) rfl
theorem q84 : (Jvm.Cond.methodLink "IcehighwayLaw" (156 : Nat) ({ cls := "Icehighway", name := "minute", desc := "()I" } : Jvm.MethodName)) ∈ WL := WL_t (in_tables_1_1 (List.mem_of_getElem? (i := 84) rfl)) rfl
theorem q85 : (Jvm.Cond.instanceMethod ({ cls := "Icehighway", name := "minute", desc := "()I" } : Jvm.MethodName)) ∈ WL := WL_t (in_tables_1_1 (List.mem_of_getElem? (i := 85) rfl)) rfl
theorem q86 : (Jvm.Cond.selects "Icehighway" ({ cls := "Icehighway", name := "minute", desc := "()I" } : Jvm.MethodName) ({ cls := "Icehighway", name := "minute", desc := "()I" } : Jvm.MethodName)) ∈ WL := WL_t (in_tables_1_1 (List.mem_of_getElem? (i := 86) rfl)) rfl
theorem q87 : (Jvm.Cond.code ({ cls := "Icehighway", name := "minute", desc := "()I" } : Jvm.MethodName) prog_1_method_17_code (1 : Nat) (Option.some Jvm.ClassFile.FieldType.int)) ∈ WL := WL_t (in_tables_1_1 (List.mem_of_getElem? (i := 87) rfl)) rfl
theorem q88 : (Jvm.Cond.methodLink "IcehighwayLaw" (192 : Nat) ({ cls := "Icehighway", name := "bill", desc := "()J" } : Jvm.MethodName)) ∈ WL := WL_t (in_tables_1_1 (List.mem_of_getElem? (i := 88) rfl)) rfl
theorem q89 : (Jvm.Cond.instanceMethod ({ cls := "Icehighway", name := "bill", desc := "()J" } : Jvm.MethodName)) ∈ WL := WL_t (in_tables_1_1 (List.mem_of_getElem? (i := 89) rfl)) rfl
theorem q90 : (Jvm.Cond.selects "Icehighway" ({ cls := "Icehighway", name := "bill", desc := "()J" } : Jvm.MethodName) ({ cls := "Icehighway", name := "bill", desc := "()J" } : Jvm.MethodName)) ∈ WL := WL_t (in_tables_1_1 (List.mem_of_getElem? (i := 90) rfl)) rfl
theorem q91 : (Jvm.Cond.code ({ cls := "Icehighway", name := "bill", desc := "()J" } : Jvm.MethodName) prog_1_method_28_code (4 : Nat) (Option.some Jvm.ClassFile.FieldType.long)) ∈ WL := WL_t (in_tables_1_1 (List.mem_of_getElem? (i := 91) rfl)) rfl
theorem q92 : (Jvm.Cond.constantLong "Icehighway" (223 : Nat) (40 : Int64)) ∈ WL := WL_t (in_tables_1_1 (List.mem_of_getElem? (i := 92) rfl)) rfl
theorem q93 : (Jvm.Cond.methodLink "Icehighway" (216 : Nat) ({ cls := "Icehighway", name := "kilosMissing", desc := "(I)I" } : Jvm.MethodName)) ∈ WL := WL_t (in_tables_1_1 (List.mem_of_getElem? (i := 93) rfl)) rfl
theorem q94 : (Jvm.Cond.privateMethod ({ cls := "Icehighway", name := "kilosMissing", desc := "(I)I" } : Jvm.MethodName)) ∈ XL := XL_t (in_tables_1_1 (List.mem_of_getElem? (i := 94) rfl)) rfl
theorem q95 : (Jvm.Cond.instanceMethod ({ cls := "Icehighway", name := "kilosMissing", desc := "(I)I" } : Jvm.MethodName)) ∈ WL := WL_t (in_tables_1_1 (List.mem_of_getElem? (i := 95) rfl)) rfl
theorem q96 : (Jvm.Cond.code ({ cls := "Icehighway", name := "kilosMissing", desc := "(I)I" } : Jvm.MethodName) prog_1_method_34_code (2 : Nat) (Option.some Jvm.ClassFile.FieldType.int)) ∈ WL := WL_t (in_tables_1_1 (List.mem_of_getElem? (i := 96) rfl)) rfl
theorem q97 : (Jvm.Cond.methodLink "Icehighway" (239 : Nat) ({ cls := "java/lang/Math", name := "max", desc := "(II)I" } : Jvm.MethodName)) ∈ WL := WL_t (in_tables_1_1 (List.mem_of_getElem? (i := 97) rfl)) rfl
theorem q98 : (Jvm.Cond.static ({ cls := "java/lang/Math", name := "max", desc := "(II)I" } : Jvm.MethodName)) ∈ WL := WL_t (in_tables_1_1 (List.mem_of_getElem? (i := 98) rfl)) rfl
theorem q99 : (Jvm.Cond.code ({ cls := "java/lang/Math", name := "max", desc := "(II)I" } : Jvm.MethodName) prog_14_method_65_code (2 : Nat) (Option.some Jvm.ClassFile.FieldType.int)) ∈ WL := WL_t (in_tables_1_1 (List.mem_of_getElem? (i := 99) rfl)) rfl
theorem q100 : (Jvm.Cond.methodLink "IcehighwayLaw" (101 : Nat) ({ cls := "IcehighwayLaw", name := "piece", desc := "(LIcehighway;III[J)I" } : Jvm.MethodName)) ∈ WL := WL_t (in_tables_1_1 (List.mem_of_getElem? (i := 100) rfl)) rfl
theorem q101 : (Jvm.Cond.static ({ cls := "IcehighwayLaw", name := "piece", desc := "(LIcehighway;III[J)I" } : Jvm.MethodName)) ∈ WL := WL_t (in_tables_1_1 (List.mem_of_getElem? (i := 101) rfl)) rfl
theorem q102 : (Jvm.Cond.codeWith ({ cls := "IcehighwayLaw", name := "piece", desc := "(LIcehighway;III[J)I" } : Jvm.MethodName) method_3_code (6 : Nat) (Option.some Jvm.ClassFile.FieldType.int) [((0 : Nat), (12 : Nat), (15 : Nat), (13 : Nat)), ((0 : Nat), (12 : Nat), (19 : Nat), (15 : Nat))]) ∈ WL := WL_t (in_tables_1_1 (List.mem_of_getElem? (i := 102) rfl)) rfl
theorem q103 : (Jvm.Cond.classLink "IcehighwayLaw" (13 : Nat) "java/lang/IllegalArgumentException") ∈ WL := WL_t (in_tables_1_1 (List.mem_of_getElem? (i := 103) rfl)) rfl
theorem q104 : (Jvm.Cond.classLink "IcehighwayLaw" (15 : Nat) "java/lang/IllegalStateException") ∈ WL := WL_t (in_tables_1_1 (List.mem_of_getElem? (i := 104) rfl)) rfl
theorem q105 : (Jvm.Cond.methodLink "IcehighwayLaw" (7 : Nat) ({ cls := "Icehighway", name := "piece", desc := "(III)I" } : Jvm.MethodName)) ∈ WL := WL_t (in_tables_1_1 (List.mem_of_getElem? (i := 105) rfl)) rfl
theorem q106 : (Jvm.Cond.instanceMethod ({ cls := "Icehighway", name := "piece", desc := "(III)I" } : Jvm.MethodName)) ∈ WL := WL_t (in_tables_1_1 (List.mem_of_getElem? (i := 106) rfl)) rfl
theorem q107 : (Jvm.Cond.selects "Icehighway" ({ cls := "Icehighway", name := "piece", desc := "(III)I" } : Jvm.MethodName) ({ cls := "Icehighway", name := "piece", desc := "(III)I" } : Jvm.MethodName)) ∈ WL := WL_t (in_tables_1_1 (List.mem_of_getElem? (i := 107) rfl)) rfl
theorem q108 : (Jvm.Cond.code ({ cls := "Icehighway", name := "piece", desc := "(III)I" } : Jvm.MethodName) prog_1_method_2_code (4 : Nat) (Option.some Jvm.ClassFile.FieldType.int)) ∈ WL := WL_t (in_tables_1_1 (List.mem_of_getElem? (i := 108) rfl)) rfl
theorem q109 : (Jvm.Cond.methodLink "Icehighway" (42 : Nat) ({ cls := "Icehighway", name := "needRange", desc := "(III)V" } : Jvm.MethodName)) ∈ WL := WL_t (in_tables_1_1 (List.mem_of_getElem? (i := 109) rfl)) rfl
theorem q110 : (Jvm.Cond.static ({ cls := "Icehighway", name := "needRange", desc := "(III)V" } : Jvm.MethodName)) ∈ WL := WL_t (in_tables_1_1 (List.mem_of_getElem? (i := 110) rfl)) rfl
theorem q111 : (Jvm.Cond.code ({ cls := "Icehighway", name := "needRange", desc := "(III)V" } : Jvm.MethodName) prog_1_method_29_code (3 : Nat) (Option.none : Option Jvm.ClassFile.FieldType)) ∈ WL := WL_t (in_tables_1_1 (List.mem_of_getElem? (i := 111) rfl)) rfl
theorem q112 : (Jvm.Cond.classLink "Icehighway" (225 : Nat) "java/lang/IllegalArgumentException") ∈ WL := WL_t (in_tables_1_1 (List.mem_of_getElem? (i := 112) rfl)) rfl
theorem q113 : (Jvm.Cond.instantiable "java/lang/IllegalArgumentException" (6 : Nat)) ∈ WL := WL_t (in_tables_1_1 (List.mem_of_getElem? (i := 113) rfl)) rfl
theorem q114 : (Jvm.Cond.castable "java/lang/IllegalArgumentException" "java/lang/IllegalArgumentException") ∈ XL := XL_t (in_tables_1_1 (List.mem_of_getElem? (i := 114) rfl)) rfl
theorem q115 : (Jvm.Cond.declares ({ cls := "java/lang/RuntimeException", name := "<init>", desc := "()V" } : Jvm.MethodName)) ∈ XL := XL_t (in_tables_1_1 (List.mem_of_getElem? (i := 115) rfl)) rfl
theorem q116 : (Jvm.Cond.declares ({ cls := "java/lang/RuntimeException", name := "<init>", desc := "(Ljava/lang/String;)V" } : Jvm.MethodName)) ∈ XL := XL_t (in_tables_1_1 (List.mem_of_getElem? (i := 116) rfl)) rfl
theorem q117 : (Jvm.Cond.declares ({ cls := "java/lang/Exception", name := "<init>", desc := "()V" } : Jvm.MethodName)) ∈ XL := XL_t (in_tables_1_1 (List.mem_of_getElem? (i := 117) rfl)) rfl
theorem q118 : (Jvm.Cond.declares ({ cls := "java/lang/Exception", name := "<init>", desc := "(Ljava/lang/String;)V" } : Jvm.MethodName)) ∈ XL := XL_t (in_tables_1_1 (List.mem_of_getElem? (i := 118) rfl)) rfl
theorem q119 : (Jvm.Cond.declares ({ cls := "java/lang/Throwable", name := "<init>", desc := "()V" } : Jvm.MethodName)) ∈ XL := XL_t (in_tables_1_1 (List.mem_of_getElem? (i := 119) rfl)) rfl
theorem q120 : (Jvm.Cond.declares ({ cls := "java/lang/Throwable", name := "<init>", desc := "(Ljava/lang/String;)V" } : Jvm.MethodName)) ∈ XL := XL_t (in_tables_1_1 (List.mem_of_getElem? (i := 120) rfl)) rfl
theorem q121 : (Jvm.Cond.selects "java/lang/IllegalArgumentException" ({ cls := "java/lang/Throwable", name := "fillInStackTrace", desc := "(I)Ljava/lang/Throwable;" } : Jvm.MethodName) ({ cls := "java/lang/Throwable", name := "fillInStackTrace", desc := "(I)Ljava/lang/Throwable;" } : Jvm.MethodName)) ∈ WL := WL_t (in_tables_1_1 (List.mem_of_getElem? (i := 121) rfl)) rfl
theorem q122 : (Jvm.Cond.selects "java/lang/IllegalArgumentException" ({ cls := "java/lang/Throwable", name := "fillInStackTrace", desc := "()Ljava/lang/Throwable;" } : Jvm.MethodName) ({ cls := "java/lang/Throwable", name := "fillInStackTrace", desc := "()Ljava/lang/Throwable;" } : Jvm.MethodName)) ∈ WL := WL_t (in_tables_1_1 (List.mem_of_getElem? (i := 122) rfl)) rfl
theorem q123 : (Jvm.Cond.lays "java/lang/IllegalArgumentException" "java/lang/Throwable" "cause" "Ljava/lang/Throwable;") ∈ WL := WL_t (in_tables_1_1 (List.mem_of_getElem? (i := 123) rfl)) rfl
theorem q124 : (Jvm.Cond.lays "java/lang/Throwable" "java/lang/Throwable" "cause" "Ljava/lang/Throwable;") ∈ WL := WL_t (in_tables_1_1 (List.mem_of_getElem? (i := 124) rfl)) rfl
theorem q125 : (Jvm.Cond.lays "java/lang/IllegalArgumentException" "java/lang/Throwable" "stackTrace" "[Ljava/lang/StackTraceElement;") ∈ WL := WL_t (in_tables_1_1 (List.mem_of_getElem? (i := 125) rfl)) rfl
theorem q126 : (Jvm.Cond.lays "java/lang/Throwable" "java/lang/Throwable" "stackTrace" "[Ljava/lang/StackTraceElement;") ∈ WL := WL_t (in_tables_1_1 (List.mem_of_getElem? (i := 126) rfl)) rfl
theorem q127 : (Jvm.Cond.lays "java/lang/IllegalArgumentException" "java/lang/Throwable" "suppressedExceptions" "Ljava/util/List;") ∈ WL := WL_t (in_tables_1_1 (List.mem_of_getElem? (i := 127) rfl)) rfl
theorem q128 : (Jvm.Cond.lays "java/lang/Throwable" "java/lang/Throwable" "suppressedExceptions" "Ljava/util/List;") ∈ WL := WL_t (in_tables_1_1 (List.mem_of_getElem? (i := 128) rfl)) rfl
theorem q129 : (Jvm.Cond.lays "java/lang/IllegalArgumentException" "java/lang/Throwable" "detailMessage" "Ljava/lang/String;") ∈ WL := WL_t (in_tables_1_1 (List.mem_of_getElem? (i := 129) rfl)) rfl
theorem q130 : (Jvm.Cond.lays "java/lang/Throwable" "java/lang/Throwable" "detailMessage" "Ljava/lang/String;") ∈ WL := WL_t (in_tables_1_1 (List.mem_of_getElem? (i := 130) rfl)) rfl
theorem q131 : (Jvm.Cond.lays "java/lang/IllegalArgumentException" "java/lang/Throwable" "backtrace" "Ljava/lang/Object;") ∈ WL := WL_t (in_tables_1_1 (List.mem_of_getElem? (i := 131) rfl)) rfl
theorem q132 : (Jvm.Cond.lays "java/lang/Throwable" "java/lang/Throwable" "backtrace" "Ljava/lang/Object;") ∈ WL := WL_t (in_tables_1_1 (List.mem_of_getElem? (i := 132) rfl)) rfl
theorem q133 : (Jvm.Cond.fieldLink "java/lang/Throwable" (198 : Nat) "java/lang/Throwable" "backtrace" "Ljava/lang/Object;") ∈ WL := WL_t (in_tables_1_1 (List.mem_of_getElem? (i := 133) rfl)) rfl
theorem q135 : (Jvm.Cond.instanceMethod ({ cls := "java/lang/Throwable", name := "<init>", desc := "()V" } : Jvm.MethodName)) ∈ WL := WL_t (in_tables_1_1 (List.mem_of_getElem? (i := 135) rfl)) rfl
theorem q136 : (Jvm.Cond.code ({ cls := "java/lang/Throwable", name := "<init>", desc := "()V" } : Jvm.MethodName) prog_18_method_1_code (1 : Nat) (Option.none : Option Jvm.ClassFile.FieldType)) ∈ WL := WL_t (in_tables_1_1 (List.mem_of_getElem? (i := 136) rfl)) rfl
theorem q137 : (Jvm.Cond.methodLink "java/lang/Throwable" (1 : Nat) ({ cls := "java/lang/Object", name := "<init>", desc := "()V" } : Jvm.MethodName)) ∈ WL := WL_t (in_tables_1_1 (List.mem_of_getElem? (i := 137) rfl)) rfl
theorem q138 : (Jvm.Cond.fieldLink "java/lang/Throwable" (13 : Nat) "java/lang/Throwable" "UNASSIGNED_STACK" "[Ljava/lang/StackTraceElement;") ∈ WL := WL_t (in_tables_1_1 (List.mem_of_getElem? (i := 138) rfl)) rfl
theorem q140 : (Jvm.Cond.fieldLink "java/lang/Throwable" (20 : Nat) "java/lang/Throwable" "SUPPRESSED_SENTINEL" "Ljava/util/List;") ∈ WL := WL_t (in_tables_1_1 (List.mem_of_getElem? (i := 140) rfl)) rfl
theorem q142 : (Jvm.Cond.methodLink "java/lang/Throwable" (27 : Nat) ({ cls := "java/lang/Throwable", name := "fillInStackTrace", desc := "()Ljava/lang/Throwable;" } : Jvm.MethodName)) ∈ WL := WL_t (in_tables_1_1 (List.mem_of_getElem? (i := 142) rfl)) rfl
theorem q143 : (Jvm.Cond.instanceMethod ({ cls := "java/lang/Throwable", name := "fillInStackTrace", desc := "()Ljava/lang/Throwable;" } : Jvm.MethodName)) ∈ WL := WL_t (in_tables_1_1 (List.mem_of_getElem? (i := 143) rfl)) rfl
theorem q144 : (Jvm.Cond.sameMethod "java/lang/Throwable" "java/lang/Throwable" "fillInStackTrace" "()Ljava/lang/Throwable;") ∈ WL := WL_t (in_tables_1_1 (List.mem_of_getElem? (i := 144) rfl)) rfl
theorem q145 : (Jvm.Cond.selects "java/lang/IllegalStateException" ({ cls := "java/lang/Throwable", name := "fillInStackTrace", desc := "()Ljava/lang/Throwable;" } : Jvm.MethodName) ({ cls := "java/lang/Throwable", name := "fillInStackTrace", desc := "()Ljava/lang/Throwable;" } : Jvm.MethodName)) ∈ WL := WL_t (in_tables_1_1 (List.mem_of_getElem? (i := 145) rfl)) rfl
theorem q146 : (Jvm.Cond.selects "java/lang/IndexOutOfBoundsException" ({ cls := "java/lang/Throwable", name := "fillInStackTrace", desc := "()Ljava/lang/Throwable;" } : Jvm.MethodName) ({ cls := "java/lang/Throwable", name := "fillInStackTrace", desc := "()Ljava/lang/Throwable;" } : Jvm.MethodName)) ∈ WL := WL_t (in_tables_1_1 (List.mem_of_getElem? (i := 146) rfl)) rfl
theorem q147 : (Jvm.Cond.codeSync ({ cls := "java/lang/Throwable", name := "fillInStackTrace", desc := "()Ljava/lang/Throwable;" } : Jvm.MethodName) prog_18_method_18_code (1 : Nat) (Option.some (Jvm.ClassFile.FieldType.object "java/lang/Throwable"))) ∈ WL := WL_t (in_tables_1_1 (List.mem_of_getElem? (i := 147) rfl)) rfl
theorem q148 : (Jvm.Cond.methodLink "java/lang/Throwable" (202 : Nat) ({ cls := "java/lang/Throwable", name := "fillInStackTrace", desc := "(I)Ljava/lang/Throwable;" } : Jvm.MethodName)) ∈ WL := WL_t (in_tables_1_1 (List.mem_of_getElem? (i := 148) rfl)) rfl
theorem q149 : (Jvm.Cond.privateMethod ({ cls := "java/lang/Throwable", name := "fillInStackTrace", desc := "(I)Ljava/lang/Throwable;" } : Jvm.MethodName)) ∈ XL := XL_t (in_tables_1_1 (List.mem_of_getElem? (i := 149) rfl)) rfl
theorem q150 : (Jvm.Cond.instanceMethod ({ cls := "java/lang/Throwable", name := "fillInStackTrace", desc := "(I)Ljava/lang/Throwable;" } : Jvm.MethodName)) ∈ WL := WL_t (in_tables_1_1 (List.mem_of_getElem? (i := 150) rfl)) rfl
theorem q151 : (Jvm.Cond.instantiable "java/lang/Throwable" (6 : Nat)) ∈ WL := WL_t (in_tables_1_1 (List.mem_of_getElem? (i := 151) rfl)) rfl
theorem q152 : (Jvm.Cond.native ({ cls := "java/lang/Throwable", name := "fillInStackTrace", desc := "(I)Ljava/lang/Throwable;" } : Jvm.MethodName)) ∈ WL := WL_t (in_tables_1_1 (List.mem_of_getElem? (i := 152) rfl)) rfl
theorem q154 : (Jvm.Cond.methodLink "Icehighway" (229 : Nat) ({ cls := "java/lang/IllegalArgumentException", name := "<init>", desc := "(Ljava/lang/String;)V" } : Jvm.MethodName)) ∈ WL := WL_t (in_tables_1_1 (List.mem_of_getElem? (i := 154) rfl)) rfl
theorem q155 : (Jvm.Cond.instanceMethod ({ cls := "java/lang/IllegalArgumentException", name := "<init>", desc := "(Ljava/lang/String;)V" } : Jvm.MethodName)) ∈ WL := WL_t (in_tables_1_1 (List.mem_of_getElem? (i := 155) rfl)) rfl
theorem q156 : (Jvm.Cond.code ({ cls := "java/lang/IllegalArgumentException", name := "<init>", desc := "(Ljava/lang/String;)V" } : Jvm.MethodName) prog_10_method_2_code (2 : Nat) (Option.none : Option Jvm.ClassFile.FieldType)) ∈ WL := WL_t (in_tables_1_1 (List.mem_of_getElem? (i := 156) rfl)) rfl
theorem q157 : (Jvm.Cond.methodLink "java/lang/IllegalArgumentException" (7 : Nat) ({ cls := "java/lang/RuntimeException", name := "<init>", desc := "(Ljava/lang/String;)V" } : Jvm.MethodName)) ∈ WL := WL_t (in_tables_1_1 (List.mem_of_getElem? (i := 157) rfl)) rfl
theorem q158 : (Jvm.Cond.instanceMethod ({ cls := "java/lang/RuntimeException", name := "<init>", desc := "(Ljava/lang/String;)V" } : Jvm.MethodName)) ∈ WL := WL_t (in_tables_1_1 (List.mem_of_getElem? (i := 158) rfl)) rfl
theorem q159 : (Jvm.Cond.code ({ cls := "java/lang/RuntimeException", name := "<init>", desc := "(Ljava/lang/String;)V" } : Jvm.MethodName) prog_15_method_2_code (2 : Nat) (Option.none : Option Jvm.ClassFile.FieldType)) ∈ WL := WL_t (in_tables_1_1 (List.mem_of_getElem? (i := 159) rfl)) rfl
theorem q160 : (Jvm.Cond.methodLink "java/lang/RuntimeException" (7 : Nat) ({ cls := "java/lang/Exception", name := "<init>", desc := "(Ljava/lang/String;)V" } : Jvm.MethodName)) ∈ WL := WL_t (in_tables_1_1 (List.mem_of_getElem? (i := 160) rfl)) rfl
theorem q161 : (Jvm.Cond.instanceMethod ({ cls := "java/lang/Exception", name := "<init>", desc := "(Ljava/lang/String;)V" } : Jvm.MethodName)) ∈ WL := WL_t (in_tables_1_1 (List.mem_of_getElem? (i := 161) rfl)) rfl
theorem q162 : (Jvm.Cond.code ({ cls := "java/lang/Exception", name := "<init>", desc := "(Ljava/lang/String;)V" } : Jvm.MethodName) prog_9_method_2_code (2 : Nat) (Option.none : Option Jvm.ClassFile.FieldType)) ∈ WL := WL_t (in_tables_1_1 (List.mem_of_getElem? (i := 162) rfl)) rfl
theorem q163 : (Jvm.Cond.methodLink "java/lang/Exception" (7 : Nat) ({ cls := "java/lang/Throwable", name := "<init>", desc := "(Ljava/lang/String;)V" } : Jvm.MethodName)) ∈ WL := WL_t (in_tables_1_1 (List.mem_of_getElem? (i := 163) rfl)) rfl
theorem q164 : (Jvm.Cond.instanceMethod ({ cls := "java/lang/Throwable", name := "<init>", desc := "(Ljava/lang/String;)V" } : Jvm.MethodName)) ∈ WL := WL_t (in_tables_1_1 (List.mem_of_getElem? (i := 164) rfl)) rfl
theorem q165 : (Jvm.Cond.code ({ cls := "java/lang/Throwable", name := "<init>", desc := "(Ljava/lang/String;)V" } : Jvm.MethodName) prog_18_method_2_code (2 : Nat) (Option.none : Option Jvm.ClassFile.FieldType)) ∈ WL := WL_t (in_tables_1_1 (List.mem_of_getElem? (i := 165) rfl)) rfl
theorem q166 : (Jvm.Cond.fieldLink "java/lang/Throwable" (198 : Nat) "java/lang/Throwable" "backtrace" "Ljava/lang/Object;") ∈ WL := WL_t (in_tables_1_1 (List.mem_of_getElem? (i := 166) rfl)) rfl
theorem q167 : (Jvm.Cond.fieldLink "java/lang/Throwable" (31 : Nat) "java/lang/Throwable" "detailMessage" "Ljava/lang/String;") ∈ WL := WL_t (in_tables_1_1 (List.mem_of_getElem? (i := 167) rfl)) rfl
theorem q168 : (Jvm.Cond.fieldLink "java/lang/Throwable" (7 : Nat) "java/lang/Throwable" "cause" "Ljava/lang/Throwable;") ∈ WL := WL_t (in_tables_1_1 (List.mem_of_getElem? (i := 168) rfl)) rfl
theorem q169 : (Jvm.Cond.fieldLink "java/lang/Throwable" (17 : Nat) "java/lang/Throwable" "stackTrace" "[Ljava/lang/StackTraceElement;") ∈ WL := WL_t (in_tables_1_1 (List.mem_of_getElem? (i := 169) rfl)) rfl
theorem q170 : (Jvm.Cond.fieldLink "java/lang/Throwable" (24 : Nat) "java/lang/Throwable" "suppressedExceptions" "Ljava/util/List;") ∈ WL := WL_t (in_tables_1_1 (List.mem_of_getElem? (i := 170) rfl)) rfl
theorem q175 : (Jvm.Cond.lays "java/lang/IllegalArgumentException" "java/lang/Throwable" "depth" "I") ∈ WL := WL_t (in_tables_1_1 (List.mem_of_getElem? (i := 175) rfl)) rfl
theorem q179 : (Jvm.Cond.arrayClass Jvm.ClassFile.FieldType.byte) ∈ WL := WL_t (in_tables_1_1 (List.mem_of_getElem? (i := 179) rfl)) rfl
theorem q181 : (Jvm.Cond.methodLink "Icehighway" (46 : Nat) ({ cls := "java/util/List", name := "size", desc := "()I" } : Jvm.MethodName)) ∈ WL := WL_t (in_tables_1_1 (List.mem_of_getElem? (i := 181) rfl)) rfl
theorem q182 : (Jvm.Cond.interfaceMethod "java/util/List" "java/util/List" "size" "()I") ∈ XL := XL_t (in_tables_1_1 (List.mem_of_getElem? (i := 182) rfl)) rfl
theorem q183 : (Jvm.Cond.declares ({ cls := "java/util/List", name := "size", desc := "()I" } : Jvm.MethodName)) ∈ XL := XL_t (in_tables_1_1 (List.mem_of_getElem? (i := 183) rfl)) rfl
theorem q184 : (Jvm.Cond.castable "java/util/ArrayList" "java/util/List") ∈ XL := XL_t (in_tables_1_1 (List.mem_of_getElem? (i := 184) rfl)) rfl
theorem q185 : (Jvm.Cond.selects "java/util/ArrayList" ({ cls := "java/util/List", name := "size", desc := "()I" } : Jvm.MethodName) ({ cls := "java/util/ArrayList", name := "size", desc := "()I" } : Jvm.MethodName)) ∈ WL := WL_t (in_tables_1_1 (List.mem_of_getElem? (i := 185) rfl)) rfl
theorem q186 : (Jvm.Cond.unhidden "java/util/ArrayList" "size" "()I") ∈ XL := XL_t (in_tables_1_1 (List.mem_of_getElem? (i := 186) rfl)) rfl
theorem q187 : (Jvm.Cond.instanceMethod ({ cls := "java/util/ArrayList", name := "size", desc := "()I" } : Jvm.MethodName)) ∈ WL := WL_t (in_tables_1_1 (List.mem_of_getElem? (i := 187) rfl)) rfl
theorem q188 : (Jvm.Cond.publicMethod ({ cls := "java/util/ArrayList", name := "size", desc := "()I" } : Jvm.MethodName)) ∈ XL := XL_t (in_tables_1_1 (List.mem_of_getElem? (i := 188) rfl)) rfl
theorem q189 : (Jvm.Cond.code ({ cls := "java/util/ArrayList", name := "size", desc := "()I" } : Jvm.MethodName) prog_21_method_8_code (1 : Nat) (Option.some Jvm.ClassFile.FieldType.int)) ∈ WL := WL_t (in_tables_1_1 (List.mem_of_getElem? (i := 189) rfl)) rfl
theorem q191 : (Jvm.Cond.methodLink "Icehighway" (52 : Nat) ({ cls := "java/util/List", name := "isEmpty", desc := "()Z" } : Jvm.MethodName)) ∈ WL := WL_t (in_tables_1_1 (List.mem_of_getElem? (i := 191) rfl)) rfl
theorem q192 : (Jvm.Cond.interfaceMethod "java/util/List" "java/util/List" "isEmpty" "()Z") ∈ XL := XL_t (in_tables_1_1 (List.mem_of_getElem? (i := 192) rfl)) rfl
theorem q193 : (Jvm.Cond.declares ({ cls := "java/util/List", name := "isEmpty", desc := "()Z" } : Jvm.MethodName)) ∈ XL := XL_t (in_tables_1_1 (List.mem_of_getElem? (i := 193) rfl)) rfl
theorem q194 : (Jvm.Cond.selects "java/util/ArrayList" ({ cls := "java/util/List", name := "isEmpty", desc := "()Z" } : Jvm.MethodName) ({ cls := "java/util/ArrayList", name := "isEmpty", desc := "()Z" } : Jvm.MethodName)) ∈ WL := WL_t (in_tables_1_1 (List.mem_of_getElem? (i := 194) rfl)) rfl
theorem q195 : (Jvm.Cond.unhidden "java/util/ArrayList" "isEmpty" "()Z") ∈ XL := XL_t (in_tables_1_1 (List.mem_of_getElem? (i := 195) rfl)) rfl
theorem q196 : (Jvm.Cond.instanceMethod ({ cls := "java/util/ArrayList", name := "isEmpty", desc := "()Z" } : Jvm.MethodName)) ∈ WL := WL_t (in_tables_1_1 (List.mem_of_getElem? (i := 196) rfl)) rfl
theorem q197 : (Jvm.Cond.publicMethod ({ cls := "java/util/ArrayList", name := "isEmpty", desc := "()Z" } : Jvm.MethodName)) ∈ XL := XL_t (in_tables_1_1 (List.mem_of_getElem? (i := 197) rfl)) rfl
theorem q198 : (Jvm.Cond.code ({ cls := "java/util/ArrayList", name := "isEmpty", desc := "()Z" } : Jvm.MethodName) prog_21_method_9_code (1 : Nat) (Option.some Jvm.ClassFile.FieldType.boolean)) ∈ WL := WL_t (in_tables_1_1 (List.mem_of_getElem? (i := 198) rfl)) rfl
theorem q199 : (Jvm.Cond.classLink "Icehighway" (56 : Nat) "java/lang/IllegalStateException") ∈ WL := WL_t (in_tables_1_1 (List.mem_of_getElem? (i := 199) rfl)) rfl
theorem q200 : (Jvm.Cond.instantiable "java/lang/IllegalStateException" (6 : Nat)) ∈ WL := WL_t (in_tables_1_1 (List.mem_of_getElem? (i := 200) rfl)) rfl
theorem q201 : (Jvm.Cond.castable "java/lang/IllegalStateException" "java/lang/IllegalStateException") ∈ XL := XL_t (in_tables_1_1 (List.mem_of_getElem? (i := 201) rfl)) rfl
theorem q202 : (Jvm.Cond.selects "java/lang/IllegalStateException" ({ cls := "java/lang/Throwable", name := "fillInStackTrace", desc := "(I)Ljava/lang/Throwable;" } : Jvm.MethodName) ({ cls := "java/lang/Throwable", name := "fillInStackTrace", desc := "(I)Ljava/lang/Throwable;" } : Jvm.MethodName)) ∈ WL := WL_t (in_tables_1_1 (List.mem_of_getElem? (i := 202) rfl)) rfl
theorem q203 : (Jvm.Cond.lays "java/lang/IllegalStateException" "java/lang/Throwable" "cause" "Ljava/lang/Throwable;") ∈ WL := WL_t (in_tables_1_1 (List.mem_of_getElem? (i := 203) rfl)) rfl
theorem q204 : (Jvm.Cond.lays "java/lang/IllegalStateException" "java/lang/Throwable" "stackTrace" "[Ljava/lang/StackTraceElement;") ∈ WL := WL_t (in_tables_1_1 (List.mem_of_getElem? (i := 204) rfl)) rfl
theorem q205 : (Jvm.Cond.lays "java/lang/IllegalStateException" "java/lang/Throwable" "suppressedExceptions" "Ljava/util/List;") ∈ WL := WL_t (in_tables_1_1 (List.mem_of_getElem? (i := 205) rfl)) rfl
theorem q206 : (Jvm.Cond.lays "java/lang/IllegalStateException" "java/lang/Throwable" "detailMessage" "Ljava/lang/String;") ∈ WL := WL_t (in_tables_1_1 (List.mem_of_getElem? (i := 206) rfl)) rfl
theorem q207 : (Jvm.Cond.lays "java/lang/IllegalStateException" "java/lang/Throwable" "backtrace" "Ljava/lang/Object;") ∈ WL := WL_t (in_tables_1_1 (List.mem_of_getElem? (i := 207) rfl)) rfl
theorem q209 : (Jvm.Cond.methodLink "Icehighway" (60 : Nat) ({ cls := "java/lang/IllegalStateException", name := "<init>", desc := "(Ljava/lang/String;)V" } : Jvm.MethodName)) ∈ WL := WL_t (in_tables_1_1 (List.mem_of_getElem? (i := 209) rfl)) rfl
theorem q210 : (Jvm.Cond.instanceMethod ({ cls := "java/lang/IllegalStateException", name := "<init>", desc := "(Ljava/lang/String;)V" } : Jvm.MethodName)) ∈ WL := WL_t (in_tables_1_1 (List.mem_of_getElem? (i := 210) rfl)) rfl
theorem q211 : (Jvm.Cond.code ({ cls := "java/lang/IllegalStateException", name := "<init>", desc := "(Ljava/lang/String;)V" } : Jvm.MethodName) prog_11_method_2_code (2 : Nat) (Option.none : Option Jvm.ClassFile.FieldType)) ∈ WL := WL_t (in_tables_1_1 (List.mem_of_getElem? (i := 211) rfl)) rfl
theorem q212 : (Jvm.Cond.methodLink "java/lang/IllegalStateException" (7 : Nat) ({ cls := "java/lang/RuntimeException", name := "<init>", desc := "(Ljava/lang/String;)V" } : Jvm.MethodName)) ∈ WL := WL_t (in_tables_1_1 (List.mem_of_getElem? (i := 212) rfl)) rfl
theorem q213 : (Jvm.Cond.lays "java/lang/IllegalStateException" "java/lang/Throwable" "depth" "I") ∈ WL := WL_t (in_tables_1_1 (List.mem_of_getElem? (i := 213) rfl)) rfl
theorem q215 : (Jvm.Cond.classLink "Icehighway" (63 : Nat) "Icehighway$Piece") ∈ WL := WL_t (in_tables_1_1 (List.mem_of_getElem? (i := 215) rfl)) rfl
theorem q216 : (Jvm.Cond.instantiable "Icehighway$Piece" (16 : Nat)) ∈ WL := WL_t (in_tables_1_1 (List.mem_of_getElem? (i := 216) rfl)) rfl
theorem q217 : (Jvm.Cond.methodLink "Icehighway" (65 : Nat) ({ cls := "Icehighway$Piece", name := "<init>", desc := "(III)V" } : Jvm.MethodName)) ∈ WL := WL_t (in_tables_1_1 (List.mem_of_getElem? (i := 217) rfl)) rfl
theorem q218 : (Jvm.Cond.instanceMethod ({ cls := "Icehighway$Piece", name := "<init>", desc := "(III)V" } : Jvm.MethodName)) ∈ WL := WL_t (in_tables_1_1 (List.mem_of_getElem? (i := 218) rfl)) rfl
theorem q219 : (Jvm.Cond.code ({ cls := "Icehighway$Piece", name := "<init>", desc := "(III)V" } : Jvm.MethodName) prog_3_method_1_code (4 : Nat) (Option.none : Option Jvm.ClassFile.FieldType)) ∈ WL := WL_t (in_tables_1_1 (List.mem_of_getElem? (i := 219) rfl)) rfl
theorem q220 : (Jvm.Cond.methodLink "Icehighway$Piece" (3 : Nat) ({ cls := "java/lang/Object", name := "<init>", desc := "()V" } : Jvm.MethodName)) ∈ WL := WL_t (in_tables_1_1 (List.mem_of_getElem? (i := 220) rfl)) rfl
theorem q221 : (Jvm.Cond.fieldLink "Icehighway$Piece" (52 : Nat) "Icehighway$Piece" "kind" "I") ∈ WL := WL_t (in_tables_1_1 (List.mem_of_getElem? (i := 221) rfl)) rfl
theorem q222 : (Jvm.Cond.fieldLink "Icehighway" (289 : Nat) "Icehighway$Piece" "kind" "I") ∈ WL := WL_t (in_tables_1_1 (List.mem_of_getElem? (i := 222) rfl)) rfl
theorem q223 : (Jvm.Cond.fieldLink "Icehighway$Piece" (55 : Nat) "Icehighway$Piece" "metres" "I") ∈ WL := WL_t (in_tables_1_1 (List.mem_of_getElem? (i := 223) rfl)) rfl
theorem q224 : (Jvm.Cond.fieldLink "Icehighway" (209 : Nat) "Icehighway$Piece" "metres" "I") ∈ WL := WL_t (in_tables_1_1 (List.mem_of_getElem? (i := 224) rfl)) rfl
theorem q225 : (Jvm.Cond.fieldLink "Icehighway$Piece" (58 : Nat) "Icehighway$Piece" "depth" "I") ∈ WL := WL_t (in_tables_1_1 (List.mem_of_getElem? (i := 225) rfl)) rfl
theorem q226 : (Jvm.Cond.fieldLink "Icehighway$Piece" (9 : Nat) "Icehighway$Piece" "black" "I") ∈ WL := WL_t (in_tables_1_1 (List.mem_of_getElem? (i := 226) rfl)) rfl
theorem q227 : (Jvm.Cond.fieldLink "Icehighway" (164 : Nat) "Icehighway$Piece" "black" "I") ∈ WL := WL_t (in_tables_1_1 (List.mem_of_getElem? (i := 227) rfl)) rfl
theorem q228 : (Jvm.Cond.fieldLink "Icehighway$Piece" (15 : Nat) "Icehighway$Piece" "white" "I") ∈ WL := WL_t (in_tables_1_1 (List.mem_of_getElem? (i := 228) rfl)) rfl
theorem q229 : (Jvm.Cond.fieldLink "Icehighway" (167 : Nat) "Icehighway$Piece" "white" "I") ∈ WL := WL_t (in_tables_1_1 (List.mem_of_getElem? (i := 229) rfl)) rfl
theorem q230 : (Jvm.Cond.fieldLink "Icehighway$Piece" (18 : Nat) "Icehighway$Piece" "water" "I") ∈ WL := WL_t (in_tables_1_1 (List.mem_of_getElem? (i := 230) rfl)) rfl
theorem q231 : (Jvm.Cond.fieldLink "Icehighway" (88 : Nat) "Icehighway$Piece" "water" "I") ∈ WL := WL_t (in_tables_1_1 (List.mem_of_getElem? (i := 231) rfl)) rfl
theorem q232 : (Jvm.Cond.fieldLink "Icehighway$Piece" (21 : Nat) "Icehighway$Piece" "snow" "I") ∈ WL := WL_t (in_tables_1_1 (List.mem_of_getElem? (i := 232) rfl)) rfl
theorem q233 : (Jvm.Cond.fieldLink "Icehighway" (75 : Nat) "Icehighway$Piece" "snow" "I") ∈ WL := WL_t (in_tables_1_1 (List.mem_of_getElem? (i := 233) rfl)) rfl
theorem q234 : (Jvm.Cond.fieldLink "Icehighway$Piece" (24 : Nat) "Icehighway$Piece" "crack" "I") ∈ WL := WL_t (in_tables_1_1 (List.mem_of_getElem? (i := 234) rfl)) rfl
theorem q235 : (Jvm.Cond.fieldLink "Icehighway" (170 : Nat) "Icehighway$Piece" "crack" "I") ∈ WL := WL_t (in_tables_1_1 (List.mem_of_getElem? (i := 235) rfl)) rfl
theorem q236 : (Jvm.Cond.fieldLink "Icehighway$Piece" (27 : Nat) "Icehighway$Piece" "openness" "I") ∈ WL := WL_t (in_tables_1_1 (List.mem_of_getElem? (i := 236) rfl)) rfl
theorem q237 : (Jvm.Cond.fieldLink "Icehighway" (101 : Nat) "Icehighway$Piece" "openness" "I") ∈ WL := WL_t (in_tables_1_1 (List.mem_of_getElem? (i := 237) rfl)) rfl
theorem q238 : (Jvm.Cond.fieldLink "Icehighway$Piece" (30 : Nat) "Icehighway$Piece" "speedLimit" "I") ∈ WL := WL_t (in_tables_1_1 (List.mem_of_getElem? (i := 238) rfl)) rfl
theorem q239 : (Jvm.Cond.fieldLink "Icehighway" (104 : Nat) "Icehighway$Piece" "speedLimit" "I") ∈ WL := WL_t (in_tables_1_1 (List.mem_of_getElem? (i := 239) rfl)) rfl
theorem q240 : (Jvm.Cond.fieldLink "Icehighway$Piece" (33 : Nat) "Icehighway$Piece" "known" "D") ∈ WL := WL_t (in_tables_1_2 (List.mem_of_getElem? (i := 0) rfl)) rfl
theorem q241 : (Jvm.Cond.fieldLink "Icehighway" (97 : Nat) "Icehighway$Piece" "known" "D") ∈ WL := WL_t (in_tables_1_2 (List.mem_of_getElem? (i := 1) rfl)) rfl
theorem q242 : (Jvm.Cond.fieldLink "Icehighway$Piece" (37 : Nat) "Icehighway$Piece" "onToMine" "I") ∈ WL := WL_t (in_tables_1_2 (List.mem_of_getElem? (i := 2) rfl)) rfl
theorem q243 : (Jvm.Cond.fieldLink "Icehighway" (173 : Nat) "Icehighway$Piece" "onToMine" "I") ∈ WL := WL_t (in_tables_1_2 (List.mem_of_getElem? (i := 3) rfl)) rfl
theorem q244 : (Jvm.Cond.fieldLink "Icehighway$Piece" (40 : Nat) "Icehighway$Piece" "onToBase" "I") ∈ WL := WL_t (in_tables_1_2 (List.mem_of_getElem? (i := 4) rfl)) rfl
theorem q245 : (Jvm.Cond.fieldLink "Icehighway" (176 : Nat) "Icehighway$Piece" "onToBase" "I") ∈ WL := WL_t (in_tables_1_2 (List.mem_of_getElem? (i := 5) rfl)) rfl
theorem q246 : (Jvm.Cond.fieldLink "Icehighway$Piece" (43 : Nat) "Icehighway$Piece" "weightOn" "I") ∈ WL := WL_t (in_tables_1_2 (List.mem_of_getElem? (i := 6) rfl)) rfl
theorem q247 : (Jvm.Cond.fieldLink "Icehighway" (277 : Nat) "Icehighway$Piece" "weightOn" "I") ∈ WL := WL_t (in_tables_1_2 (List.mem_of_getElem? (i := 7) rfl)) rfl
theorem q248 : (Jvm.Cond.fieldLink "Icehighway$Piece" (46 : Nat) "Icehighway$Piece" "lastToMine" "I") ∈ WL := WL_t (in_tables_1_2 (List.mem_of_getElem? (i := 8) rfl)) rfl
theorem q249 : (Jvm.Cond.fieldLink "Icehighway$Piece" (49 : Nat) "Icehighway$Piece" "lastToBase" "I") ∈ WL := WL_t (in_tables_1_2 (List.mem_of_getElem? (i := 9) rfl)) rfl
theorem q250 : (Jvm.Cond.laysFinal "Icehighway$Piece" "Icehighway$Piece" "kind" "I") ∈ WL := WL_t (in_tables_1_2 (List.mem_of_getElem? (i := 10) rfl)) rfl
theorem q252 : (Jvm.Cond.laysFinal "Icehighway$Piece" "Icehighway$Piece" "metres" "I") ∈ WL := WL_t (in_tables_1_2 (List.mem_of_getElem? (i := 12) rfl)) rfl
theorem q254 : (Jvm.Cond.laysFinal "Icehighway$Piece" "Icehighway$Piece" "depth" "I") ∈ WL := WL_t (in_tables_1_2 (List.mem_of_getElem? (i := 14) rfl)) rfl
theorem q256 : (Jvm.Cond.lays "Icehighway$Piece" "Icehighway$Piece" "black" "I") ∈ WL := WL_t (in_tables_1_2 (List.mem_of_getElem? (i := 16) rfl)) rfl
theorem q258 : (Jvm.Cond.lays "Icehighway$Piece" "Icehighway$Piece" "white" "I") ∈ WL := WL_t (in_tables_1_2 (List.mem_of_getElem? (i := 18) rfl)) rfl
theorem q260 : (Jvm.Cond.lays "Icehighway$Piece" "Icehighway$Piece" "water" "I") ∈ WL := WL_t (in_tables_1_2 (List.mem_of_getElem? (i := 20) rfl)) rfl
theorem q262 : (Jvm.Cond.lays "Icehighway$Piece" "Icehighway$Piece" "snow" "I") ∈ WL := WL_t (in_tables_1_2 (List.mem_of_getElem? (i := 22) rfl)) rfl
theorem q264 : (Jvm.Cond.lays "Icehighway$Piece" "Icehighway$Piece" "crack" "I") ∈ WL := WL_t (in_tables_1_2 (List.mem_of_getElem? (i := 24) rfl)) rfl
theorem q266 : (Jvm.Cond.lays "Icehighway$Piece" "Icehighway$Piece" "openness" "I") ∈ WL := WL_t (in_tables_1_2 (List.mem_of_getElem? (i := 26) rfl)) rfl
theorem q268 : (Jvm.Cond.lays "Icehighway$Piece" "Icehighway$Piece" "speedLimit" "I") ∈ WL := WL_t (in_tables_1_2 (List.mem_of_getElem? (i := 28) rfl)) rfl
theorem q270 : (Jvm.Cond.lays "Icehighway$Piece" "Icehighway$Piece" "known" "D") ∈ WL := WL_t (in_tables_1_2 (List.mem_of_getElem? (i := 30) rfl)) rfl
theorem q272 : (Jvm.Cond.lays "Icehighway$Piece" "Icehighway$Piece" "onToMine" "I") ∈ WL := WL_t (in_tables_1_2 (List.mem_of_getElem? (i := 32) rfl)) rfl
theorem q274 : (Jvm.Cond.lays "Icehighway$Piece" "Icehighway$Piece" "onToBase" "I") ∈ WL := WL_t (in_tables_1_2 (List.mem_of_getElem? (i := 34) rfl)) rfl
theorem q276 : (Jvm.Cond.lays "Icehighway$Piece" "Icehighway$Piece" "weightOn" "I") ∈ WL := WL_t (in_tables_1_2 (List.mem_of_getElem? (i := 36) rfl)) rfl
theorem q278 : (Jvm.Cond.lays "Icehighway$Piece" "Icehighway$Piece" "lastToMine" "I") ∈ WL := WL_t (in_tables_1_2 (List.mem_of_getElem? (i := 38) rfl)) rfl
theorem q280 : (Jvm.Cond.lays "Icehighway$Piece" "Icehighway$Piece" "lastToBase" "I") ∈ WL := WL_t (in_tables_1_2 (List.mem_of_getElem? (i := 40) rfl)) rfl
theorem q284 : (Jvm.Cond.methodLink "Icehighway" (67 : Nat) ({ cls := "java/util/List", name := "add", desc := "(Ljava/lang/Object;)Z" } : Jvm.MethodName)) ∈ WL := WL_t (in_tables_1_2 (List.mem_of_getElem? (i := 44) rfl)) rfl
theorem q285 : (Jvm.Cond.interfaceMethod "java/util/List" "java/util/List" "add" "(Ljava/lang/Object;)Z") ∈ XL := XL_t (in_tables_1_2 (List.mem_of_getElem? (i := 45) rfl)) rfl
theorem q286 : (Jvm.Cond.declares ({ cls := "java/util/List", name := "add", desc := "(Ljava/lang/Object;)Z" } : Jvm.MethodName)) ∈ XL := XL_t (in_tables_1_2 (List.mem_of_getElem? (i := 46) rfl)) rfl
theorem q287 : (Jvm.Cond.selects "java/util/ArrayList" ({ cls := "java/util/List", name := "add", desc := "(Ljava/lang/Object;)Z" } : Jvm.MethodName) ({ cls := "java/util/ArrayList", name := "add", desc := "(Ljava/lang/Object;)Z" } : Jvm.MethodName)) ∈ WL := WL_t (in_tables_1_2 (List.mem_of_getElem? (i := 47) rfl)) rfl
theorem q288 : (Jvm.Cond.unhidden "java/util/ArrayList" "add" "(Ljava/lang/Object;)Z") ∈ XL := XL_t (in_tables_1_2 (List.mem_of_getElem? (i := 48) rfl)) rfl
theorem q289 : (Jvm.Cond.instanceMethod ({ cls := "java/util/ArrayList", name := "add", desc := "(Ljava/lang/Object;)Z" } : Jvm.MethodName)) ∈ WL := WL_t (in_tables_1_2 (List.mem_of_getElem? (i := 49) rfl)) rfl
theorem q290 : (Jvm.Cond.publicMethod ({ cls := "java/util/ArrayList", name := "add", desc := "(Ljava/lang/Object;)Z" } : Jvm.MethodName)) ∈ XL := XL_t (in_tables_1_2 (List.mem_of_getElem? (i := 50) rfl)) rfl
theorem q291 : (Jvm.Cond.code ({ cls := "java/util/ArrayList", name := "add", desc := "(Ljava/lang/Object;)Z" } : Jvm.MethodName) prog_21_method_25_code (2 : Nat) (Option.some Jvm.ClassFile.FieldType.boolean)) ∈ WL := WL_t (in_tables_1_2 (List.mem_of_getElem? (i := 51) rfl)) rfl
theorem q292 : (Jvm.Cond.methodLink "java/util/ArrayList" (131 : Nat) ({ cls := "java/util/ArrayList", name := "add", desc := "(Ljava/lang/Object;[Ljava/lang/Object;I)V" } : Jvm.MethodName)) ∈ WL := WL_t (in_tables_1_2 (List.mem_of_getElem? (i := 52) rfl)) rfl
theorem q293 : (Jvm.Cond.privateMethod ({ cls := "java/util/ArrayList", name := "add", desc := "(Ljava/lang/Object;[Ljava/lang/Object;I)V" } : Jvm.MethodName)) ∈ XL := XL_t (in_tables_1_2 (List.mem_of_getElem? (i := 53) rfl)) rfl
theorem q294 : (Jvm.Cond.instanceMethod ({ cls := "java/util/ArrayList", name := "add", desc := "(Ljava/lang/Object;[Ljava/lang/Object;I)V" } : Jvm.MethodName)) ∈ WL := WL_t (in_tables_1_2 (List.mem_of_getElem? (i := 54) rfl)) rfl
theorem q295 : (Jvm.Cond.code ({ cls := "java/util/ArrayList", name := "add", desc := "(Ljava/lang/Object;[Ljava/lang/Object;I)V" } : Jvm.MethodName) prog_21_method_24_code (4 : Nat) (Option.none : Option Jvm.ClassFile.FieldType)) ∈ WL := WL_t (in_tables_1_2 (List.mem_of_getElem? (i := 55) rfl)) rfl
theorem q296 : (Jvm.Cond.methodLink "java/util/ArrayList" (129 : Nat) ({ cls := "java/util/ArrayList", name := "grow", desc := "()[Ljava/lang/Object;" } : Jvm.MethodName)) ∈ WL := WL_t (in_tables_1_2 (List.mem_of_getElem? (i := 56) rfl)) rfl
theorem q297 : (Jvm.Cond.privateMethod ({ cls := "java/util/ArrayList", name := "grow", desc := "()[Ljava/lang/Object;" } : Jvm.MethodName)) ∈ XL := XL_t (in_tables_1_2 (List.mem_of_getElem? (i := 57) rfl)) rfl
theorem q298 : (Jvm.Cond.instanceMethod ({ cls := "java/util/ArrayList", name := "grow", desc := "()[Ljava/lang/Object;" } : Jvm.MethodName)) ∈ WL := WL_t (in_tables_1_2 (List.mem_of_getElem? (i := 58) rfl)) rfl
theorem q299 : (Jvm.Cond.code ({ cls := "java/util/ArrayList", name := "grow", desc := "()[Ljava/lang/Object;" } : Jvm.MethodName) prog_21_method_7_code (1 : Nat) (Option.some (Jvm.ClassFile.FieldType.array (Jvm.ClassFile.FieldType.object "java/lang/Object")))) ∈ WL := WL_t (in_tables_1_2 (List.mem_of_getElem? (i := 59) rfl)) rfl
theorem q300 : (Jvm.Cond.methodLink "java/util/ArrayList" (69 : Nat) ({ cls := "java/util/ArrayList", name := "grow", desc := "(I)[Ljava/lang/Object;" } : Jvm.MethodName)) ∈ WL := WL_t (in_tables_1_2 (List.mem_of_getElem? (i := 60) rfl)) rfl
theorem q301 : (Jvm.Cond.privateMethod ({ cls := "java/util/ArrayList", name := "grow", desc := "(I)[Ljava/lang/Object;" } : Jvm.MethodName)) ∈ XL := XL_t (in_tables_1_2 (List.mem_of_getElem? (i := 61) rfl)) rfl
theorem q302 : (Jvm.Cond.instanceMethod ({ cls := "java/util/ArrayList", name := "grow", desc := "(I)[Ljava/lang/Object;" } : Jvm.MethodName)) ∈ WL := WL_t (in_tables_1_2 (List.mem_of_getElem? (i := 62) rfl)) rfl
theorem q303 : (Jvm.Cond.code ({ cls := "java/util/ArrayList", name := "grow", desc := "(I)[Ljava/lang/Object;" } : Jvm.MethodName) prog_21_method_6_code (4 : Nat) (Option.some (Jvm.ClassFile.FieldType.array (Jvm.ClassFile.FieldType.object "java/lang/Object")))) ∈ WL := WL_t (in_tables_1_2 (List.mem_of_getElem? (i := 63) rfl)) rfl
theorem q304 : (Jvm.Cond.methodLink "java/util/ArrayList" (73 : Nat) ({ cls := "jdk/internal/util/ArraysSupport", name := "newLength", desc := "(III)I" } : Jvm.MethodName)) ∈ WL := WL_t (in_tables_1_2 (List.mem_of_getElem? (i := 64) rfl)) rfl
theorem q305 : (Jvm.Cond.static ({ cls := "jdk/internal/util/ArraysSupport", name := "newLength", desc := "(III)I" } : Jvm.MethodName)) ∈ WL := WL_t (in_tables_1_2 (List.mem_of_getElem? (i := 65) rfl)) rfl
theorem q306 : (Jvm.Cond.code ({ cls := "jdk/internal/util/ArraysSupport", name := "newLength", desc := "(III)I" } : Jvm.MethodName) prog_28_method_27_code (4 : Nat) (Option.some Jvm.ClassFile.FieldType.int)) ∈ WL := WL_t (in_tables_1_2 (List.mem_of_getElem? (i := 66) rfl)) rfl
theorem q307 : (Jvm.Cond.methodLink "jdk/internal/util/ArraysSupport" (194 : Nat) ({ cls := "java/lang/Math", name := "max", desc := "(II)I" } : Jvm.MethodName)) ∈ WL := WL_t (in_tables_1_2 (List.mem_of_getElem? (i := 67) rfl)) rfl
theorem q308 : (Jvm.Cond.constant "jdk/internal/util/ArraysSupport" (200 : Nat) (2147483639 : Int32)) ∈ WL := WL_t (in_tables_1_2 (List.mem_of_getElem? (i := 68) rfl)) rfl
theorem q309 : (Jvm.Cond.methodLink "jdk/internal/util/ArraysSupport" (201 : Nat) ({ cls := "jdk/internal/util/ArraysSupport", name := "hugeLength", desc := "(II)I" } : Jvm.MethodName)) ∈ WL := WL_t (in_tables_1_2 (List.mem_of_getElem? (i := 69) rfl)) rfl
theorem q310 : (Jvm.Cond.static ({ cls := "jdk/internal/util/ArraysSupport", name := "hugeLength", desc := "(II)I" } : Jvm.MethodName)) ∈ WL := WL_t (in_tables_1_2 (List.mem_of_getElem? (i := 70) rfl)) rfl
theorem q311 : (Jvm.Cond.code ({ cls := "jdk/internal/util/ArraysSupport", name := "hugeLength", desc := "(II)I" } : Jvm.MethodName) prog_28_method_28_code (3 : Nat) (Option.some Jvm.ClassFile.FieldType.int)) ∈ WL := WL_t (in_tables_1_2 (List.mem_of_getElem? (i := 71) rfl)) rfl
theorem q312 : (Jvm.Cond.methodLink "java/util/ArrayList" (66 : Nat) ({ cls := "java/util/Arrays", name := "copyOf", desc := "([Ljava/lang/Object;I)[Ljava/lang/Object;" } : Jvm.MethodName)) ∈ WL := WL_t (in_tables_1_2 (List.mem_of_getElem? (i := 72) rfl)) rfl
theorem q313 : (Jvm.Cond.static ({ cls := "java/util/Arrays", name := "copyOf", desc := "([Ljava/lang/Object;I)[Ljava/lang/Object;" } : Jvm.MethodName)) ∈ WL := WL_t (in_tables_1_2 (List.mem_of_getElem? (i := 73) rfl)) rfl
theorem q314 : (Jvm.Cond.code ({ cls := "java/util/Arrays", name := "copyOf", desc := "([Ljava/lang/Object;I)[Ljava/lang/Object;" } : Jvm.MethodName) prog_22_method_119_code (2 : Nat) (Option.some (Jvm.ClassFile.FieldType.array (Jvm.ClassFile.FieldType.object "java/lang/Object")))) ∈ WL := WL_t (in_tables_1_2 (List.mem_of_getElem? (i := 74) rfl)) rfl
theorem q315 : (Jvm.Cond.methodLink "java/util/Arrays" (86 : Nat) ({ cls := "java/lang/Object", name := "getClass", desc := "()Ljava/lang/Class;" } : Jvm.MethodName)) ∈ WL := WL_t (in_tables_1_2 (List.mem_of_getElem? (i := 75) rfl)) rfl
theorem q316 : (Jvm.Cond.instanceMethod ({ cls := "java/lang/Object", name := "getClass", desc := "()Ljava/lang/Class;" } : Jvm.MethodName)) ∈ WL := WL_t (in_tables_1_2 (List.mem_of_getElem? (i := 76) rfl)) rfl
theorem q317 : (Jvm.Cond.sameMethod "java/lang/Object" "java/lang/Object" "getClass" "()Ljava/lang/Class;") ∈ WL := WL_t (in_tables_1_2 (List.mem_of_getElem? (i := 77) rfl)) rfl
theorem q318 : (Jvm.Cond.selects "Icehighway" ({ cls := "java/lang/Object", name := "getClass", desc := "()Ljava/lang/Class;" } : Jvm.MethodName) ({ cls := "java/lang/Object", name := "getClass", desc := "()Ljava/lang/Class;" } : Jvm.MethodName)) ∈ WL := WL_t (in_tables_1_2 (List.mem_of_getElem? (i := 78) rfl)) rfl
theorem q319 : (Jvm.Cond.selects "Icehighway$Load" ({ cls := "java/lang/Object", name := "getClass", desc := "()Ljava/lang/Class;" } : Jvm.MethodName) ({ cls := "java/lang/Object", name := "getClass", desc := "()Ljava/lang/Class;" } : Jvm.MethodName)) ∈ WL := WL_t (in_tables_1_2 (List.mem_of_getElem? (i := 79) rfl)) rfl
theorem q320 : (Jvm.Cond.selects "Icehighway$Piece" ({ cls := "java/lang/Object", name := "getClass", desc := "()Ljava/lang/Class;" } : Jvm.MethodName) ({ cls := "java/lang/Object", name := "getClass", desc := "()Ljava/lang/Class;" } : Jvm.MethodName)) ∈ WL := WL_t (in_tables_1_2 (List.mem_of_getElem? (i := 80) rfl)) rfl
theorem q321 : (Jvm.Cond.selects "Icehighway$Vehicle" ({ cls := "java/lang/Object", name := "getClass", desc := "()Ljava/lang/Class;" } : Jvm.MethodName) ({ cls := "java/lang/Object", name := "getClass", desc := "()Ljava/lang/Class;" } : Jvm.MethodName)) ∈ WL := WL_t (in_tables_1_2 (List.mem_of_getElem? (i := 81) rfl)) rfl
theorem q322 : (Jvm.Cond.selects "IcehighwayModel" ({ cls := "java/lang/Object", name := "getClass", desc := "()Ljava/lang/Class;" } : Jvm.MethodName) ({ cls := "java/lang/Object", name := "getClass", desc := "()Ljava/lang/Class;" } : Jvm.MethodName)) ∈ WL := WL_t (in_tables_1_2 (List.mem_of_getElem? (i := 82) rfl)) rfl
theorem q323 : (Jvm.Cond.selects "java/lang/IllegalArgumentException" ({ cls := "java/lang/Object", name := "getClass", desc := "()Ljava/lang/Class;" } : Jvm.MethodName) ({ cls := "java/lang/Object", name := "getClass", desc := "()Ljava/lang/Class;" } : Jvm.MethodName)) ∈ WL := WL_t (in_tables_1_2 (List.mem_of_getElem? (i := 83) rfl)) rfl
theorem q324 : (Jvm.Cond.selects "java/lang/IllegalStateException" ({ cls := "java/lang/Object", name := "getClass", desc := "()Ljava/lang/Class;" } : Jvm.MethodName) ({ cls := "java/lang/Object", name := "getClass", desc := "()Ljava/lang/Class;" } : Jvm.MethodName)) ∈ WL := WL_t (in_tables_1_2 (List.mem_of_getElem? (i := 84) rfl)) rfl
theorem q325 : (Jvm.Cond.selects "java/lang/IndexOutOfBoundsException" ({ cls := "java/lang/Object", name := "getClass", desc := "()Ljava/lang/Class;" } : Jvm.MethodName) ({ cls := "java/lang/Object", name := "getClass", desc := "()Ljava/lang/Class;" } : Jvm.MethodName)) ∈ WL := WL_t (in_tables_1_2 (List.mem_of_getElem? (i := 85) rfl)) rfl
theorem q326 : (Jvm.Cond.selects "java/util/ArrayList" ({ cls := "java/lang/Object", name := "getClass", desc := "()Ljava/lang/Class;" } : Jvm.MethodName) ({ cls := "java/lang/Object", name := "getClass", desc := "()Ljava/lang/Class;" } : Jvm.MethodName)) ∈ WL := WL_t (in_tables_1_2 (List.mem_of_getElem? (i := 86) rfl)) rfl
theorem q327 : (Jvm.Cond.native ({ cls := "java/lang/Object", name := "getClass", desc := "()Ljava/lang/Class;" } : Jvm.MethodName)) ∈ WL := WL_t (in_tables_1_2 (List.mem_of_getElem? (i := 87) rfl)) rfl
theorem q328 : (Jvm.Cond.methodLink "java/util/Arrays" (300 : Nat) ({ cls := "java/util/Arrays", name := "copyOf", desc := "([Ljava/lang/Object;ILjava/lang/Class;)[Ljava/lang/Object;" } : Jvm.MethodName)) ∈ WL := WL_t (in_tables_1_2 (List.mem_of_getElem? (i := 88) rfl)) rfl
theorem q329 : (Jvm.Cond.static ({ cls := "java/util/Arrays", name := "copyOf", desc := "([Ljava/lang/Object;ILjava/lang/Class;)[Ljava/lang/Object;" } : Jvm.MethodName)) ∈ WL := WL_t (in_tables_1_2 (List.mem_of_getElem? (i := 89) rfl)) rfl
theorem q330 : (Jvm.Cond.code ({ cls := "java/util/Arrays", name := "copyOf", desc := "([Ljava/lang/Object;ILjava/lang/Class;)[Ljava/lang/Object;" } : Jvm.MethodName) prog_22_method_120_code (4 : Nat) (Option.some (Jvm.ClassFile.FieldType.array (Jvm.ClassFile.FieldType.object "java/lang/Object")))) ∈ WL := WL_t (in_tables_1_2 (List.mem_of_getElem? (i := 90) rfl)) rfl
theorem q331 : (Jvm.Cond.classLink "java/util/Arrays" (110 : Nat) "[Ljava/lang/Object;") ∈ WL := WL_t (in_tables_1_2 (List.mem_of_getElem? (i := 91) rfl)) rfl
theorem q333 : (Jvm.Cond.classLink "java/util/Arrays" (2 : Nat) "java/lang/Object") ∈ WL := WL_t (in_tables_1_2 (List.mem_of_getElem? (i := 93) rfl)) rfl
theorem q334 : (Jvm.Cond.methodLink "java/util/Arrays" (304 : Nat) ({ cls := "java/lang/Math", name := "min", desc := "(II)I" } : Jvm.MethodName)) ∈ WL := WL_t (in_tables_1_2 (List.mem_of_getElem? (i := 94) rfl)) rfl
theorem q335 : (Jvm.Cond.static ({ cls := "java/lang/Math", name := "min", desc := "(II)I" } : Jvm.MethodName)) ∈ WL := WL_t (in_tables_1_2 (List.mem_of_getElem? (i := 95) rfl)) rfl
theorem q336 : (Jvm.Cond.code ({ cls := "java/lang/Math", name := "min", desc := "(II)I" } : Jvm.MethodName) prog_14_method_69_code (2 : Nat) (Option.some Jvm.ClassFile.FieldType.int)) ∈ WL := WL_t (in_tables_1_2 (List.mem_of_getElem? (i := 96) rfl)) rfl
theorem q337 : (Jvm.Cond.methodLink "java/util/Arrays" (150 : Nat) ({ cls := "java/lang/System", name := "arraycopy", desc := "(Ljava/lang/Object;ILjava/lang/Object;II)V" } : Jvm.MethodName)) ∈ WL := WL_t (in_tables_1_2 (List.mem_of_getElem? (i := 97) rfl)) rfl
theorem q338 : (Jvm.Cond.static ({ cls := "java/lang/System", name := "arraycopy", desc := "(Ljava/lang/Object;ILjava/lang/Object;II)V" } : Jvm.MethodName)) ∈ WL := WL_t (in_tables_1_2 (List.mem_of_getElem? (i := 98) rfl)) rfl
theorem q339 : (Jvm.Cond.native ({ cls := "java/lang/System", name := "arraycopy", desc := "(Ljava/lang/Object;ILjava/lang/Object;II)V" } : Jvm.MethodName)) ∈ WL := WL_t (in_tables_1_2 (List.mem_of_getElem? (i := 99) rfl)) rfl
theorem q340 : (Jvm.Cond.methodLink "java/util/ArrayList" (79 : Nat) ({ cls := "java/lang/Math", name := "max", desc := "(II)I" } : Jvm.MethodName)) ∈ WL := WL_t (in_tables_1_2 (List.mem_of_getElem? (i := 100) rfl)) rfl
theorem q341 : (Jvm.Cond.classLink "java/util/ArrayList" (7 : Nat) "java/lang/Object") ∈ WL := WL_t (in_tables_1_2 (List.mem_of_getElem? (i := 101) rfl)) rfl
theorem q342 : (Jvm.Cond.methodLink "IcehighwayLaw" (111 : Nat) ({ cls := "IcehighwayLaw", name := "weather", desc := "(LIcehighway;I[J)I" } : Jvm.MethodName)) ∈ WL := WL_t (in_tables_1_2 (List.mem_of_getElem? (i := 102) rfl)) rfl
theorem q343 : (Jvm.Cond.static ({ cls := "IcehighwayLaw", name := "weather", desc := "(LIcehighway;I[J)I" } : Jvm.MethodName)) ∈ WL := WL_t (in_tables_1_2 (List.mem_of_getElem? (i := 103) rfl)) rfl
theorem q344 : (Jvm.Cond.codeWith ({ cls := "IcehighwayLaw", name := "weather", desc := "(LIcehighway;I[J)I" } : Jvm.MethodName) method_4_code (4 : Nat) (Option.some Jvm.ClassFile.FieldType.int) [((0 : Nat), (9 : Nat), (12 : Nat), (13 : Nat))]) ∈ WL := WL_t (in_tables_1_2 (List.mem_of_getElem? (i := 104) rfl)) rfl
theorem q345 : (Jvm.Cond.methodLink "IcehighwayLaw" (17 : Nat) ({ cls := "Icehighway", name := "weather", desc := "(I)I" } : Jvm.MethodName)) ∈ WL := WL_t (in_tables_1_2 (List.mem_of_getElem? (i := 105) rfl)) rfl
theorem q346 : (Jvm.Cond.instanceMethod ({ cls := "Icehighway", name := "weather", desc := "(I)I" } : Jvm.MethodName)) ∈ WL := WL_t (in_tables_1_2 (List.mem_of_getElem? (i := 106) rfl)) rfl
theorem q347 : (Jvm.Cond.selects "Icehighway" ({ cls := "Icehighway", name := "weather", desc := "(I)I" } : Jvm.MethodName) ({ cls := "Icehighway", name := "weather", desc := "(I)I" } : Jvm.MethodName)) ∈ WL := WL_t (in_tables_1_2 (List.mem_of_getElem? (i := 107) rfl)) rfl
theorem q348 : (Jvm.Cond.code ({ cls := "Icehighway", name := "weather", desc := "(I)I" } : Jvm.MethodName) prog_1_method_3_code (3 : Nat) (Option.some Jvm.ClassFile.FieldType.int)) ∈ WL := WL_t (in_tables_1_2 (List.mem_of_getElem? (i := 108) rfl)) rfl
theorem q349 : (Jvm.Cond.methodLink "IcehighwayLaw" (115 : Nat) ({ cls := "IcehighwayLaw", name := "snow", desc := "(LIcehighway;I[J)I" } : Jvm.MethodName)) ∈ WL := WL_t (in_tables_1_2 (List.mem_of_getElem? (i := 109) rfl)) rfl
theorem q350 : (Jvm.Cond.static ({ cls := "IcehighwayLaw", name := "snow", desc := "(LIcehighway;I[J)I" } : Jvm.MethodName)) ∈ WL := WL_t (in_tables_1_2 (List.mem_of_getElem? (i := 110) rfl)) rfl
theorem q351 : (Jvm.Cond.codeWith ({ cls := "IcehighwayLaw", name := "snow", desc := "(LIcehighway;I[J)I" } : Jvm.MethodName) method_5_code (4 : Nat) (Option.some Jvm.ClassFile.FieldType.int) [((0 : Nat), (9 : Nat), (12 : Nat), (13 : Nat))]) ∈ WL := WL_t (in_tables_1_2 (List.mem_of_getElem? (i := 111) rfl)) rfl
theorem q352 : (Jvm.Cond.methodLink "IcehighwayLaw" (21 : Nat) ({ cls := "Icehighway", name := "snow", desc := "(I)I" } : Jvm.MethodName)) ∈ WL := WL_t (in_tables_1_2 (List.mem_of_getElem? (i := 112) rfl)) rfl
theorem q353 : (Jvm.Cond.instanceMethod ({ cls := "Icehighway", name := "snow", desc := "(I)I" } : Jvm.MethodName)) ∈ WL := WL_t (in_tables_1_2 (List.mem_of_getElem? (i := 113) rfl)) rfl
theorem q354 : (Jvm.Cond.selects "Icehighway" ({ cls := "Icehighway", name := "snow", desc := "(I)I" } : Jvm.MethodName) ({ cls := "Icehighway", name := "snow", desc := "(I)I" } : Jvm.MethodName)) ∈ WL := WL_t (in_tables_1_2 (List.mem_of_getElem? (i := 114) rfl)) rfl
theorem q355 : (Jvm.Cond.code ({ cls := "Icehighway", name := "snow", desc := "(I)I" } : Jvm.MethodName) prog_1_method_4_code (3 : Nat) (Option.some Jvm.ClassFile.FieldType.int)) ∈ WL := WL_t (in_tables_1_2 (List.mem_of_getElem? (i := 115) rfl)) rfl
theorem q357 : (Jvm.Cond.methodLink "Icehighway" (71 : Nat) ({ cls := "java/util/List", name := "get", desc := "(I)Ljava/lang/Object;" } : Jvm.MethodName)) ∈ WL := WL_t (in_tables_1_2 (List.mem_of_getElem? (i := 117) rfl)) rfl
theorem q358 : (Jvm.Cond.interfaceMethod "java/util/List" "java/util/List" "get" "(I)Ljava/lang/Object;") ∈ XL := XL_t (in_tables_1_2 (List.mem_of_getElem? (i := 118) rfl)) rfl
theorem q359 : (Jvm.Cond.declares ({ cls := "java/util/List", name := "get", desc := "(I)Ljava/lang/Object;" } : Jvm.MethodName)) ∈ XL := XL_t (in_tables_1_2 (List.mem_of_getElem? (i := 119) rfl)) rfl
theorem q360 : (Jvm.Cond.selects "java/util/ArrayList" ({ cls := "java/util/List", name := "get", desc := "(I)Ljava/lang/Object;" } : Jvm.MethodName) ({ cls := "java/util/ArrayList", name := "get", desc := "(I)Ljava/lang/Object;" } : Jvm.MethodName)) ∈ WL := WL_t (in_tables_1_2 (List.mem_of_getElem? (i := 120) rfl)) rfl
theorem q361 : (Jvm.Cond.unhidden "java/util/ArrayList" "get" "(I)Ljava/lang/Object;") ∈ XL := XL_t (in_tables_1_2 (List.mem_of_getElem? (i := 121) rfl)) rfl
theorem q362 : (Jvm.Cond.instanceMethod ({ cls := "java/util/ArrayList", name := "get", desc := "(I)Ljava/lang/Object;" } : Jvm.MethodName)) ∈ WL := WL_t (in_tables_1_2 (List.mem_of_getElem? (i := 122) rfl)) rfl
theorem q363 : (Jvm.Cond.publicMethod ({ cls := "java/util/ArrayList", name := "get", desc := "(I)Ljava/lang/Object;" } : Jvm.MethodName)) ∈ XL := XL_t (in_tables_1_2 (List.mem_of_getElem? (i := 123) rfl)) rfl
theorem q364 : (Jvm.Cond.code ({ cls := "java/util/ArrayList", name := "get", desc := "(I)Ljava/lang/Object;" } : Jvm.MethodName) prog_21_method_20_code (2 : Nat) (Option.some (Jvm.ClassFile.FieldType.object "java/lang/Object"))) ∈ WL := WL_t (in_tables_1_2 (List.mem_of_getElem? (i := 124) rfl)) rfl
theorem q365 : (Jvm.Cond.methodLink "java/util/ArrayList" (118 : Nat) ({ cls := "java/util/Objects", name := "checkIndex", desc := "(II)I" } : Jvm.MethodName)) ∈ WL := WL_t (in_tables_1_2 (List.mem_of_getElem? (i := 125) rfl)) rfl
theorem q366 : (Jvm.Cond.static ({ cls := "java/util/Objects", name := "checkIndex", desc := "(II)I" } : Jvm.MethodName)) ∈ WL := WL_t (in_tables_1_2 (List.mem_of_getElem? (i := 126) rfl)) rfl
theorem q367 : (Jvm.Cond.code ({ cls := "java/util/Objects", name := "checkIndex", desc := "(II)I" } : Jvm.MethodName) prog_25_method_17_code (2 : Nat) (Option.some Jvm.ClassFile.FieldType.int)) ∈ WL := WL_t (in_tables_1_2 (List.mem_of_getElem? (i := 127) rfl)) rfl
theorem q368 : (Jvm.Cond.methodLink "java/util/Objects" (105 : Nat) ({ cls := "jdk/internal/util/Preconditions", name := "checkIndex", desc := "(IILjava/util/function/BiFunction;)I" } : Jvm.MethodName)) ∈ WL := WL_t (in_tables_1_2 (List.mem_of_getElem? (i := 128) rfl)) rfl
theorem q369 : (Jvm.Cond.static ({ cls := "jdk/internal/util/Preconditions", name := "checkIndex", desc := "(IILjava/util/function/BiFunction;)I" } : Jvm.MethodName)) ∈ WL := WL_t (in_tables_1_2 (List.mem_of_getElem? (i := 129) rfl)) rfl
theorem q370 : (Jvm.Cond.code ({ cls := "jdk/internal/util/Preconditions", name := "checkIndex", desc := "(IILjava/util/function/BiFunction;)I" } : Jvm.MethodName) prog_29_method_11_code (3 : Nat) (Option.some Jvm.ClassFile.FieldType.int)) ∈ WL := WL_t (in_tables_1_2 (List.mem_of_getElem? (i := 130) rfl)) rfl
theorem q371 : (Jvm.Cond.methodLink "java/util/ArrayList" (123 : Nat) ({ cls := "java/util/ArrayList", name := "elementData", desc := "(I)Ljava/lang/Object;" } : Jvm.MethodName)) ∈ WL := WL_t (in_tables_1_2 (List.mem_of_getElem? (i := 131) rfl)) rfl
theorem q372 : (Jvm.Cond.instanceMethod ({ cls := "java/util/ArrayList", name := "elementData", desc := "(I)Ljava/lang/Object;" } : Jvm.MethodName)) ∈ WL := WL_t (in_tables_1_2 (List.mem_of_getElem? (i := 132) rfl)) rfl
theorem q373 : (Jvm.Cond.selects "java/util/ArrayList" ({ cls := "java/util/ArrayList", name := "elementData", desc := "(I)Ljava/lang/Object;" } : Jvm.MethodName) ({ cls := "java/util/ArrayList", name := "elementData", desc := "(I)Ljava/lang/Object;" } : Jvm.MethodName)) ∈ WL := WL_t (in_tables_1_2 (List.mem_of_getElem? (i := 133) rfl)) rfl
theorem q374 : (Jvm.Cond.code ({ cls := "java/util/ArrayList", name := "elementData", desc := "(I)Ljava/lang/Object;" } : Jvm.MethodName) prog_21_method_18_code (2 : Nat) (Option.some (Jvm.ClassFile.FieldType.object "java/lang/Object"))) ∈ WL := WL_t (in_tables_1_2 (List.mem_of_getElem? (i := 134) rfl)) rfl
theorem q375 : (Jvm.Cond.methodLink "IcehighwayLaw" (118 : Nat) ({ cls := "IcehighwayLaw", name := "plough", desc := "(LIcehighway;I[J)I" } : Jvm.MethodName)) ∈ WL := WL_t (in_tables_1_2 (List.mem_of_getElem? (i := 135) rfl)) rfl
theorem q376 : (Jvm.Cond.static ({ cls := "IcehighwayLaw", name := "plough", desc := "(LIcehighway;I[J)I" } : Jvm.MethodName)) ∈ WL := WL_t (in_tables_1_2 (List.mem_of_getElem? (i := 136) rfl)) rfl
theorem q377 : (Jvm.Cond.codeWith ({ cls := "IcehighwayLaw", name := "plough", desc := "(LIcehighway;I[J)I" } : Jvm.MethodName) method_6_code (4 : Nat) (Option.some Jvm.ClassFile.FieldType.int) [((0 : Nat), (9 : Nat), (12 : Nat), (27 : Nat))]) ∈ WL := WL_t (in_tables_1_2 (List.mem_of_getElem? (i := 137) rfl)) rfl
theorem q378 : (Jvm.Cond.classLink "IcehighwayLaw" (27 : Nat) "java/lang/IndexOutOfBoundsException") ∈ WL := WL_t (in_tables_1_2 (List.mem_of_getElem? (i := 138) rfl)) rfl
theorem q379 : (Jvm.Cond.methodLink "IcehighwayLaw" (24 : Nat) ({ cls := "Icehighway", name := "plough", desc := "(I)I" } : Jvm.MethodName)) ∈ WL := WL_t (in_tables_1_2 (List.mem_of_getElem? (i := 139) rfl)) rfl
theorem q380 : (Jvm.Cond.instanceMethod ({ cls := "Icehighway", name := "plough", desc := "(I)I" } : Jvm.MethodName)) ∈ WL := WL_t (in_tables_1_2 (List.mem_of_getElem? (i := 140) rfl)) rfl
theorem q381 : (Jvm.Cond.selects "Icehighway" ({ cls := "Icehighway", name := "plough", desc := "(I)I" } : Jvm.MethodName) ({ cls := "Icehighway", name := "plough", desc := "(I)I" } : Jvm.MethodName)) ∈ WL := WL_t (in_tables_1_2 (List.mem_of_getElem? (i := 141) rfl)) rfl
theorem q382 : (Jvm.Cond.code ({ cls := "Icehighway", name := "plough", desc := "(I)I" } : Jvm.MethodName) prog_1_method_5_code (4 : Nat) (Option.some Jvm.ClassFile.FieldType.int)) ∈ WL := WL_t (in_tables_1_2 (List.mem_of_getElem? (i := 142) rfl)) rfl
theorem q383 : (Jvm.Cond.methodLink "Icehighway" (78 : Nat) ({ cls := "Icehighway", name := "pieceNumbered", desc := "(I)LIcehighway$Piece;" } : Jvm.MethodName)) ∈ WL := WL_t (in_tables_1_2 (List.mem_of_getElem? (i := 143) rfl)) rfl
theorem q384 : (Jvm.Cond.privateMethod ({ cls := "Icehighway", name := "pieceNumbered", desc := "(I)LIcehighway$Piece;" } : Jvm.MethodName)) ∈ XL := XL_t (in_tables_1_2 (List.mem_of_getElem? (i := 144) rfl)) rfl
theorem q385 : (Jvm.Cond.instanceMethod ({ cls := "Icehighway", name := "pieceNumbered", desc := "(I)LIcehighway$Piece;" } : Jvm.MethodName)) ∈ WL := WL_t (in_tables_1_2 (List.mem_of_getElem? (i := 145) rfl)) rfl
theorem q386 : (Jvm.Cond.code ({ cls := "Icehighway", name := "pieceNumbered", desc := "(I)LIcehighway$Piece;" } : Jvm.MethodName) prog_1_method_31_code (2 : Nat) (Option.some (Jvm.ClassFile.FieldType.object "Icehighway$Piece"))) ∈ WL := WL_t (in_tables_1_2 (List.mem_of_getElem? (i := 146) rfl)) rfl
theorem q387 : (Jvm.Cond.classLink "Icehighway" (230 : Nat) "java/lang/IndexOutOfBoundsException") ∈ WL := WL_t (in_tables_1_2 (List.mem_of_getElem? (i := 147) rfl)) rfl
theorem q388 : (Jvm.Cond.instantiable "java/lang/IndexOutOfBoundsException" (6 : Nat)) ∈ WL := WL_t (in_tables_1_2 (List.mem_of_getElem? (i := 148) rfl)) rfl
theorem q389 : (Jvm.Cond.castable "java/lang/IndexOutOfBoundsException" "java/lang/IndexOutOfBoundsException") ∈ XL := XL_t (in_tables_1_2 (List.mem_of_getElem? (i := 149) rfl)) rfl
theorem q390 : (Jvm.Cond.selects "java/lang/IndexOutOfBoundsException" ({ cls := "java/lang/Throwable", name := "fillInStackTrace", desc := "(I)Ljava/lang/Throwable;" } : Jvm.MethodName) ({ cls := "java/lang/Throwable", name := "fillInStackTrace", desc := "(I)Ljava/lang/Throwable;" } : Jvm.MethodName)) ∈ WL := WL_t (in_tables_1_2 (List.mem_of_getElem? (i := 150) rfl)) rfl
theorem q391 : (Jvm.Cond.lays "java/lang/IndexOutOfBoundsException" "java/lang/Throwable" "cause" "Ljava/lang/Throwable;") ∈ WL := WL_t (in_tables_1_2 (List.mem_of_getElem? (i := 151) rfl)) rfl
theorem q392 : (Jvm.Cond.lays "java/lang/IndexOutOfBoundsException" "java/lang/Throwable" "stackTrace" "[Ljava/lang/StackTraceElement;") ∈ WL := WL_t (in_tables_1_2 (List.mem_of_getElem? (i := 152) rfl)) rfl
theorem q393 : (Jvm.Cond.lays "java/lang/IndexOutOfBoundsException" "java/lang/Throwable" "suppressedExceptions" "Ljava/util/List;") ∈ WL := WL_t (in_tables_1_2 (List.mem_of_getElem? (i := 153) rfl)) rfl
theorem q394 : (Jvm.Cond.lays "java/lang/IndexOutOfBoundsException" "java/lang/Throwable" "detailMessage" "Ljava/lang/String;") ∈ WL := WL_t (in_tables_1_2 (List.mem_of_getElem? (i := 154) rfl)) rfl
theorem q395 : (Jvm.Cond.lays "java/lang/IndexOutOfBoundsException" "java/lang/Throwable" "backtrace" "Ljava/lang/Object;") ∈ WL := WL_t (in_tables_1_2 (List.mem_of_getElem? (i := 155) rfl)) rfl
theorem q397 : (Jvm.Cond.methodLink "Icehighway" (234 : Nat) ({ cls := "java/lang/IndexOutOfBoundsException", name := "<init>", desc := "(Ljava/lang/String;)V" } : Jvm.MethodName)) ∈ WL := WL_t (in_tables_1_2 (List.mem_of_getElem? (i := 157) rfl)) rfl
theorem q398 : (Jvm.Cond.instanceMethod ({ cls := "java/lang/IndexOutOfBoundsException", name := "<init>", desc := "(Ljava/lang/String;)V" } : Jvm.MethodName)) ∈ WL := WL_t (in_tables_1_2 (List.mem_of_getElem? (i := 158) rfl)) rfl
theorem q399 : (Jvm.Cond.code ({ cls := "java/lang/IndexOutOfBoundsException", name := "<init>", desc := "(Ljava/lang/String;)V" } : Jvm.MethodName) prog_12_method_2_code (2 : Nat) (Option.none : Option Jvm.ClassFile.FieldType)) ∈ WL := WL_t (in_tables_1_2 (List.mem_of_getElem? (i := 159) rfl)) rfl
theorem q400 : (Jvm.Cond.methodLink "java/lang/IndexOutOfBoundsException" (7 : Nat) ({ cls := "java/lang/RuntimeException", name := "<init>", desc := "(Ljava/lang/String;)V" } : Jvm.MethodName)) ∈ WL := WL_t (in_tables_1_2 (List.mem_of_getElem? (i := 160) rfl)) rfl
theorem q401 : (Jvm.Cond.lays "java/lang/IndexOutOfBoundsException" "java/lang/Throwable" "depth" "I") ∈ WL := WL_t (in_tables_1_2 (List.mem_of_getElem? (i := 161) rfl)) rfl
theorem q403 : (Jvm.Cond.methodLink "IcehighwayLaw" (121 : Nat) ({ cls := "IcehighwayLaw", name := "flood", desc := "(LIcehighway;II[J)I" } : Jvm.MethodName)) ∈ WL := WL_t (in_tables_1_2 (List.mem_of_getElem? (i := 163) rfl)) rfl
theorem q404 : (Jvm.Cond.static ({ cls := "IcehighwayLaw", name := "flood", desc := "(LIcehighway;II[J)I" } : Jvm.MethodName)) ∈ WL := WL_t (in_tables_1_2 (List.mem_of_getElem? (i := 164) rfl)) rfl
theorem q405 : (Jvm.Cond.codeWith ({ cls := "IcehighwayLaw", name := "flood", desc := "(LIcehighway;II[J)I" } : Jvm.MethodName) method_7_code (5 : Nat) (Option.some Jvm.ClassFile.FieldType.int) [((0 : Nat), (10 : Nat), (13 : Nat), (27 : Nat)), ((0 : Nat), (10 : Nat), (17 : Nat), (13 : Nat)), ((0 : Nat), (10 : Nat), (21 : Nat), (15 : Nat))]) ∈ WL := WL_t (in_tables_1_2 (List.mem_of_getElem? (i := 165) rfl)) rfl
theorem q406 : (Jvm.Cond.methodLink "IcehighwayLaw" (29 : Nat) ({ cls := "Icehighway", name := "flood", desc := "(II)I" } : Jvm.MethodName)) ∈ WL := WL_t (in_tables_1_2 (List.mem_of_getElem? (i := 166) rfl)) rfl
theorem q407 : (Jvm.Cond.instanceMethod ({ cls := "Icehighway", name := "flood", desc := "(II)I" } : Jvm.MethodName)) ∈ WL := WL_t (in_tables_1_2 (List.mem_of_getElem? (i := 167) rfl)) rfl
theorem q408 : (Jvm.Cond.selects "Icehighway" ({ cls := "Icehighway", name := "flood", desc := "(II)I" } : Jvm.MethodName) ({ cls := "Icehighway", name := "flood", desc := "(II)I" } : Jvm.MethodName)) ∈ WL := WL_t (in_tables_1_2 (List.mem_of_getElem? (i := 168) rfl)) rfl
theorem q409 : (Jvm.Cond.code ({ cls := "Icehighway", name := "flood", desc := "(II)I" } : Jvm.MethodName) prog_1_method_6_code (4 : Nat) (Option.some Jvm.ClassFile.FieldType.int)) ∈ WL := WL_t (in_tables_1_2 (List.mem_of_getElem? (i := 169) rfl)) rfl
theorem q410 : (Jvm.Cond.methodLink "Icehighway" (82 : Nat) ({ cls := "Icehighway$Piece", name := "isWaterPiece", desc := "()Z" } : Jvm.MethodName)) ∈ WL := WL_t (in_tables_1_2 (List.mem_of_getElem? (i := 170) rfl)) rfl
theorem q411 : (Jvm.Cond.instanceMethod ({ cls := "Icehighway$Piece", name := "isWaterPiece", desc := "()Z" } : Jvm.MethodName)) ∈ WL := WL_t (in_tables_1_2 (List.mem_of_getElem? (i := 171) rfl)) rfl
theorem q412 : (Jvm.Cond.selects "Icehighway$Piece" ({ cls := "Icehighway$Piece", name := "isWaterPiece", desc := "()Z" } : Jvm.MethodName) ({ cls := "Icehighway$Piece", name := "isWaterPiece", desc := "()Z" } : Jvm.MethodName)) ∈ WL := WL_t (in_tables_1_2 (List.mem_of_getElem? (i := 172) rfl)) rfl
theorem q413 : (Jvm.Cond.code ({ cls := "Icehighway$Piece", name := "isWaterPiece", desc := "()Z" } : Jvm.MethodName) prog_3_method_2_code (1 : Nat) (Option.some Jvm.ClassFile.FieldType.boolean)) ∈ WL := WL_t (in_tables_1_2 (List.mem_of_getElem? (i := 173) rfl)) rfl
theorem q414 : (Jvm.Cond.methodLink "Icehighway" (85 : Nat) ({ cls := "Icehighway$Piece", name := "hasIce", desc := "()Z" } : Jvm.MethodName)) ∈ WL := WL_t (in_tables_1_2 (List.mem_of_getElem? (i := 174) rfl)) rfl
theorem q415 : (Jvm.Cond.instanceMethod ({ cls := "Icehighway$Piece", name := "hasIce", desc := "()Z" } : Jvm.MethodName)) ∈ WL := WL_t (in_tables_1_2 (List.mem_of_getElem? (i := 175) rfl)) rfl
theorem q416 : (Jvm.Cond.selects "Icehighway$Piece" ({ cls := "Icehighway$Piece", name := "hasIce", desc := "()Z" } : Jvm.MethodName) ({ cls := "Icehighway$Piece", name := "hasIce", desc := "()Z" } : Jvm.MethodName)) ∈ WL := WL_t (in_tables_1_2 (List.mem_of_getElem? (i := 176) rfl)) rfl
theorem q417 : (Jvm.Cond.code ({ cls := "Icehighway$Piece", name := "hasIce", desc := "()Z" } : Jvm.MethodName) prog_3_method_3_code (1 : Nat) (Option.some Jvm.ClassFile.FieldType.boolean)) ∈ WL := WL_t (in_tables_1_2 (List.mem_of_getElem? (i := 177) rfl)) rfl
theorem q419 : (Jvm.Cond.methodLink "IcehighwayLaw" (125 : Nat) ({ cls := "IcehighwayLaw", name := "drill", desc := "(LIcehighway;I[D)I" } : Jvm.MethodName)) ∈ WL := WL_t (in_tables_1_2 (List.mem_of_getElem? (i := 179) rfl)) rfl
theorem q420 : (Jvm.Cond.static ({ cls := "IcehighwayLaw", name := "drill", desc := "(LIcehighway;I[D)I" } : Jvm.MethodName)) ∈ WL := WL_t (in_tables_1_2 (List.mem_of_getElem? (i := 180) rfl)) rfl
theorem q421 : (Jvm.Cond.codeWith ({ cls := "IcehighwayLaw", name := "drill", desc := "(LIcehighway;I[D)I" } : Jvm.MethodName) method_8_code (4 : Nat) (Option.some Jvm.ClassFile.FieldType.int) [((0 : Nat), (8 : Nat), (11 : Nat), (27 : Nat))]) ∈ WL := WL_t (in_tables_1_2 (List.mem_of_getElem? (i := 181) rfl)) rfl
theorem q422 : (Jvm.Cond.methodLink "IcehighwayLaw" (33 : Nat) ({ cls := "Icehighway", name := "drill", desc := "(I)D" } : Jvm.MethodName)) ∈ WL := WL_t (in_tables_1_2 (List.mem_of_getElem? (i := 182) rfl)) rfl
theorem q423 : (Jvm.Cond.instanceMethod ({ cls := "Icehighway", name := "drill", desc := "(I)D" } : Jvm.MethodName)) ∈ WL := WL_t (in_tables_1_2 (List.mem_of_getElem? (i := 183) rfl)) rfl
theorem q424 : (Jvm.Cond.selects "Icehighway" ({ cls := "Icehighway", name := "drill", desc := "(I)D" } : Jvm.MethodName) ({ cls := "Icehighway", name := "drill", desc := "(I)D" } : Jvm.MethodName)) ∈ WL := WL_t (in_tables_1_2 (List.mem_of_getElem? (i := 184) rfl)) rfl
theorem q425 : (Jvm.Cond.code ({ cls := "Icehighway", name := "drill", desc := "(I)D" } : Jvm.MethodName) prog_1_method_7_code (3 : Nat) (Option.some Jvm.ClassFile.FieldType.double)) ∈ WL := WL_t (in_tables_1_2 (List.mem_of_getElem? (i := 185) rfl)) rfl
theorem q426 : (Jvm.Cond.methodLink "Icehighway" (93 : Nat) ({ cls := "Icehighway$Piece", name := "realThickness", desc := "()D" } : Jvm.MethodName)) ∈ WL := WL_t (in_tables_1_2 (List.mem_of_getElem? (i := 186) rfl)) rfl
theorem q427 : (Jvm.Cond.instanceMethod ({ cls := "Icehighway$Piece", name := "realThickness", desc := "()D" } : Jvm.MethodName)) ∈ WL := WL_t (in_tables_1_2 (List.mem_of_getElem? (i := 187) rfl)) rfl
theorem q428 : (Jvm.Cond.selects "Icehighway$Piece" ({ cls := "Icehighway$Piece", name := "realThickness", desc := "()D" } : Jvm.MethodName) ({ cls := "Icehighway$Piece", name := "realThickness", desc := "()D" } : Jvm.MethodName)) ∈ WL := WL_t (in_tables_1_2 (List.mem_of_getElem? (i := 188) rfl)) rfl
theorem q429 : (Jvm.Cond.code ({ cls := "Icehighway$Piece", name := "realThickness", desc := "()D" } : Jvm.MethodName) prog_3_method_4_code (1 : Nat) (Option.some Jvm.ClassFile.FieldType.double)) ∈ WL := WL_t (in_tables_1_2 (List.mem_of_getElem? (i := 189) rfl)) rfl
theorem q430 : (Jvm.Cond.constantDouble "Icehighway$Piece" (61 : Nat) (4602678819172646912 : UInt64)) ∈ WL := WL_t (in_tables_1_2 (List.mem_of_getElem? (i := 190) rfl)) rfl
theorem q431 : (Jvm.Cond.methodLink "IcehighwayLaw" (129 : Nat) ({ cls := "IcehighwayLaw", name := "open", desc := "(LIcehighway;II[J)I" } : Jvm.MethodName)) ∈ WL := WL_t (in_tables_1_2 (List.mem_of_getElem? (i := 191) rfl)) rfl
theorem q432 : (Jvm.Cond.static ({ cls := "IcehighwayLaw", name := "open", desc := "(LIcehighway;II[J)I" } : Jvm.MethodName)) ∈ WL := WL_t (in_tables_1_2 (List.mem_of_getElem? (i := 192) rfl)) rfl
theorem q433 : (Jvm.Cond.codeWith ({ cls := "IcehighwayLaw", name := "open", desc := "(LIcehighway;II[J)I" } : Jvm.MethodName) method_9_code (5 : Nat) (Option.some Jvm.ClassFile.FieldType.int) [((0 : Nat), (10 : Nat), (13 : Nat), (27 : Nat)), ((0 : Nat), (10 : Nat), (17 : Nat), (13 : Nat))]) ∈ WL := WL_t (in_tables_1_2 (List.mem_of_getElem? (i := 193) rfl)) rfl
theorem q434 : (Jvm.Cond.methodLink "IcehighwayLaw" (37 : Nat) ({ cls := "Icehighway", name := "open", desc := "(II)I" } : Jvm.MethodName)) ∈ WL := WL_t (in_tables_1_2 (List.mem_of_getElem? (i := 194) rfl)) rfl
theorem q435 : (Jvm.Cond.instanceMethod ({ cls := "Icehighway", name := "open", desc := "(II)I" } : Jvm.MethodName)) ∈ WL := WL_t (in_tables_1_2 (List.mem_of_getElem? (i := 195) rfl)) rfl
theorem q436 : (Jvm.Cond.selects "Icehighway" ({ cls := "Icehighway", name := "open", desc := "(II)I" } : Jvm.MethodName) ({ cls := "Icehighway", name := "open", desc := "(II)I" } : Jvm.MethodName)) ∈ WL := WL_t (in_tables_1_2 (List.mem_of_getElem? (i := 196) rfl)) rfl
theorem q437 : (Jvm.Cond.code ({ cls := "Icehighway", name := "open", desc := "(II)I" } : Jvm.MethodName) prog_1_method_8_code (5 : Nat) (Option.some Jvm.ClassFile.FieldType.int)) ∈ WL := WL_t (in_tables_1_2 (List.mem_of_getElem? (i := 197) rfl)) rfl
theorem q438 : (Jvm.Cond.methodLink "IcehighwayLaw" (132 : Nat) ({ cls := "IcehighwayLaw", name := "limit", desc := "(LIcehighway;II[J)I" } : Jvm.MethodName)) ∈ WL := WL_t (in_tables_1_2 (List.mem_of_getElem? (i := 198) rfl)) rfl
theorem q439 : (Jvm.Cond.static ({ cls := "IcehighwayLaw", name := "limit", desc := "(LIcehighway;II[J)I" } : Jvm.MethodName)) ∈ WL := WL_t (in_tables_1_2 (List.mem_of_getElem? (i := 199) rfl)) rfl
theorem q440 : (Jvm.Cond.codeWith ({ cls := "IcehighwayLaw", name := "limit", desc := "(LIcehighway;II[J)I" } : Jvm.MethodName) method_10_code (5 : Nat) (Option.some Jvm.ClassFile.FieldType.int) [((0 : Nat), (10 : Nat), (13 : Nat), (27 : Nat)), ((0 : Nat), (10 : Nat), (17 : Nat), (13 : Nat))]) ∈ WL := WL_t (in_tables_1_2 (List.mem_of_getElem? (i := 200) rfl)) rfl
theorem q441 : (Jvm.Cond.methodLink "IcehighwayLaw" (40 : Nat) ({ cls := "Icehighway", name := "limit", desc := "(II)I" } : Jvm.MethodName)) ∈ WL := WL_t (in_tables_1_2 (List.mem_of_getElem? (i := 201) rfl)) rfl
theorem q442 : (Jvm.Cond.instanceMethod ({ cls := "Icehighway", name := "limit", desc := "(II)I" } : Jvm.MethodName)) ∈ WL := WL_t (in_tables_1_2 (List.mem_of_getElem? (i := 202) rfl)) rfl
theorem q443 : (Jvm.Cond.selects "Icehighway" ({ cls := "Icehighway", name := "limit", desc := "(II)I" } : Jvm.MethodName) ({ cls := "Icehighway", name := "limit", desc := "(II)I" } : Jvm.MethodName)) ∈ WL := WL_t (in_tables_1_2 (List.mem_of_getElem? (i := 203) rfl)) rfl
theorem q444 : (Jvm.Cond.code ({ cls := "Icehighway", name := "limit", desc := "(II)I" } : Jvm.MethodName) prog_1_method_9_code (5 : Nat) (Option.some Jvm.ClassFile.FieldType.int)) ∈ WL := WL_t (in_tables_1_2 (List.mem_of_getElem? (i := 204) rfl)) rfl
theorem q445 : (Jvm.Cond.methodLink "IcehighwayLaw" (135 : Nat) ({ cls := "IcehighwayLaw", name := "gap", desc := "(LIcehighway;I[J)I" } : Jvm.MethodName)) ∈ WL := WL_t (in_tables_1_2 (List.mem_of_getElem? (i := 205) rfl)) rfl
theorem q446 : (Jvm.Cond.static ({ cls := "IcehighwayLaw", name := "gap", desc := "(LIcehighway;I[J)I" } : Jvm.MethodName)) ∈ WL := WL_t (in_tables_1_2 (List.mem_of_getElem? (i := 206) rfl)) rfl
theorem q447 : (Jvm.Cond.codeWith ({ cls := "IcehighwayLaw", name := "gap", desc := "(LIcehighway;I[J)I" } : Jvm.MethodName) method_11_code (4 : Nat) (Option.some Jvm.ClassFile.FieldType.int) [((0 : Nat), (9 : Nat), (12 : Nat), (13 : Nat))]) ∈ WL := WL_t (in_tables_1_2 (List.mem_of_getElem? (i := 207) rfl)) rfl
theorem q448 : (Jvm.Cond.methodLink "IcehighwayLaw" (43 : Nat) ({ cls := "Icehighway", name := "gap", desc := "(I)I" } : Jvm.MethodName)) ∈ WL := WL_t (in_tables_1_2 (List.mem_of_getElem? (i := 208) rfl)) rfl
theorem q449 : (Jvm.Cond.instanceMethod ({ cls := "Icehighway", name := "gap", desc := "(I)I" } : Jvm.MethodName)) ∈ WL := WL_t (in_tables_1_2 (List.mem_of_getElem? (i := 209) rfl)) rfl
theorem q450 : (Jvm.Cond.selects "Icehighway" ({ cls := "Icehighway", name := "gap", desc := "(I)I" } : Jvm.MethodName) ({ cls := "Icehighway", name := "gap", desc := "(I)I" } : Jvm.MethodName)) ∈ WL := WL_t (in_tables_1_2 (List.mem_of_getElem? (i := 210) rfl)) rfl
theorem q451 : (Jvm.Cond.code ({ cls := "Icehighway", name := "gap", desc := "(I)I" } : Jvm.MethodName) prog_1_method_10_code (3 : Nat) (Option.some Jvm.ClassFile.FieldType.int)) ∈ WL := WL_t (in_tables_1_2 (List.mem_of_getElem? (i := 211) rfl)) rfl
theorem q452 : (Jvm.Cond.methodLink "IcehighwayLaw" (138 : Nat) ({ cls := "IcehighwayLaw", name := "vehicle", desc := "(LIcehighway;III[J)I" } : Jvm.MethodName)) ∈ WL := WL_t (in_tables_1_2 (List.mem_of_getElem? (i := 212) rfl)) rfl
theorem q453 : (Jvm.Cond.static ({ cls := "IcehighwayLaw", name := "vehicle", desc := "(LIcehighway;III[J)I" } : Jvm.MethodName)) ∈ WL := WL_t (in_tables_1_2 (List.mem_of_getElem? (i := 213) rfl)) rfl
theorem q454 : (Jvm.Cond.codeWith ({ cls := "IcehighwayLaw", name := "vehicle", desc := "(LIcehighway;III[J)I" } : Jvm.MethodName) method_12_code (6 : Nat) (Option.some Jvm.ClassFile.FieldType.int) [((0 : Nat), (12 : Nat), (15 : Nat), (13 : Nat)), ((0 : Nat), (12 : Nat), (19 : Nat), (15 : Nat))]) ∈ WL := WL_t (in_tables_1_2 (List.mem_of_getElem? (i := 214) rfl)) rfl
theorem q455 : (Jvm.Cond.methodLink "IcehighwayLaw" (46 : Nat) ({ cls := "Icehighway", name := "vehicle", desc := "(III)I" } : Jvm.MethodName)) ∈ WL := WL_t (in_tables_1_2 (List.mem_of_getElem? (i := 215) rfl)) rfl
theorem q456 : (Jvm.Cond.instanceMethod ({ cls := "Icehighway", name := "vehicle", desc := "(III)I" } : Jvm.MethodName)) ∈ WL := WL_t (in_tables_1_2 (List.mem_of_getElem? (i := 216) rfl)) rfl
theorem q457 : (Jvm.Cond.selects "Icehighway" ({ cls := "Icehighway", name := "vehicle", desc := "(III)I" } : Jvm.MethodName) ({ cls := "Icehighway", name := "vehicle", desc := "(III)I" } : Jvm.MethodName)) ∈ WL := WL_t (in_tables_1_2 (List.mem_of_getElem? (i := 217) rfl)) rfl
theorem q458 : (Jvm.Cond.code ({ cls := "Icehighway", name := "vehicle", desc := "(III)I" } : Jvm.MethodName) prog_1_method_11_code (4 : Nat) (Option.some Jvm.ClassFile.FieldType.int)) ∈ WL := WL_t (in_tables_1_2 (List.mem_of_getElem? (i := 218) rfl)) rfl
theorem q459 : (Jvm.Cond.constant "Icehighway" (107 : Nat) (40000 : Int32)) ∈ WL := WL_t (in_tables_1_2 (List.mem_of_getElem? (i := 219) rfl)) rfl
theorem q460 : (Jvm.Cond.constant "Icehighway" (108 : Nat) (60000 : Int32)) ∈ WL := WL_t (in_tables_1_2 (List.mem_of_getElem? (i := 220) rfl)) rfl
theorem q462 : (Jvm.Cond.classLink "Icehighway" (111 : Nat) "Icehighway$Vehicle") ∈ WL := WL_t (in_tables_1_2 (List.mem_of_getElem? (i := 222) rfl)) rfl
theorem q463 : (Jvm.Cond.instantiable "Icehighway$Vehicle" (8 : Nat)) ∈ WL := WL_t (in_tables_1_2 (List.mem_of_getElem? (i := 223) rfl)) rfl
theorem q464 : (Jvm.Cond.methodLink "Icehighway" (113 : Nat) ({ cls := "Icehighway$Vehicle", name := "<init>", desc := "(III)V" } : Jvm.MethodName)) ∈ WL := WL_t (in_tables_1_2 (List.mem_of_getElem? (i := 224) rfl)) rfl
theorem q465 : (Jvm.Cond.instanceMethod ({ cls := "Icehighway$Vehicle", name := "<init>", desc := "(III)V" } : Jvm.MethodName)) ∈ WL := WL_t (in_tables_1_2 (List.mem_of_getElem? (i := 225) rfl)) rfl
theorem q466 : (Jvm.Cond.code ({ cls := "Icehighway$Vehicle", name := "<init>", desc := "(III)V" } : Jvm.MethodName) prog_4_method_1_code (4 : Nat) (Option.none : Option Jvm.ClassFile.FieldType)) ∈ WL := WL_t (in_tables_1_2 (List.mem_of_getElem? (i := 226) rfl)) rfl
theorem q467 : (Jvm.Cond.methodLink "Icehighway$Vehicle" (3 : Nat) ({ cls := "java/lang/Object", name := "<init>", desc := "()V" } : Jvm.MethodName)) ∈ WL := WL_t (in_tables_1_2 (List.mem_of_getElem? (i := 227) rfl)) rfl
theorem q468 : (Jvm.Cond.fieldLink "Icehighway$Vehicle" (29 : Nat) "Icehighway$Vehicle" "empty" "I") ∈ WL := WL_t (in_tables_1_2 (List.mem_of_getElem? (i := 228) rfl)) rfl
theorem q469 : (Jvm.Cond.fieldLink "Icehighway$Vehicle" (32 : Nat) "Icehighway$Vehicle" "carries" "I") ∈ WL := WL_t (in_tables_1_2 (List.mem_of_getElem? (i := 229) rfl)) rfl
theorem q470 : (Jvm.Cond.fieldLink "Icehighway" (122 : Nat) "Icehighway$Vehicle" "carries" "I") ∈ WL := WL_t (in_tables_1_2 (List.mem_of_getElem? (i := 230) rfl)) rfl
theorem q471 : (Jvm.Cond.fieldLink "Icehighway$Vehicle" (35 : Nat) "Icehighway$Vehicle" "ownSpeed" "I") ∈ WL := WL_t (in_tables_1_2 (List.mem_of_getElem? (i := 231) rfl)) rfl
theorem q472 : (Jvm.Cond.fieldLink "Icehighway$Piece" (89 : Nat) "Icehighway$Vehicle" "ownSpeed" "I") ∈ WL := WL_t (in_tables_1_2 (List.mem_of_getElem? (i := 232) rfl)) rfl
theorem q473 : (Jvm.Cond.fieldLink "Icehighway$Vehicle" (9 : Nat) "Icehighway$Vehicle" "where" "I") ∈ WL := WL_t (in_tables_1_2 (List.mem_of_getElem? (i := 233) rfl)) rfl
theorem q474 : (Jvm.Cond.fieldLink "Icehighway" (125 : Nat) "Icehighway$Vehicle" "where" "I") ∈ WL := WL_t (in_tables_1_2 (List.mem_of_getElem? (i := 234) rfl)) rfl
theorem q475 : (Jvm.Cond.fieldLink "Icehighway$Vehicle" (15 : Nat) "Icehighway$Vehicle" "between" "I") ∈ WL := WL_t (in_tables_1_2 (List.mem_of_getElem? (i := 235) rfl)) rfl
theorem q476 : (Jvm.Cond.fieldLink "Icehighway" (193 : Nat) "Icehighway$Vehicle" "between" "I") ∈ WL := WL_t (in_tables_1_2 (List.mem_of_getElem? (i := 236) rfl)) rfl
theorem q477 : (Jvm.Cond.fieldLink "Icehighway$Vehicle" (18 : Nat) "Icehighway$Vehicle" "isToMine" "Z") ∈ WL := WL_t (in_tables_1_2 (List.mem_of_getElem? (i := 237) rfl)) rfl
theorem q478 : (Jvm.Cond.fieldLink "Icehighway" (144 : Nat) "Icehighway$Vehicle" "isToMine" "Z") ∈ WL := WL_t (in_tables_1_2 (List.mem_of_getElem? (i := 238) rfl)) rfl
theorem q479 : (Jvm.Cond.fieldLink "Icehighway$Piece" (106 : Nat) "Icehighway$Vehicle" "isToMine" "Z") ∈ WL := WL_t (in_tables_1_2 (List.mem_of_getElem? (i := 239) rfl)) rfl
theorem q480 : (Jvm.Cond.fieldLink "Icehighway$Vehicle" (22 : Nat) "Icehighway$Vehicle" "overAt" "I") ∈ WL := WL_t (in_tables_1_3 (List.mem_of_getElem? (i := 0) rfl)) rfl
theorem q481 : (Jvm.Cond.fieldLink "Icehighway" (196 : Nat) "Icehighway$Vehicle" "overAt" "I") ∈ WL := WL_t (in_tables_1_3 (List.mem_of_getElem? (i := 1) rfl)) rfl
theorem q482 : (Jvm.Cond.fieldLink "Icehighway$Vehicle" (25 : Nat) "Icehighway$Vehicle" "cargo" "LIcehighway$Load;") ∈ WL := WL_t (in_tables_1_3 (List.mem_of_getElem? (i := 2) rfl)) rfl
theorem q483 : (Jvm.Cond.fieldLink "Icehighway" (128 : Nat) "Icehighway$Vehicle" "cargo" "LIcehighway$Load;") ∈ WL := WL_t (in_tables_1_3 (List.mem_of_getElem? (i := 3) rfl)) rfl
theorem q484 : (Jvm.Cond.laysFinal "Icehighway$Vehicle" "Icehighway$Vehicle" "empty" "I") ∈ WL := WL_t (in_tables_1_3 (List.mem_of_getElem? (i := 4) rfl)) rfl
theorem q486 : (Jvm.Cond.laysFinal "Icehighway$Vehicle" "Icehighway$Vehicle" "carries" "I") ∈ WL := WL_t (in_tables_1_3 (List.mem_of_getElem? (i := 6) rfl)) rfl
theorem q488 : (Jvm.Cond.laysFinal "Icehighway$Vehicle" "Icehighway$Vehicle" "ownSpeed" "I") ∈ WL := WL_t (in_tables_1_3 (List.mem_of_getElem? (i := 8) rfl)) rfl
theorem q490 : (Jvm.Cond.lays "Icehighway$Vehicle" "Icehighway$Vehicle" "where" "I") ∈ WL := WL_t (in_tables_1_3 (List.mem_of_getElem? (i := 10) rfl)) rfl
theorem q492 : (Jvm.Cond.lays "Icehighway$Vehicle" "Icehighway$Vehicle" "between" "I") ∈ WL := WL_t (in_tables_1_3 (List.mem_of_getElem? (i := 12) rfl)) rfl
theorem q494 : (Jvm.Cond.lays "Icehighway$Vehicle" "Icehighway$Vehicle" "isToMine" "Z") ∈ WL := WL_t (in_tables_1_3 (List.mem_of_getElem? (i := 14) rfl)) rfl
theorem q496 : (Jvm.Cond.lays "Icehighway$Vehicle" "Icehighway$Vehicle" "overAt" "I") ∈ WL := WL_t (in_tables_1_3 (List.mem_of_getElem? (i := 16) rfl)) rfl
theorem q498 : (Jvm.Cond.lays "Icehighway$Vehicle" "Icehighway$Vehicle" "cargo" "LIcehighway$Load;") ∈ WL := WL_t (in_tables_1_3 (List.mem_of_getElem? (i := 18) rfl)) rfl
theorem q501 : (Jvm.Cond.methodLink "IcehighwayLaw" (141 : Nat) ({ cls := "IcehighwayLaw", name := "load", desc := "(LIcehighway;III[J)I" } : Jvm.MethodName)) ∈ WL := WL_t (in_tables_1_3 (List.mem_of_getElem? (i := 21) rfl)) rfl
theorem q502 : (Jvm.Cond.static ({ cls := "IcehighwayLaw", name := "load", desc := "(LIcehighway;III[J)I" } : Jvm.MethodName)) ∈ WL := WL_t (in_tables_1_3 (List.mem_of_getElem? (i := 22) rfl)) rfl
theorem q503 : (Jvm.Cond.codeWith ({ cls := "IcehighwayLaw", name := "load", desc := "(LIcehighway;III[J)I" } : Jvm.MethodName) method_13_code (6 : Nat) (Option.some Jvm.ClassFile.FieldType.int) [((0 : Nat), (12 : Nat), (15 : Nat), (27 : Nat)), ((0 : Nat), (12 : Nat), (19 : Nat), (13 : Nat)), ((0 : Nat), (12 : Nat), (23 : Nat), (15 : Nat))]) ∈ WL := WL_t (in_tables_1_3 (List.mem_of_getElem? (i := 23) rfl)) rfl
theorem q504 : (Jvm.Cond.methodLink "IcehighwayLaw" (49 : Nat) ({ cls := "Icehighway", name := "load", desc := "(III)I" } : Jvm.MethodName)) ∈ WL := WL_t (in_tables_1_3 (List.mem_of_getElem? (i := 24) rfl)) rfl
theorem q505 : (Jvm.Cond.instanceMethod ({ cls := "Icehighway", name := "load", desc := "(III)I" } : Jvm.MethodName)) ∈ WL := WL_t (in_tables_1_3 (List.mem_of_getElem? (i := 25) rfl)) rfl
theorem q506 : (Jvm.Cond.selects "Icehighway" ({ cls := "Icehighway", name := "load", desc := "(III)I" } : Jvm.MethodName) ({ cls := "Icehighway", name := "load", desc := "(III)I" } : Jvm.MethodName)) ∈ WL := WL_t (in_tables_1_3 (List.mem_of_getElem? (i := 26) rfl)) rfl
theorem q507 : (Jvm.Cond.code ({ cls := "Icehighway", name := "load", desc := "(III)I" } : Jvm.MethodName) prog_1_method_12_code (6 : Nat) (Option.some Jvm.ClassFile.FieldType.int)) ∈ WL := WL_t (in_tables_1_3 (List.mem_of_getElem? (i := 27) rfl)) rfl
theorem q508 : (Jvm.Cond.methodLink "Icehighway" (114 : Nat) ({ cls := "Icehighway", name := "vehicleNumbered", desc := "(I)LIcehighway$Vehicle;" } : Jvm.MethodName)) ∈ WL := WL_t (in_tables_1_3 (List.mem_of_getElem? (i := 28) rfl)) rfl
theorem q509 : (Jvm.Cond.privateMethod ({ cls := "Icehighway", name := "vehicleNumbered", desc := "(I)LIcehighway$Vehicle;" } : Jvm.MethodName)) ∈ XL := XL_t (in_tables_1_3 (List.mem_of_getElem? (i := 29) rfl)) rfl
theorem q510 : (Jvm.Cond.instanceMethod ({ cls := "Icehighway", name := "vehicleNumbered", desc := "(I)LIcehighway$Vehicle;" } : Jvm.MethodName)) ∈ WL := WL_t (in_tables_1_3 (List.mem_of_getElem? (i := 30) rfl)) rfl
theorem q511 : (Jvm.Cond.code ({ cls := "Icehighway", name := "vehicleNumbered", desc := "(I)LIcehighway$Vehicle;" } : Jvm.MethodName) prog_1_method_32_code (2 : Nat) (Option.some (Jvm.ClassFile.FieldType.object "Icehighway$Vehicle"))) ∈ WL := WL_t (in_tables_1_3 (List.mem_of_getElem? (i := 31) rfl)) rfl
theorem q513 : (Jvm.Cond.methodLink "Icehighway" (118 : Nat) ({ cls := "Icehighway", name := "needGoods", desc := "(I)V" } : Jvm.MethodName)) ∈ WL := WL_t (in_tables_1_3 (List.mem_of_getElem? (i := 33) rfl)) rfl
theorem q514 : (Jvm.Cond.static ({ cls := "Icehighway", name := "needGoods", desc := "(I)V" } : Jvm.MethodName)) ∈ WL := WL_t (in_tables_1_3 (List.mem_of_getElem? (i := 34) rfl)) rfl
theorem q515 : (Jvm.Cond.code ({ cls := "Icehighway", name := "needGoods", desc := "(I)V" } : Jvm.MethodName) prog_1_method_30_code (1 : Nat) (Option.none : Option Jvm.ClassFile.FieldType)) ∈ WL := WL_t (in_tables_1_3 (List.mem_of_getElem? (i := 35) rfl)) rfl
theorem q518 : (Jvm.Cond.classLink "Icehighway" (134 : Nat) "Icehighway$Load") ∈ WL := WL_t (in_tables_1_3 (List.mem_of_getElem? (i := 38) rfl)) rfl
theorem q519 : (Jvm.Cond.instantiable "Icehighway$Load" (3 : Nat)) ∈ WL := WL_t (in_tables_1_3 (List.mem_of_getElem? (i := 39) rfl)) rfl
theorem q520 : (Jvm.Cond.methodLink "Icehighway" (136 : Nat) ({ cls := "Icehighway$Load", name := "<init>", desc := "(II)V" } : Jvm.MethodName)) ∈ WL := WL_t (in_tables_1_3 (List.mem_of_getElem? (i := 40) rfl)) rfl
theorem q521 : (Jvm.Cond.instanceMethod ({ cls := "Icehighway$Load", name := "<init>", desc := "(II)V" } : Jvm.MethodName)) ∈ WL := WL_t (in_tables_1_3 (List.mem_of_getElem? (i := 41) rfl)) rfl
theorem q522 : (Jvm.Cond.code ({ cls := "Icehighway$Load", name := "<init>", desc := "(II)V" } : Jvm.MethodName) prog_2_method_1_code (3 : Nat) (Option.none : Option Jvm.ClassFile.FieldType)) ∈ WL := WL_t (in_tables_1_3 (List.mem_of_getElem? (i := 42) rfl)) rfl
theorem q523 : (Jvm.Cond.methodLink "Icehighway$Load" (1 : Nat) ({ cls := "java/lang/Object", name := "<init>", desc := "()V" } : Jvm.MethodName)) ∈ WL := WL_t (in_tables_1_3 (List.mem_of_getElem? (i := 43) rfl)) rfl
theorem q524 : (Jvm.Cond.fieldLink "Icehighway$Load" (13 : Nat) "Icehighway$Load" "goods" "I") ∈ WL := WL_t (in_tables_1_3 (List.mem_of_getElem? (i := 44) rfl)) rfl
theorem q525 : (Jvm.Cond.fieldLink "Icehighway" (190 : Nat) "Icehighway$Load" "goods" "I") ∈ WL := WL_t (in_tables_1_3 (List.mem_of_getElem? (i := 45) rfl)) rfl
theorem q526 : (Jvm.Cond.fieldLink "Icehighway$Load" (17 : Nat) "Icehighway$Load" "kilos" "I") ∈ WL := WL_t (in_tables_1_3 (List.mem_of_getElem? (i := 46) rfl)) rfl
theorem q527 : (Jvm.Cond.fieldLink "Icehighway$Vehicle" (38 : Nat) "Icehighway$Load" "kilos" "I") ∈ WL := WL_t (in_tables_1_3 (List.mem_of_getElem? (i := 47) rfl)) rfl
theorem q528 : (Jvm.Cond.fieldLink "Icehighway" (187 : Nat) "Icehighway$Load" "kilos" "I") ∈ WL := WL_t (in_tables_1_3 (List.mem_of_getElem? (i := 48) rfl)) rfl
theorem q529 : (Jvm.Cond.fieldLink "Icehighway$Load" (7 : Nat) "Icehighway$Load" "isBack" "Z") ∈ WL := WL_t (in_tables_1_3 (List.mem_of_getElem? (i := 49) rfl)) rfl
theorem q530 : (Jvm.Cond.fieldLink "Icehighway" (220 : Nat) "Icehighway$Load" "isBack" "Z") ∈ WL := WL_t (in_tables_1_3 (List.mem_of_getElem? (i := 50) rfl)) rfl
theorem q531 : (Jvm.Cond.laysFinal "Icehighway$Load" "Icehighway$Load" "goods" "I") ∈ WL := WL_t (in_tables_1_3 (List.mem_of_getElem? (i := 51) rfl)) rfl
theorem q533 : (Jvm.Cond.laysFinal "Icehighway$Load" "Icehighway$Load" "kilos" "I") ∈ WL := WL_t (in_tables_1_3 (List.mem_of_getElem? (i := 53) rfl)) rfl
theorem q535 : (Jvm.Cond.lays "Icehighway$Load" "Icehighway$Load" "isBack" "Z") ∈ WL := WL_t (in_tables_1_3 (List.mem_of_getElem? (i := 55) rfl)) rfl
theorem q538 : (Jvm.Cond.methodLink "Icehighway" (139 : Nat) ({ cls := "Icehighway$Vehicle", name := "weight", desc := "()I" } : Jvm.MethodName)) ∈ WL := WL_t (in_tables_1_3 (List.mem_of_getElem? (i := 58) rfl)) rfl
theorem q539 : (Jvm.Cond.instanceMethod ({ cls := "Icehighway$Vehicle", name := "weight", desc := "()I" } : Jvm.MethodName)) ∈ WL := WL_t (in_tables_1_3 (List.mem_of_getElem? (i := 59) rfl)) rfl
theorem q540 : (Jvm.Cond.selects "Icehighway$Vehicle" ({ cls := "Icehighway$Vehicle", name := "weight", desc := "()I" } : Jvm.MethodName) ({ cls := "Icehighway$Vehicle", name := "weight", desc := "()I" } : Jvm.MethodName)) ∈ WL := WL_t (in_tables_1_3 (List.mem_of_getElem? (i := 60) rfl)) rfl
theorem q541 : (Jvm.Cond.code ({ cls := "Icehighway$Vehicle", name := "weight", desc := "()I" } : Jvm.MethodName) prog_4_method_2_code (1 : Nat) (Option.some Jvm.ClassFile.FieldType.int)) ∈ WL := WL_t (in_tables_1_3 (List.mem_of_getElem? (i := 61) rfl)) rfl
theorem q542 : (Jvm.Cond.methodLink "IcehighwayLaw" (144 : Nat) ({ cls := "IcehighwayLaw", name := "go", desc := "(LIcehighway;I[J)I" } : Jvm.MethodName)) ∈ WL := WL_t (in_tables_1_3 (List.mem_of_getElem? (i := 62) rfl)) rfl
theorem q543 : (Jvm.Cond.static ({ cls := "IcehighwayLaw", name := "go", desc := "(LIcehighway;I[J)I" } : Jvm.MethodName)) ∈ WL := WL_t (in_tables_1_3 (List.mem_of_getElem? (i := 63) rfl)) rfl
theorem q544 : (Jvm.Cond.codeWith ({ cls := "IcehighwayLaw", name := "go", desc := "(LIcehighway;I[J)I" } : Jvm.MethodName) method_14_code (4 : Nat) (Option.some Jvm.ClassFile.FieldType.int) [((0 : Nat), (16 : Nat), (19 : Nat), (27 : Nat)), ((0 : Nat), (16 : Nat), (22 : Nat), (15 : Nat))]) ∈ WL := WL_t (in_tables_1_3 (List.mem_of_getElem? (i := 64) rfl)) rfl
theorem q545 : (Jvm.Cond.methodLink "IcehighwayLaw" (52 : Nat) ({ cls := "Icehighway", name := "go", desc := "(I)Z" } : Jvm.MethodName)) ∈ WL := WL_t (in_tables_1_3 (List.mem_of_getElem? (i := 65) rfl)) rfl
theorem q546 : (Jvm.Cond.instanceMethod ({ cls := "Icehighway", name := "go", desc := "(I)Z" } : Jvm.MethodName)) ∈ WL := WL_t (in_tables_1_3 (List.mem_of_getElem? (i := 66) rfl)) rfl
theorem q547 : (Jvm.Cond.selects "Icehighway" ({ cls := "Icehighway", name := "go", desc := "(I)Z" } : Jvm.MethodName) ({ cls := "Icehighway", name := "go", desc := "(I)Z" } : Jvm.MethodName)) ∈ WL := WL_t (in_tables_1_3 (List.mem_of_getElem? (i := 67) rfl)) rfl
theorem q548 : (Jvm.Cond.code ({ cls := "Icehighway", name := "go", desc := "(I)Z" } : Jvm.MethodName) prog_1_method_13_code (3 : Nat) (Option.some Jvm.ClassFile.FieldType.boolean)) ∈ WL := WL_t (in_tables_1_3 (List.mem_of_getElem? (i := 68) rfl)) rfl
theorem q550 : (Jvm.Cond.methodLink "IcehighwayLaw" (147 : Nat) ({ cls := "IcehighwayLaw", name := "turn", desc := "(LIcehighway;I[J)I" } : Jvm.MethodName)) ∈ WL := WL_t (in_tables_1_3 (List.mem_of_getElem? (i := 70) rfl)) rfl
theorem q551 : (Jvm.Cond.static ({ cls := "IcehighwayLaw", name := "turn", desc := "(LIcehighway;I[J)I" } : Jvm.MethodName)) ∈ WL := WL_t (in_tables_1_3 (List.mem_of_getElem? (i := 71) rfl)) rfl
theorem q552 : (Jvm.Cond.codeWith ({ cls := "IcehighwayLaw", name := "turn", desc := "(LIcehighway;I[J)I" } : Jvm.MethodName) method_15_code (4 : Nat) (Option.some Jvm.ClassFile.FieldType.int) [((0 : Nat), (16 : Nat), (19 : Nat), (27 : Nat)), ((0 : Nat), (16 : Nat), (22 : Nat), (15 : Nat))]) ∈ WL := WL_t (in_tables_1_3 (List.mem_of_getElem? (i := 72) rfl)) rfl
theorem q553 : (Jvm.Cond.methodLink "IcehighwayLaw" (56 : Nat) ({ cls := "Icehighway", name := "turn", desc := "(I)Z" } : Jvm.MethodName)) ∈ WL := WL_t (in_tables_1_3 (List.mem_of_getElem? (i := 73) rfl)) rfl
theorem q554 : (Jvm.Cond.instanceMethod ({ cls := "Icehighway", name := "turn", desc := "(I)Z" } : Jvm.MethodName)) ∈ WL := WL_t (in_tables_1_3 (List.mem_of_getElem? (i := 74) rfl)) rfl
theorem q555 : (Jvm.Cond.selects "Icehighway" ({ cls := "Icehighway", name := "turn", desc := "(I)Z" } : Jvm.MethodName) ({ cls := "Icehighway", name := "turn", desc := "(I)Z" } : Jvm.MethodName)) ∈ WL := WL_t (in_tables_1_3 (List.mem_of_getElem? (i := 75) rfl)) rfl
theorem q556 : (Jvm.Cond.code ({ cls := "Icehighway", name := "turn", desc := "(I)Z" } : Jvm.MethodName) prog_1_method_14_code (3 : Nat) (Option.some Jvm.ClassFile.FieldType.boolean)) ∈ WL := WL_t (in_tables_1_3 (List.mem_of_getElem? (i := 76) rfl)) rfl
theorem q558 : (Jvm.Cond.methodLink "Icehighway" (150 : Nat) ({ cls := "Icehighway", name := "stopAtEnd", desc := "(LIcehighway$Vehicle;)V" } : Jvm.MethodName)) ∈ WL := WL_t (in_tables_1_3 (List.mem_of_getElem? (i := 78) rfl)) rfl
theorem q559 : (Jvm.Cond.privateMethod ({ cls := "Icehighway", name := "stopAtEnd", desc := "(LIcehighway$Vehicle;)V" } : Jvm.MethodName)) ∈ XL := XL_t (in_tables_1_3 (List.mem_of_getElem? (i := 79) rfl)) rfl
theorem q560 : (Jvm.Cond.instanceMethod ({ cls := "Icehighway", name := "stopAtEnd", desc := "(LIcehighway$Vehicle;)V" } : Jvm.MethodName)) ∈ WL := WL_t (in_tables_1_3 (List.mem_of_getElem? (i := 80) rfl)) rfl
theorem q561 : (Jvm.Cond.code ({ cls := "Icehighway", name := "stopAtEnd", desc := "(LIcehighway$Vehicle;)V" } : Jvm.MethodName) prog_1_method_40_code (2 : Nat) (Option.none : Option Jvm.ClassFile.FieldType)) ∈ WL := WL_t (in_tables_1_3 (List.mem_of_getElem? (i := 81) rfl)) rfl
theorem q562 : (Jvm.Cond.methodLink "Icehighway" (266 : Nat) ({ cls := "Icehighway", name := "unload", desc := "(LIcehighway$Vehicle;)V" } : Jvm.MethodName)) ∈ WL := WL_t (in_tables_1_3 (List.mem_of_getElem? (i := 82) rfl)) rfl
theorem q563 : (Jvm.Cond.privateMethod ({ cls := "Icehighway", name := "unload", desc := "(LIcehighway$Vehicle;)V" } : Jvm.MethodName)) ∈ XL := XL_t (in_tables_1_3 (List.mem_of_getElem? (i := 83) rfl)) rfl
theorem q564 : (Jvm.Cond.instanceMethod ({ cls := "Icehighway", name := "unload", desc := "(LIcehighway$Vehicle;)V" } : Jvm.MethodName)) ∈ WL := WL_t (in_tables_1_3 (List.mem_of_getElem? (i := 84) rfl)) rfl
theorem q565 : (Jvm.Cond.code ({ cls := "Icehighway", name := "unload", desc := "(LIcehighway$Vehicle;)V" } : Jvm.MethodName) prog_1_method_35_code (3 : Nat) (Option.none : Option Jvm.ClassFile.FieldType)) ∈ WL := WL_t (in_tables_1_3 (List.mem_of_getElem? (i := 85) rfl)) rfl
theorem q566 : (Jvm.Cond.methodLink "IcehighwayLaw" (150 : Nat) ({ cls := "IcehighwayLaw", name := "order", desc := "(LIcehighway;II[J)I" } : Jvm.MethodName)) ∈ WL := WL_t (in_tables_1_3 (List.mem_of_getElem? (i := 86) rfl)) rfl
theorem q567 : (Jvm.Cond.static ({ cls := "IcehighwayLaw", name := "order", desc := "(LIcehighway;II[J)I" } : Jvm.MethodName)) ∈ WL := WL_t (in_tables_1_3 (List.mem_of_getElem? (i := 87) rfl)) rfl
theorem q568 : (Jvm.Cond.codeWith ({ cls := "IcehighwayLaw", name := "order", desc := "(LIcehighway;II[J)I" } : Jvm.MethodName) method_16_code (5 : Nat) (Option.some Jvm.ClassFile.FieldType.int) [((0 : Nat), (10 : Nat), (13 : Nat), (27 : Nat)), ((0 : Nat), (10 : Nat), (17 : Nat), (13 : Nat)), ((0 : Nat), (10 : Nat), (21 : Nat), (15 : Nat))]) ∈ WL := WL_t (in_tables_1_3 (List.mem_of_getElem? (i := 88) rfl)) rfl
theorem q569 : (Jvm.Cond.methodLink "IcehighwayLaw" (59 : Nat) ({ cls := "Icehighway", name := "order", desc := "(II)I" } : Jvm.MethodName)) ∈ WL := WL_t (in_tables_1_3 (List.mem_of_getElem? (i := 89) rfl)) rfl
theorem q570 : (Jvm.Cond.instanceMethod ({ cls := "Icehighway", name := "order", desc := "(II)I" } : Jvm.MethodName)) ∈ WL := WL_t (in_tables_1_3 (List.mem_of_getElem? (i := 90) rfl)) rfl
theorem q571 : (Jvm.Cond.selects "Icehighway" ({ cls := "Icehighway", name := "order", desc := "(II)I" } : Jvm.MethodName) ({ cls := "Icehighway", name := "order", desc := "(II)I" } : Jvm.MethodName)) ∈ WL := WL_t (in_tables_1_3 (List.mem_of_getElem? (i := 91) rfl)) rfl
theorem q572 : (Jvm.Cond.code ({ cls := "Icehighway", name := "order", desc := "(II)I" } : Jvm.MethodName) prog_1_method_15_code (3 : Nat) (Option.some Jvm.ClassFile.FieldType.int)) ∈ WL := WL_t (in_tables_1_3 (List.mem_of_getElem? (i := 92) rfl)) rfl
theorem q573 : (Jvm.Cond.constant "Icehighway" (154 : Nat) (1000000 : Int32)) ∈ WL := WL_t (in_tables_1_3 (List.mem_of_getElem? (i := 93) rfl)) rfl
theorem q574 : (Jvm.Cond.constant "Icehighway" (155 : Nat) (10000000 : Int32)) ∈ WL := WL_t (in_tables_1_3 (List.mem_of_getElem? (i := 94) rfl)) rfl
theorem q576 : (Jvm.Cond.methodLink "IcehighwayLaw" (153 : Nat) ({ cls := "IcehighwayLaw", name := "pass", desc := "(LIcehighway;I[J)I" } : Jvm.MethodName)) ∈ WL := WL_t (in_tables_1_3 (List.mem_of_getElem? (i := 96) rfl)) rfl
theorem q577 : (Jvm.Cond.static ({ cls := "IcehighwayLaw", name := "pass", desc := "(LIcehighway;I[J)I" } : Jvm.MethodName)) ∈ WL := WL_t (in_tables_1_3 (List.mem_of_getElem? (i := 97) rfl)) rfl
theorem q578 : (Jvm.Cond.codeWith ({ cls := "IcehighwayLaw", name := "pass", desc := "(LIcehighway;I[J)I" } : Jvm.MethodName) method_17_code (4 : Nat) (Option.some Jvm.ClassFile.FieldType.int) [((0 : Nat), (9 : Nat), (12 : Nat), (13 : Nat)), ((0 : Nat), (9 : Nat), (15 : Nat), (15 : Nat))]) ∈ WL := WL_t (in_tables_1_3 (List.mem_of_getElem? (i := 98) rfl)) rfl
theorem q579 : (Jvm.Cond.methodLink "IcehighwayLaw" (62 : Nat) ({ cls := "Icehighway", name := "pass", desc := "(I)I" } : Jvm.MethodName)) ∈ WL := WL_t (in_tables_1_3 (List.mem_of_getElem? (i := 99) rfl)) rfl
theorem q580 : (Jvm.Cond.instanceMethod ({ cls := "Icehighway", name := "pass", desc := "(I)I" } : Jvm.MethodName)) ∈ WL := WL_t (in_tables_1_3 (List.mem_of_getElem? (i := 100) rfl)) rfl
theorem q581 : (Jvm.Cond.selects "Icehighway" ({ cls := "Icehighway", name := "pass", desc := "(I)I" } : Jvm.MethodName) ({ cls := "Icehighway", name := "pass", desc := "(I)I" } : Jvm.MethodName)) ∈ WL := WL_t (in_tables_1_3 (List.mem_of_getElem? (i := 101) rfl)) rfl
theorem q582 : (Jvm.Cond.code ({ cls := "Icehighway", name := "pass", desc := "(I)I" } : Jvm.MethodName) prog_1_method_16_code (3 : Nat) (Option.some Jvm.ClassFile.FieldType.int)) ∈ WL := WL_t (in_tables_1_3 (List.mem_of_getElem? (i := 102) rfl)) rfl
theorem q583 : (Jvm.Cond.constant "Icehighway" (158 : Nat) (200000 : Int32)) ∈ WL := WL_t (in_tables_1_3 (List.mem_of_getElem? (i := 103) rfl)) rfl
theorem q585 : (Jvm.Cond.methodLink "Icehighway" (161 : Nat) ({ cls := "Icehighway", name := "passOneMinute", desc := "()V" } : Jvm.MethodName)) ∈ WL := WL_t (in_tables_1_3 (List.mem_of_getElem? (i := 105) rfl)) rfl
theorem q586 : (Jvm.Cond.privateMethod ({ cls := "Icehighway", name := "passOneMinute", desc := "()V" } : Jvm.MethodName)) ∈ XL := XL_t (in_tables_1_3 (List.mem_of_getElem? (i := 106) rfl)) rfl
theorem q587 : (Jvm.Cond.instanceMethod ({ cls := "Icehighway", name := "passOneMinute", desc := "()V" } : Jvm.MethodName)) ∈ WL := WL_t (in_tables_1_3 (List.mem_of_getElem? (i := 107) rfl)) rfl
theorem q588 : (Jvm.Cond.code ({ cls := "Icehighway", name := "passOneMinute", desc := "()V" } : Jvm.MethodName) prog_1_method_36_code (2 : Nat) (Option.none : Option Jvm.ClassFile.FieldType)) ∈ WL := WL_t (in_tables_1_3 (List.mem_of_getElem? (i := 108) rfl)) rfl
theorem q589 : (Jvm.Cond.methodLink "Icehighway" (245 : Nat) ({ cls := "Icehighway", name := "endDay", desc := "()V" } : Jvm.MethodName)) ∈ WL := WL_t (in_tables_1_3 (List.mem_of_getElem? (i := 109) rfl)) rfl
theorem q590 : (Jvm.Cond.privateMethod ({ cls := "Icehighway", name := "endDay", desc := "()V" } : Jvm.MethodName)) ∈ XL := XL_t (in_tables_1_3 (List.mem_of_getElem? (i := 110) rfl)) rfl
theorem q591 : (Jvm.Cond.instanceMethod ({ cls := "Icehighway", name := "endDay", desc := "()V" } : Jvm.MethodName)) ∈ WL := WL_t (in_tables_1_3 (List.mem_of_getElem? (i := 111) rfl)) rfl
theorem q592 : (Jvm.Cond.code ({ cls := "Icehighway", name := "endDay", desc := "()V" } : Jvm.MethodName) prog_1_method_37_code (2 : Nat) (Option.none : Option Jvm.ClassFile.FieldType)) ∈ WL := WL_t (in_tables_1_3 (List.mem_of_getElem? (i := 112) rfl)) rfl
theorem q593 : (Jvm.Cond.methodLink "Icehighway" (251 : Nat) ({ cls := "Icehighway$Piece", name := "freeze", desc := "(I)V" } : Jvm.MethodName)) ∈ WL := WL_t (in_tables_1_3 (List.mem_of_getElem? (i := 113) rfl)) rfl
theorem q594 : (Jvm.Cond.instanceMethod ({ cls := "Icehighway$Piece", name := "freeze", desc := "(I)V" } : Jvm.MethodName)) ∈ WL := WL_t (in_tables_1_3 (List.mem_of_getElem? (i := 114) rfl)) rfl
theorem q595 : (Jvm.Cond.selects "Icehighway$Piece" ({ cls := "Icehighway$Piece", name := "freeze", desc := "(I)V" } : Jvm.MethodName) ({ cls := "Icehighway$Piece", name := "freeze", desc := "(I)V" } : Jvm.MethodName)) ∈ WL := WL_t (in_tables_1_3 (List.mem_of_getElem? (i := 115) rfl)) rfl
theorem q596 : (Jvm.Cond.code ({ cls := "Icehighway$Piece", name := "freeze", desc := "(I)V" } : Jvm.MethodName) prog_3_method_7_code (3 : Nat) (Option.none : Option Jvm.ClassFile.FieldType)) ∈ WL := WL_t (in_tables_1_3 (List.mem_of_getElem? (i := 116) rfl)) rfl
theorem q597 : (Jvm.Cond.methodLink "Icehighway$Piece" (76 : Nat) ({ cls := "java/lang/Math", name := "min", desc := "(II)I" } : Jvm.MethodName)) ∈ WL := WL_t (in_tables_1_3 (List.mem_of_getElem? (i := 117) rfl)) rfl
theorem q598 : (Jvm.Cond.methodLink "Icehighway$Piece" (82 : Nat) ({ cls := "Icehighway$Piece", name := "growth", desc := "(I)I" } : Jvm.MethodName)) ∈ WL := WL_t (in_tables_1_3 (List.mem_of_getElem? (i := 118) rfl)) rfl
theorem q599 : (Jvm.Cond.privateMethod ({ cls := "Icehighway$Piece", name := "growth", desc := "(I)I" } : Jvm.MethodName)) ∈ XL := XL_t (in_tables_1_3 (List.mem_of_getElem? (i := 119) rfl)) rfl
theorem q600 : (Jvm.Cond.instanceMethod ({ cls := "Icehighway$Piece", name := "growth", desc := "(I)I" } : Jvm.MethodName)) ∈ WL := WL_t (in_tables_1_3 (List.mem_of_getElem? (i := 120) rfl)) rfl
theorem q601 : (Jvm.Cond.code ({ cls := "Icehighway$Piece", name := "growth", desc := "(I)I" } : Jvm.MethodName) prog_3_method_8_code (4 : Nat) (Option.some Jvm.ClassFile.FieldType.int)) ∈ WL := WL_t (in_tables_1_3 (List.mem_of_getElem? (i := 121) rfl)) rfl
theorem q602 : (Jvm.Cond.methodLink "Icehighway$Piece" (86 : Nat) ({ cls := "java/lang/Math", name := "max", desc := "(II)I" } : Jvm.MethodName)) ∈ WL := WL_t (in_tables_1_3 (List.mem_of_getElem? (i := 122) rfl)) rfl
theorem q603 : (Jvm.Cond.methodLink "Icehighway" (254 : Nat) ({ cls := "Icehighway$Piece", name := "thaw", desc := "(I)V" } : Jvm.MethodName)) ∈ WL := WL_t (in_tables_1_3 (List.mem_of_getElem? (i := 123) rfl)) rfl
theorem q604 : (Jvm.Cond.instanceMethod ({ cls := "Icehighway$Piece", name := "thaw", desc := "(I)V" } : Jvm.MethodName)) ∈ WL := WL_t (in_tables_1_3 (List.mem_of_getElem? (i := 124) rfl)) rfl
theorem q605 : (Jvm.Cond.selects "Icehighway$Piece" ({ cls := "Icehighway$Piece", name := "thaw", desc := "(I)V" } : Jvm.MethodName) ({ cls := "Icehighway$Piece", name := "thaw", desc := "(I)V" } : Jvm.MethodName)) ∈ WL := WL_t (in_tables_1_3 (List.mem_of_getElem? (i := 125) rfl)) rfl
theorem q606 : (Jvm.Cond.code ({ cls := "Icehighway$Piece", name := "thaw", desc := "(I)V" } : Jvm.MethodName) prog_3_method_9_code (8 : Nat) (Option.none : Option Jvm.ClassFile.FieldType)) ∈ WL := WL_t (in_tables_1_3 (List.mem_of_getElem? (i := 126) rfl)) rfl
theorem q607 : (Jvm.Cond.methodLink "Icehighway" (248 : Nat) ({ cls := "Icehighway", name := "moveOn", desc := "(LIcehighway$Vehicle;)V" } : Jvm.MethodName)) ∈ WL := WL_t (in_tables_1_3 (List.mem_of_getElem? (i := 127) rfl)) rfl
theorem q608 : (Jvm.Cond.privateMethod ({ cls := "Icehighway", name := "moveOn", desc := "(LIcehighway$Vehicle;)V" } : Jvm.MethodName)) ∈ XL := XL_t (in_tables_1_3 (List.mem_of_getElem? (i := 128) rfl)) rfl
theorem q609 : (Jvm.Cond.instanceMethod ({ cls := "Icehighway", name := "moveOn", desc := "(LIcehighway$Vehicle;)V" } : Jvm.MethodName)) ∈ WL := WL_t (in_tables_1_3 (List.mem_of_getElem? (i := 129) rfl)) rfl
theorem q610 : (Jvm.Cond.code ({ cls := "Icehighway", name := "moveOn", desc := "(LIcehighway$Vehicle;)V" } : Jvm.MethodName) prog_1_method_38_code (2 : Nat) (Option.none : Option Jvm.ClassFile.FieldType)) ∈ WL := WL_t (in_tables_1_3 (List.mem_of_getElem? (i := 130) rfl)) rfl
theorem q611 : (Jvm.Cond.methodLink "Icehighway" (257 : Nat) ({ cls := "Icehighway", name := "leave", desc := "(LIcehighway$Vehicle;)V" } : Jvm.MethodName)) ∈ WL := WL_t (in_tables_1_3 (List.mem_of_getElem? (i := 131) rfl)) rfl
theorem q612 : (Jvm.Cond.privateMethod ({ cls := "Icehighway", name := "leave", desc := "(LIcehighway$Vehicle;)V" } : Jvm.MethodName)) ∈ XL := XL_t (in_tables_1_3 (List.mem_of_getElem? (i := 132) rfl)) rfl
theorem q613 : (Jvm.Cond.instanceMethod ({ cls := "Icehighway", name := "leave", desc := "(LIcehighway$Vehicle;)V" } : Jvm.MethodName)) ∈ WL := WL_t (in_tables_1_3 (List.mem_of_getElem? (i := 133) rfl)) rfl
theorem q614 : (Jvm.Cond.code ({ cls := "Icehighway", name := "leave", desc := "(LIcehighway$Vehicle;)V" } : Jvm.MethodName) prog_1_method_39_code (2 : Nat) (Option.none : Option Jvm.ClassFile.FieldType)) ∈ WL := WL_t (in_tables_1_3 (List.mem_of_getElem? (i := 134) rfl)) rfl
theorem q615 : (Jvm.Cond.methodLink "Icehighway" (263 : Nat) ({ cls := "Icehighway$Piece", name := "letOff", desc := "(LIcehighway$Vehicle;)V" } : Jvm.MethodName)) ∈ WL := WL_t (in_tables_1_3 (List.mem_of_getElem? (i := 135) rfl)) rfl
theorem q616 : (Jvm.Cond.instanceMethod ({ cls := "Icehighway$Piece", name := "letOff", desc := "(LIcehighway$Vehicle;)V" } : Jvm.MethodName)) ∈ WL := WL_t (in_tables_1_3 (List.mem_of_getElem? (i := 136) rfl)) rfl
theorem q617 : (Jvm.Cond.selects "Icehighway$Piece" ({ cls := "Icehighway$Piece", name := "letOff", desc := "(LIcehighway$Vehicle;)V" } : Jvm.MethodName) ({ cls := "Icehighway$Piece", name := "letOff", desc := "(LIcehighway$Vehicle;)V" } : Jvm.MethodName)) ∈ WL := WL_t (in_tables_1_3 (List.mem_of_getElem? (i := 137) rfl)) rfl
theorem q618 : (Jvm.Cond.code ({ cls := "Icehighway$Piece", name := "letOff", desc := "(LIcehighway$Vehicle;)V" } : Jvm.MethodName) prog_3_method_16_code (3 : Nat) (Option.none : Option Jvm.ClassFile.FieldType)) ∈ WL := WL_t (in_tables_1_3 (List.mem_of_getElem? (i := 138) rfl)) rfl
theorem q619 : (Jvm.Cond.methodLink "Icehighway$Piece" (102 : Nat) ({ cls := "Icehighway$Vehicle", name := "weight", desc := "()I" } : Jvm.MethodName)) ∈ WL := WL_t (in_tables_1_3 (List.mem_of_getElem? (i := 139) rfl)) rfl
theorem q620 : (Jvm.Cond.methodLink "Icehighway$Piece" (110 : Nat) ({ cls := "Icehighway$Piece", name := "isWaterPiece", desc := "()Z" } : Jvm.MethodName)) ∈ WL := WL_t (in_tables_1_3 (List.mem_of_getElem? (i := 140) rfl)) rfl
theorem q621 : (Jvm.Cond.methodLink "Icehighway" (199 : Nat) ({ cls := "Icehighway", name := "whatIsAgainst", desc := "(LIcehighway$Vehicle;)I" } : Jvm.MethodName)) ∈ WL := WL_t (in_tables_1_3 (List.mem_of_getElem? (i := 141) rfl)) rfl
theorem q622 : (Jvm.Cond.privateMethod ({ cls := "Icehighway", name := "whatIsAgainst", desc := "(LIcehighway$Vehicle;)I" } : Jvm.MethodName)) ∈ XL := XL_t (in_tables_1_3 (List.mem_of_getElem? (i := 142) rfl)) rfl
theorem q623 : (Jvm.Cond.instanceMethod ({ cls := "Icehighway", name := "whatIsAgainst", desc := "(LIcehighway$Vehicle;)I" } : Jvm.MethodName)) ∈ WL := WL_t (in_tables_1_3 (List.mem_of_getElem? (i := 143) rfl)) rfl
theorem q624 : (Jvm.Cond.code ({ cls := "Icehighway", name := "whatIsAgainst", desc := "(LIcehighway$Vehicle;)I" } : Jvm.MethodName) prog_1_method_43_code (5 : Nat) (Option.some Jvm.ClassFile.FieldType.int)) ∈ WL := WL_t (in_tables_1_3 (List.mem_of_getElem? (i := 144) rfl)) rfl
theorem q625 : (Jvm.Cond.methodLink "Icehighway" (269 : Nat) ({ cls := "Icehighway", name := "pieceAhead", desc := "(LIcehighway$Vehicle;)LIcehighway$Piece;" } : Jvm.MethodName)) ∈ WL := WL_t (in_tables_1_3 (List.mem_of_getElem? (i := 145) rfl)) rfl
theorem q626 : (Jvm.Cond.privateMethod ({ cls := "Icehighway", name := "pieceAhead", desc := "(LIcehighway$Vehicle;)LIcehighway$Piece;" } : Jvm.MethodName)) ∈ XL := XL_t (in_tables_1_3 (List.mem_of_getElem? (i := 146) rfl)) rfl
theorem q627 : (Jvm.Cond.instanceMethod ({ cls := "Icehighway", name := "pieceAhead", desc := "(LIcehighway$Vehicle;)LIcehighway$Piece;" } : Jvm.MethodName)) ∈ WL := WL_t (in_tables_1_3 (List.mem_of_getElem? (i := 147) rfl)) rfl
theorem q628 : (Jvm.Cond.code ({ cls := "Icehighway", name := "pieceAhead", desc := "(LIcehighway$Vehicle;)LIcehighway$Piece;" } : Jvm.MethodName) prog_1_method_42_code (3 : Nat) (Option.some (Jvm.ClassFile.FieldType.object "Icehighway$Piece"))) ∈ WL := WL_t (in_tables_1_3 (List.mem_of_getElem? (i := 148) rfl)) rfl
theorem q629 : (Jvm.Cond.methodLink "Icehighway" (286 : Nat) ({ cls := "Icehighway$Piece", name := "lastComing", desc := "(Z)I" } : Jvm.MethodName)) ∈ WL := WL_t (in_tables_1_3 (List.mem_of_getElem? (i := 149) rfl)) rfl
theorem q630 : (Jvm.Cond.instanceMethod ({ cls := "Icehighway$Piece", name := "lastComing", desc := "(Z)I" } : Jvm.MethodName)) ∈ WL := WL_t (in_tables_1_3 (List.mem_of_getElem? (i := 150) rfl)) rfl
theorem q631 : (Jvm.Cond.selects "Icehighway$Piece" ({ cls := "Icehighway$Piece", name := "lastComing", desc := "(Z)I" } : Jvm.MethodName) ({ cls := "Icehighway$Piece", name := "lastComing", desc := "(Z)I" } : Jvm.MethodName)) ∈ WL := WL_t (in_tables_1_3 (List.mem_of_getElem? (i := 151) rfl)) rfl
theorem q632 : (Jvm.Cond.code ({ cls := "Icehighway$Piece", name := "lastComing", desc := "(Z)I" } : Jvm.MethodName) prog_3_method_13_code (2 : Nat) (Option.some Jvm.ClassFile.FieldType.int)) ∈ WL := WL_t (in_tables_1_3 (List.mem_of_getElem? (i := 152) rfl)) rfl
theorem q633 : (Jvm.Cond.methodLink "Icehighway" (292 : Nat) ({ cls := "Icehighway$Piece", name := "countOn", desc := "(Z)I" } : Jvm.MethodName)) ∈ WL := WL_t (in_tables_1_3 (List.mem_of_getElem? (i := 153) rfl)) rfl
theorem q634 : (Jvm.Cond.instanceMethod ({ cls := "Icehighway$Piece", name := "countOn", desc := "(Z)I" } : Jvm.MethodName)) ∈ WL := WL_t (in_tables_1_3 (List.mem_of_getElem? (i := 154) rfl)) rfl
theorem q635 : (Jvm.Cond.selects "Icehighway$Piece" ({ cls := "Icehighway$Piece", name := "countOn", desc := "(Z)I" } : Jvm.MethodName) ({ cls := "Icehighway$Piece", name := "countOn", desc := "(Z)I" } : Jvm.MethodName)) ∈ WL := WL_t (in_tables_1_3 (List.mem_of_getElem? (i := 155) rfl)) rfl
theorem q636 : (Jvm.Cond.code ({ cls := "Icehighway$Piece", name := "countOn", desc := "(Z)I" } : Jvm.MethodName) prog_3_method_12_code (2 : Nat) (Option.some Jvm.ClassFile.FieldType.int)) ∈ WL := WL_t (in_tables_1_3 (List.mem_of_getElem? (i := 156) rfl)) rfl
theorem q637 : (Jvm.Cond.methodLink "Icehighway" (183 : Nat) ({ cls := "Icehighway$Piece", name := "bearsAs", desc := "(Z)I" } : Jvm.MethodName)) ∈ WL := WL_t (in_tables_1_3 (List.mem_of_getElem? (i := 157) rfl)) rfl
theorem q638 : (Jvm.Cond.instanceMethod ({ cls := "Icehighway$Piece", name := "bearsAs", desc := "(Z)I" } : Jvm.MethodName)) ∈ WL := WL_t (in_tables_1_3 (List.mem_of_getElem? (i := 158) rfl)) rfl
theorem q639 : (Jvm.Cond.selects "Icehighway$Piece" ({ cls := "Icehighway$Piece", name := "bearsAs", desc := "(Z)I" } : Jvm.MethodName) ({ cls := "Icehighway$Piece", name := "bearsAs", desc := "(Z)I" } : Jvm.MethodName)) ∈ WL := WL_t (in_tables_1_3 (List.mem_of_getElem? (i := 159) rfl)) rfl
theorem q640 : (Jvm.Cond.code ({ cls := "Icehighway$Piece", name := "bearsAs", desc := "(Z)I" } : Jvm.MethodName) prog_3_method_6_code (6 : Nat) (Option.some Jvm.ClassFile.FieldType.int)) ∈ WL := WL_t (in_tables_1_3 (List.mem_of_getElem? (i := 160) rfl)) rfl
theorem q641 : (Jvm.Cond.constant "Icehighway$Piece" (67 : Nat) (60000 : Int32)) ∈ WL := WL_t (in_tables_1_3 (List.mem_of_getElem? (i := 161) rfl)) rfl
theorem q642 : (Jvm.Cond.methodLink "Icehighway$Piece" (68 : Nat) ({ cls := "Icehighway$Piece", name := "thicknessAs", desc := "(Z)D" } : Jvm.MethodName)) ∈ WL := WL_t (in_tables_1_3 (List.mem_of_getElem? (i := 162) rfl)) rfl
theorem q643 : (Jvm.Cond.instanceMethod ({ cls := "Icehighway$Piece", name := "thicknessAs", desc := "(Z)D" } : Jvm.MethodName)) ∈ WL := WL_t (in_tables_1_3 (List.mem_of_getElem? (i := 163) rfl)) rfl
theorem q644 : (Jvm.Cond.selects "Icehighway$Piece" ({ cls := "Icehighway$Piece", name := "thicknessAs", desc := "(Z)D" } : Jvm.MethodName) ({ cls := "Icehighway$Piece", name := "thicknessAs", desc := "(Z)D" } : Jvm.MethodName)) ∈ WL := WL_t (in_tables_1_3 (List.mem_of_getElem? (i := 164) rfl)) rfl
theorem q645 : (Jvm.Cond.code ({ cls := "Icehighway$Piece", name := "thicknessAs", desc := "(Z)D" } : Jvm.MethodName) prog_3_method_5_code (2 : Nat) (Option.some Jvm.ClassFile.FieldType.double)) ∈ WL := WL_t (in_tables_1_3 (List.mem_of_getElem? (i := 165) rfl)) rfl
theorem q646 : (Jvm.Cond.methodLink "Icehighway$Piece" (63 : Nat) ({ cls := "Icehighway$Piece", name := "realThickness", desc := "()D" } : Jvm.MethodName)) ∈ WL := WL_t (in_tables_1_3 (List.mem_of_getElem? (i := 166) rfl)) rfl
theorem q647 : (Jvm.Cond.constantDouble "Icehighway$Piece" (72 : Nat) (4604930618986332160 : UInt64)) ∈ WL := WL_t (in_tables_1_3 (List.mem_of_getElem? (i := 167) rfl)) rfl
theorem q648 : (Jvm.Cond.constantDouble "Icehighway$Piece" (74 : Nat) (4585925428558828667 : UInt64)) ∈ WL := WL_t (in_tables_1_3 (List.mem_of_getElem? (i := 168) rfl)) rfl
theorem q649 : (Jvm.Cond.methodLink "Icehighway" (260 : Nat) ({ cls := "Icehighway", name := "comeOnto", desc := "(LIcehighway$Vehicle;)V" } : Jvm.MethodName)) ∈ WL := WL_t (in_tables_1_3 (List.mem_of_getElem? (i := 169) rfl)) rfl
theorem q650 : (Jvm.Cond.privateMethod ({ cls := "Icehighway", name := "comeOnto", desc := "(LIcehighway$Vehicle;)V" } : Jvm.MethodName)) ∈ XL := XL_t (in_tables_1_3 (List.mem_of_getElem? (i := 170) rfl)) rfl
theorem q651 : (Jvm.Cond.instanceMethod ({ cls := "Icehighway", name := "comeOnto", desc := "(LIcehighway$Vehicle;)V" } : Jvm.MethodName)) ∈ WL := WL_t (in_tables_1_3 (List.mem_of_getElem? (i := 171) rfl)) rfl
theorem q652 : (Jvm.Cond.code ({ cls := "Icehighway", name := "comeOnto", desc := "(LIcehighway$Vehicle;)V" } : Jvm.MethodName) prog_1_method_41_code (3 : Nat) (Option.none : Option Jvm.ClassFile.FieldType)) ∈ WL := WL_t (in_tables_1_3 (List.mem_of_getElem? (i := 172) rfl)) rfl
theorem q653 : (Jvm.Cond.methodLink "Icehighway" (273 : Nat) ({ cls := "Icehighway$Piece", name := "noteComing", desc := "(ZI)V" } : Jvm.MethodName)) ∈ WL := WL_t (in_tables_1_3 (List.mem_of_getElem? (i := 173) rfl)) rfl
theorem q654 : (Jvm.Cond.instanceMethod ({ cls := "Icehighway$Piece", name := "noteComing", desc := "(ZI)V" } : Jvm.MethodName)) ∈ WL := WL_t (in_tables_1_3 (List.mem_of_getElem? (i := 174) rfl)) rfl
theorem q655 : (Jvm.Cond.selects "Icehighway$Piece" ({ cls := "Icehighway$Piece", name := "noteComing", desc := "(ZI)V" } : Jvm.MethodName) ({ cls := "Icehighway$Piece", name := "noteComing", desc := "(ZI)V" } : Jvm.MethodName)) ∈ WL := WL_t (in_tables_1_3 (List.mem_of_getElem? (i := 175) rfl)) rfl
theorem q656 : (Jvm.Cond.code ({ cls := "Icehighway$Piece", name := "noteComing", desc := "(ZI)V" } : Jvm.MethodName) prog_3_method_14_code (3 : Nat) (Option.none : Option Jvm.ClassFile.FieldType)) ∈ WL := WL_t (in_tables_1_3 (List.mem_of_getElem? (i := 176) rfl)) rfl
theorem q657 : (Jvm.Cond.methodLink "Icehighway" (280 : Nat) ({ cls := "Icehighway$Piece", name := "breakUp", desc := "()V" } : Jvm.MethodName)) ∈ WL := WL_t (in_tables_1_3 (List.mem_of_getElem? (i := 177) rfl)) rfl
theorem q658 : (Jvm.Cond.instanceMethod ({ cls := "Icehighway$Piece", name := "breakUp", desc := "()V" } : Jvm.MethodName)) ∈ WL := WL_t (in_tables_1_3 (List.mem_of_getElem? (i := 178) rfl)) rfl
theorem q659 : (Jvm.Cond.selects "Icehighway$Piece" ({ cls := "Icehighway$Piece", name := "breakUp", desc := "()V" } : Jvm.MethodName) ({ cls := "Icehighway$Piece", name := "breakUp", desc := "()V" } : Jvm.MethodName)) ∈ WL := WL_t (in_tables_1_3 (List.mem_of_getElem? (i := 179) rfl)) rfl
theorem q660 : (Jvm.Cond.code ({ cls := "Icehighway$Piece", name := "breakUp", desc := "()V" } : Jvm.MethodName) prog_3_method_17_code (1 : Nat) (Option.none : Option Jvm.ClassFile.FieldType)) ∈ WL := WL_t (in_tables_1_3 (List.mem_of_getElem? (i := 180) rfl)) rfl
theorem q661 : (Jvm.Cond.methodLink "Icehighway" (206 : Nat) ({ cls := "Icehighway$Piece", name := "minutesOf", desc := "(LIcehighway$Vehicle;)I" } : Jvm.MethodName)) ∈ WL := WL_t (in_tables_1_3 (List.mem_of_getElem? (i := 181) rfl)) rfl
theorem q662 : (Jvm.Cond.instanceMethod ({ cls := "Icehighway$Piece", name := "minutesOf", desc := "(LIcehighway$Vehicle;)I" } : Jvm.MethodName)) ∈ WL := WL_t (in_tables_1_3 (List.mem_of_getElem? (i := 182) rfl)) rfl
theorem q663 : (Jvm.Cond.selects "Icehighway$Piece" ({ cls := "Icehighway$Piece", name := "minutesOf", desc := "(LIcehighway$Vehicle;)I" } : Jvm.MethodName) ({ cls := "Icehighway$Piece", name := "minutesOf", desc := "(LIcehighway$Vehicle;)I" } : Jvm.MethodName)) ∈ WL := WL_t (in_tables_1_3 (List.mem_of_getElem? (i := 183) rfl)) rfl
theorem q664 : (Jvm.Cond.code ({ cls := "Icehighway$Piece", name := "minutesOf", desc := "(LIcehighway$Vehicle;)I" } : Jvm.MethodName) prog_3_method_11_code (3 : Nat) (Option.some Jvm.ClassFile.FieldType.int)) ∈ WL := WL_t (in_tables_1_3 (List.mem_of_getElem? (i := 184) rfl)) rfl
theorem q665 : (Jvm.Cond.methodLink "Icehighway$Piece" (98 : Nat) ({ cls := "Icehighway$Piece", name := "speedOf", desc := "(LIcehighway$Vehicle;)I" } : Jvm.MethodName)) ∈ WL := WL_t (in_tables_1_3 (List.mem_of_getElem? (i := 185) rfl)) rfl
theorem q666 : (Jvm.Cond.instanceMethod ({ cls := "Icehighway$Piece", name := "speedOf", desc := "(LIcehighway$Vehicle;)I" } : Jvm.MethodName)) ∈ WL := WL_t (in_tables_1_3 (List.mem_of_getElem? (i := 186) rfl)) rfl
theorem q667 : (Jvm.Cond.selects "Icehighway$Piece" ({ cls := "Icehighway$Piece", name := "speedOf", desc := "(LIcehighway$Vehicle;)I" } : Jvm.MethodName) ({ cls := "Icehighway$Piece", name := "speedOf", desc := "(LIcehighway$Vehicle;)I" } : Jvm.MethodName)) ∈ WL := WL_t (in_tables_1_3 (List.mem_of_getElem? (i := 187) rfl)) rfl
theorem q668 : (Jvm.Cond.code ({ cls := "Icehighway$Piece", name := "speedOf", desc := "(LIcehighway$Vehicle;)I" } : Jvm.MethodName) prog_3_method_10_code (8 : Nat) (Option.some Jvm.ClassFile.FieldType.int)) ∈ WL := WL_t (in_tables_1_3 (List.mem_of_getElem? (i := 188) rfl)) rfl
theorem q669 : (Jvm.Cond.constantDouble "Icehighway$Piece" (94 : Nat) (4635217326480398746 : UInt64)) ∈ WL := WL_t (in_tables_1_3 (List.mem_of_getElem? (i := 189) rfl)) rfl
theorem q670 : (Jvm.Cond.constantDouble "Icehighway$Piece" (96 : Nat) (4637975781252163174 : UInt64)) ∈ WL := WL_t (in_tables_1_3 (List.mem_of_getElem? (i := 190) rfl)) rfl
theorem q671 : (Jvm.Cond.methodLink "Icehighway" (283 : Nat) ({ cls := "Icehighway$Piece", name := "takeOn", desc := "(LIcehighway$Vehicle;)V" } : Jvm.MethodName)) ∈ WL := WL_t (in_tables_1_3 (List.mem_of_getElem? (i := 191) rfl)) rfl
theorem q672 : (Jvm.Cond.instanceMethod ({ cls := "Icehighway$Piece", name := "takeOn", desc := "(LIcehighway$Vehicle;)V" } : Jvm.MethodName)) ∈ WL := WL_t (in_tables_1_3 (List.mem_of_getElem? (i := 192) rfl)) rfl
theorem q673 : (Jvm.Cond.selects "Icehighway$Piece" ({ cls := "Icehighway$Piece", name := "takeOn", desc := "(LIcehighway$Vehicle;)V" } : Jvm.MethodName) ({ cls := "Icehighway$Piece", name := "takeOn", desc := "(LIcehighway$Vehicle;)V" } : Jvm.MethodName)) ∈ WL := WL_t (in_tables_1_3 (List.mem_of_getElem? (i := 193) rfl)) rfl
theorem q674 : (Jvm.Cond.code ({ cls := "Icehighway$Piece", name := "takeOn", desc := "(LIcehighway$Vehicle;)V" } : Jvm.MethodName) prog_3_method_15_code (2 : Nat) (Option.none : Option Jvm.ClassFile.FieldType)) ∈ WL := WL_t (in_tables_1_3 (List.mem_of_getElem? (i := 194) rfl)) rfl
theorem q675 : (Jvm.Cond.methodLink "IcehighwayLaw" (160 : Nat) ({ cls := "IcehighwayLaw", name := "told", desc := "(LIcehighway;II[J)I" } : Jvm.MethodName)) ∈ WL := WL_t (in_tables_1_3 (List.mem_of_getElem? (i := 195) rfl)) rfl
theorem q676 : (Jvm.Cond.static ({ cls := "IcehighwayLaw", name := "told", desc := "(LIcehighway;II[J)I" } : Jvm.MethodName)) ∈ WL := WL_t (in_tables_1_3 (List.mem_of_getElem? (i := 196) rfl)) rfl
theorem q677 : (Jvm.Cond.codeWith ({ cls := "IcehighwayLaw", name := "told", desc := "(LIcehighway;II[J)I" } : Jvm.MethodName) method_18_code (5 : Nat) (Option.some Jvm.ClassFile.FieldType.int) [((0 : Nat), (10 : Nat), (13 : Nat), (27 : Nat)), ((0 : Nat), (10 : Nat), (17 : Nat), (13 : Nat))]) ∈ WL := WL_t (in_tables_1_3 (List.mem_of_getElem? (i := 197) rfl)) rfl
theorem q678 : (Jvm.Cond.methodLink "IcehighwayLaw" (65 : Nat) ({ cls := "Icehighway", name := "told", desc := "(II)I" } : Jvm.MethodName)) ∈ WL := WL_t (in_tables_1_3 (List.mem_of_getElem? (i := 198) rfl)) rfl
theorem q679 : (Jvm.Cond.instanceMethod ({ cls := "Icehighway", name := "told", desc := "(II)I" } : Jvm.MethodName)) ∈ WL := WL_t (in_tables_1_3 (List.mem_of_getElem? (i := 199) rfl)) rfl
theorem q680 : (Jvm.Cond.selects "Icehighway" ({ cls := "Icehighway", name := "told", desc := "(II)I" } : Jvm.MethodName) ({ cls := "Icehighway", name := "told", desc := "(II)I" } : Jvm.MethodName)) ∈ WL := WL_t (in_tables_1_3 (List.mem_of_getElem? (i := 200) rfl)) rfl
theorem q681 : (Jvm.Cond.code ({ cls := "Icehighway", name := "told", desc := "(II)I" } : Jvm.MethodName) prog_1_method_18_code (4 : Nat) (Option.some Jvm.ClassFile.FieldType.int)) ∈ WL := WL_t (in_tables_1_3 (List.mem_of_getElem? (i := 201) rfl)) rfl
theorem q682 : (Jvm.Cond.methodLink "IcehighwayLaw" (163 : Nat) ({ cls := "IcehighwayLaw", name := "thickness", desc := "(LIcehighway;IZ[D)I" } : Jvm.MethodName)) ∈ WL := WL_t (in_tables_1_3 (List.mem_of_getElem? (i := 202) rfl)) rfl
theorem q683 : (Jvm.Cond.static ({ cls := "IcehighwayLaw", name := "thickness", desc := "(LIcehighway;IZ[D)I" } : Jvm.MethodName)) ∈ WL := WL_t (in_tables_1_3 (List.mem_of_getElem? (i := 203) rfl)) rfl
theorem q684 : (Jvm.Cond.codeWith ({ cls := "IcehighwayLaw", name := "thickness", desc := "(LIcehighway;IZ[D)I" } : Jvm.MethodName) method_19_code (5 : Nat) (Option.some Jvm.ClassFile.FieldType.int) [((0 : Nat), (9 : Nat), (12 : Nat), (27 : Nat))]) ∈ WL := WL_t (in_tables_1_3 (List.mem_of_getElem? (i := 204) rfl)) rfl
theorem q685 : (Jvm.Cond.methodLink "IcehighwayLaw" (68 : Nat) ({ cls := "Icehighway", name := "thickness", desc := "(IZ)D" } : Jvm.MethodName)) ∈ WL := WL_t (in_tables_1_3 (List.mem_of_getElem? (i := 205) rfl)) rfl
theorem q686 : (Jvm.Cond.instanceMethod ({ cls := "Icehighway", name := "thickness", desc := "(IZ)D" } : Jvm.MethodName)) ∈ WL := WL_t (in_tables_1_3 (List.mem_of_getElem? (i := 206) rfl)) rfl
theorem q687 : (Jvm.Cond.selects "Icehighway" ({ cls := "Icehighway", name := "thickness", desc := "(IZ)D" } : Jvm.MethodName) ({ cls := "Icehighway", name := "thickness", desc := "(IZ)D" } : Jvm.MethodName)) ∈ WL := WL_t (in_tables_1_3 (List.mem_of_getElem? (i := 207) rfl)) rfl
theorem q688 : (Jvm.Cond.code ({ cls := "Icehighway", name := "thickness", desc := "(IZ)D" } : Jvm.MethodName) prog_1_method_19_code (3 : Nat) (Option.some Jvm.ClassFile.FieldType.double)) ∈ WL := WL_t (in_tables_1_3 (List.mem_of_getElem? (i := 208) rfl)) rfl
theorem q689 : (Jvm.Cond.methodLink "Icehighway" (179 : Nat) ({ cls := "Icehighway$Piece", name := "thicknessAs", desc := "(Z)D" } : Jvm.MethodName)) ∈ WL := WL_t (in_tables_1_3 (List.mem_of_getElem? (i := 209) rfl)) rfl
theorem q690 : (Jvm.Cond.methodLink "IcehighwayLaw" (167 : Nat) ({ cls := "IcehighwayLaw", name := "bears", desc := "(LIcehighway;IZ[J)I" } : Jvm.MethodName)) ∈ WL := WL_t (in_tables_1_3 (List.mem_of_getElem? (i := 210) rfl)) rfl
theorem q691 : (Jvm.Cond.static ({ cls := "IcehighwayLaw", name := "bears", desc := "(LIcehighway;IZ[J)I" } : Jvm.MethodName)) ∈ WL := WL_t (in_tables_1_3 (List.mem_of_getElem? (i := 211) rfl)) rfl
theorem q692 : (Jvm.Cond.codeWith ({ cls := "IcehighwayLaw", name := "bears", desc := "(LIcehighway;IZ[J)I" } : Jvm.MethodName) method_20_code (5 : Nat) (Option.some Jvm.ClassFile.FieldType.int) [((0 : Nat), (10 : Nat), (13 : Nat), (27 : Nat))]) ∈ WL := WL_t (in_tables_1_3 (List.mem_of_getElem? (i := 212) rfl)) rfl
theorem q693 : (Jvm.Cond.methodLink "IcehighwayLaw" (72 : Nat) ({ cls := "Icehighway", name := "bears", desc := "(IZ)I" } : Jvm.MethodName)) ∈ WL := WL_t (in_tables_1_3 (List.mem_of_getElem? (i := 213) rfl)) rfl
theorem q694 : (Jvm.Cond.instanceMethod ({ cls := "Icehighway", name := "bears", desc := "(IZ)I" } : Jvm.MethodName)) ∈ WL := WL_t (in_tables_1_3 (List.mem_of_getElem? (i := 214) rfl)) rfl
theorem q695 : (Jvm.Cond.selects "Icehighway" ({ cls := "Icehighway", name := "bears", desc := "(IZ)I" } : Jvm.MethodName) ({ cls := "Icehighway", name := "bears", desc := "(IZ)I" } : Jvm.MethodName)) ∈ WL := WL_t (in_tables_1_3 (List.mem_of_getElem? (i := 215) rfl)) rfl
theorem q696 : (Jvm.Cond.code ({ cls := "Icehighway", name := "bears", desc := "(IZ)I" } : Jvm.MethodName) prog_1_method_20_code (3 : Nat) (Option.some Jvm.ClassFile.FieldType.int)) ∈ WL := WL_t (in_tables_1_3 (List.mem_of_getElem? (i := 216) rfl)) rfl
theorem q697 : (Jvm.Cond.methodLink "IcehighwayLaw" (171 : Nat) ({ cls := "IcehighwayLaw", name := "ofVehicle", desc := "(LIcehighway;II[J)I" } : Jvm.MethodName)) ∈ WL := WL_t (in_tables_1_3 (List.mem_of_getElem? (i := 217) rfl)) rfl
theorem q698 : (Jvm.Cond.static ({ cls := "IcehighwayLaw", name := "ofVehicle", desc := "(LIcehighway;II[J)I" } : Jvm.MethodName)) ∈ WL := WL_t (in_tables_1_3 (List.mem_of_getElem? (i := 218) rfl)) rfl
theorem q699 : (Jvm.Cond.codeWith ({ cls := "IcehighwayLaw", name := "ofVehicle", desc := "(LIcehighway;II[J)I" } : Jvm.MethodName) method_21_code (5 : Nat) (Option.some Jvm.ClassFile.FieldType.int) [((0 : Nat), (10 : Nat), (13 : Nat), (27 : Nat)), ((0 : Nat), (10 : Nat), (17 : Nat), (13 : Nat))]) ∈ WL := WL_t (in_tables_1_3 (List.mem_of_getElem? (i := 219) rfl)) rfl
theorem q700 : (Jvm.Cond.methodLink "IcehighwayLaw" (76 : Nat) ({ cls := "Icehighway", name := "ofVehicle", desc := "(II)I" } : Jvm.MethodName)) ∈ WL := WL_t (in_tables_1_3 (List.mem_of_getElem? (i := 220) rfl)) rfl
theorem q701 : (Jvm.Cond.instanceMethod ({ cls := "Icehighway", name := "ofVehicle", desc := "(II)I" } : Jvm.MethodName)) ∈ WL := WL_t (in_tables_1_3 (List.mem_of_getElem? (i := 221) rfl)) rfl
theorem q702 : (Jvm.Cond.selects "Icehighway" ({ cls := "Icehighway", name := "ofVehicle", desc := "(II)I" } : Jvm.MethodName) ({ cls := "Icehighway", name := "ofVehicle", desc := "(II)I" } : Jvm.MethodName)) ∈ WL := WL_t (in_tables_1_3 (List.mem_of_getElem? (i := 222) rfl)) rfl
theorem q703 : (Jvm.Cond.code ({ cls := "Icehighway", name := "ofVehicle", desc := "(II)I" } : Jvm.MethodName) prog_1_method_21_code (4 : Nat) (Option.some Jvm.ClassFile.FieldType.int)) ∈ WL := WL_t (in_tables_1_3 (List.mem_of_getElem? (i := 223) rfl)) rfl
theorem q704 : (Jvm.Cond.methodLink "IcehighwayLaw" (174 : Nat) ({ cls := "IcehighwayLaw", name := "why", desc := "(LIcehighway;I[J)I" } : Jvm.MethodName)) ∈ WL := WL_t (in_tables_1_3 (List.mem_of_getElem? (i := 224) rfl)) rfl
theorem q705 : (Jvm.Cond.static ({ cls := "IcehighwayLaw", name := "why", desc := "(LIcehighway;I[J)I" } : Jvm.MethodName)) ∈ WL := WL_t (in_tables_1_3 (List.mem_of_getElem? (i := 225) rfl)) rfl
theorem q706 : (Jvm.Cond.codeWith ({ cls := "IcehighwayLaw", name := "why", desc := "(LIcehighway;I[J)I" } : Jvm.MethodName) method_22_code (4 : Nat) (Option.some Jvm.ClassFile.FieldType.int) [((0 : Nat), (9 : Nat), (12 : Nat), (27 : Nat))]) ∈ WL := WL_t (in_tables_1_3 (List.mem_of_getElem? (i := 226) rfl)) rfl
theorem q707 : (Jvm.Cond.methodLink "IcehighwayLaw" (79 : Nat) ({ cls := "Icehighway", name := "why", desc := "(I)I" } : Jvm.MethodName)) ∈ WL := WL_t (in_tables_1_3 (List.mem_of_getElem? (i := 227) rfl)) rfl
theorem q708 : (Jvm.Cond.instanceMethod ({ cls := "Icehighway", name := "why", desc := "(I)I" } : Jvm.MethodName)) ∈ WL := WL_t (in_tables_1_3 (List.mem_of_getElem? (i := 228) rfl)) rfl
theorem q709 : (Jvm.Cond.selects "Icehighway" ({ cls := "Icehighway", name := "why", desc := "(I)I" } : Jvm.MethodName) ({ cls := "Icehighway", name := "why", desc := "(I)I" } : Jvm.MethodName)) ∈ WL := WL_t (in_tables_1_3 (List.mem_of_getElem? (i := 229) rfl)) rfl
theorem q710 : (Jvm.Cond.code ({ cls := "Icehighway", name := "why", desc := "(I)I" } : Jvm.MethodName) prog_1_method_22_code (3 : Nat) (Option.some Jvm.ClassFile.FieldType.int)) ∈ WL := WL_t (in_tables_1_3 (List.mem_of_getElem? (i := 230) rfl)) rfl
theorem q711 : (Jvm.Cond.methodLink "IcehighwayLaw" (177 : Nat) ({ cls := "IcehighwayLaw", name := "speed", desc := "(LIcehighway;II[J)I" } : Jvm.MethodName)) ∈ WL := WL_t (in_tables_1_3 (List.mem_of_getElem? (i := 231) rfl)) rfl
theorem q712 : (Jvm.Cond.static ({ cls := "IcehighwayLaw", name := "speed", desc := "(LIcehighway;II[J)I" } : Jvm.MethodName)) ∈ WL := WL_t (in_tables_1_3 (List.mem_of_getElem? (i := 232) rfl)) rfl
theorem q713 : (Jvm.Cond.codeWith ({ cls := "IcehighwayLaw", name := "speed", desc := "(LIcehighway;II[J)I" } : Jvm.MethodName) method_23_code (5 : Nat) (Option.some Jvm.ClassFile.FieldType.int) [((0 : Nat), (10 : Nat), (13 : Nat), (27 : Nat))]) ∈ WL := WL_t (in_tables_1_3 (List.mem_of_getElem? (i := 233) rfl)) rfl
theorem q714 : (Jvm.Cond.methodLink "IcehighwayLaw" (82 : Nat) ({ cls := "Icehighway", name := "speed", desc := "(II)I" } : Jvm.MethodName)) ∈ WL := WL_t (in_tables_1_3 (List.mem_of_getElem? (i := 234) rfl)) rfl
theorem q715 : (Jvm.Cond.instanceMethod ({ cls := "Icehighway", name := "speed", desc := "(II)I" } : Jvm.MethodName)) ∈ WL := WL_t (in_tables_1_3 (List.mem_of_getElem? (i := 235) rfl)) rfl
theorem q716 : (Jvm.Cond.selects "Icehighway" ({ cls := "Icehighway", name := "speed", desc := "(II)I" } : Jvm.MethodName) ({ cls := "Icehighway", name := "speed", desc := "(II)I" } : Jvm.MethodName)) ∈ WL := WL_t (in_tables_1_3 (List.mem_of_getElem? (i := 236) rfl)) rfl
theorem q717 : (Jvm.Cond.code ({ cls := "Icehighway", name := "speed", desc := "(II)I" } : Jvm.MethodName) prog_1_method_23_code (3 : Nat) (Option.some Jvm.ClassFile.FieldType.int)) ∈ WL := WL_t (in_tables_1_3 (List.mem_of_getElem? (i := 237) rfl)) rfl
theorem q718 : (Jvm.Cond.methodLink "Icehighway" (203 : Nat) ({ cls := "Icehighway$Piece", name := "speedOf", desc := "(LIcehighway$Vehicle;)I" } : Jvm.MethodName)) ∈ WL := WL_t (in_tables_1_3 (List.mem_of_getElem? (i := 238) rfl)) rfl
theorem q719 : (Jvm.Cond.methodLink "IcehighwayLaw" (180 : Nat) ({ cls := "IcehighwayLaw", name := "minutes", desc := "(LIcehighway;II[J)I" } : Jvm.MethodName)) ∈ WL := WL_t (in_tables_1_3 (List.mem_of_getElem? (i := 239) rfl)) rfl
theorem q720 : (Jvm.Cond.static ({ cls := "IcehighwayLaw", name := "minutes", desc := "(LIcehighway;II[J)I" } : Jvm.MethodName)) ∈ WL := WL_t (in_tables_1_4 (List.mem_of_getElem? (i := 0) rfl)) rfl
theorem q721 : (Jvm.Cond.codeWith ({ cls := "IcehighwayLaw", name := "minutes", desc := "(LIcehighway;II[J)I" } : Jvm.MethodName) method_24_code (5 : Nat) (Option.some Jvm.ClassFile.FieldType.int) [((0 : Nat), (10 : Nat), (13 : Nat), (27 : Nat))]) ∈ WL := WL_t (in_tables_1_4 (List.mem_of_getElem? (i := 1) rfl)) rfl
theorem q722 : (Jvm.Cond.methodLink "IcehighwayLaw" (85 : Nat) ({ cls := "Icehighway", name := "minutes", desc := "(II)I" } : Jvm.MethodName)) ∈ WL := WL_t (in_tables_1_4 (List.mem_of_getElem? (i := 2) rfl)) rfl
theorem q723 : (Jvm.Cond.instanceMethod ({ cls := "Icehighway", name := "minutes", desc := "(II)I" } : Jvm.MethodName)) ∈ WL := WL_t (in_tables_1_4 (List.mem_of_getElem? (i := 3) rfl)) rfl
theorem q724 : (Jvm.Cond.selects "Icehighway" ({ cls := "Icehighway", name := "minutes", desc := "(II)I" } : Jvm.MethodName) ({ cls := "Icehighway", name := "minutes", desc := "(II)I" } : Jvm.MethodName)) ∈ WL := WL_t (in_tables_1_4 (List.mem_of_getElem? (i := 4) rfl)) rfl
theorem q725 : (Jvm.Cond.code ({ cls := "Icehighway", name := "minutes", desc := "(II)I" } : Jvm.MethodName) prog_1_method_24_code (3 : Nat) (Option.some Jvm.ClassFile.FieldType.int)) ∈ WL := WL_t (in_tables_1_4 (List.mem_of_getElem? (i := 5) rfl)) rfl
theorem q726 : (Jvm.Cond.methodLink "IcehighwayLaw" (183 : Nat) ({ cls := "IcehighwayLaw", name := "minutesAnew", desc := "(LIcehighway;II[J)I" } : Jvm.MethodName)) ∈ WL := WL_t (in_tables_1_4 (List.mem_of_getElem? (i := 6) rfl)) rfl
theorem q727 : (Jvm.Cond.static ({ cls := "IcehighwayLaw", name := "minutesAnew", desc := "(LIcehighway;II[J)I" } : Jvm.MethodName)) ∈ WL := WL_t (in_tables_1_4 (List.mem_of_getElem? (i := 7) rfl)) rfl
theorem q728 : (Jvm.Cond.codeWith ({ cls := "IcehighwayLaw", name := "minutesAnew", desc := "(LIcehighway;II[J)I" } : Jvm.MethodName) method_25_code (5 : Nat) (Option.some Jvm.ClassFile.FieldType.int) [((0 : Nat), (10 : Nat), (13 : Nat), (27 : Nat))]) ∈ WL := WL_t (in_tables_1_4 (List.mem_of_getElem? (i := 8) rfl)) rfl
theorem q729 : (Jvm.Cond.methodLink "IcehighwayLaw" (88 : Nat) ({ cls := "Icehighway", name := "minutesAnew", desc := "(II)I" } : Jvm.MethodName)) ∈ WL := WL_t (in_tables_1_4 (List.mem_of_getElem? (i := 9) rfl)) rfl
theorem q730 : (Jvm.Cond.instanceMethod ({ cls := "Icehighway", name := "minutesAnew", desc := "(II)I" } : Jvm.MethodName)) ∈ WL := WL_t (in_tables_1_4 (List.mem_of_getElem? (i := 10) rfl)) rfl
theorem q731 : (Jvm.Cond.selects "Icehighway" ({ cls := "Icehighway", name := "minutesAnew", desc := "(II)I" } : Jvm.MethodName) ({ cls := "Icehighway", name := "minutesAnew", desc := "(II)I" } : Jvm.MethodName)) ∈ WL := WL_t (in_tables_1_4 (List.mem_of_getElem? (i := 11) rfl)) rfl
theorem q732 : (Jvm.Cond.code ({ cls := "Icehighway", name := "minutesAnew", desc := "(II)I" } : Jvm.MethodName) prog_1_method_25_code (7 : Nat) (Option.some Jvm.ClassFile.FieldType.int)) ∈ WL := WL_t (in_tables_1_4 (List.mem_of_getElem? (i := 12) rfl)) rfl
theorem q733 : (Jvm.Cond.methodLink "IcehighwayLaw" (186 : Nat) ({ cls := "IcehighwayLaw", name := "kilos", desc := "(LIcehighway;II[J)I" } : Jvm.MethodName)) ∈ WL := WL_t (in_tables_1_4 (List.mem_of_getElem? (i := 13) rfl)) rfl
theorem q734 : (Jvm.Cond.static ({ cls := "IcehighwayLaw", name := "kilos", desc := "(LIcehighway;II[J)I" } : Jvm.MethodName)) ∈ WL := WL_t (in_tables_1_4 (List.mem_of_getElem? (i := 14) rfl)) rfl
theorem q735 : (Jvm.Cond.codeWith ({ cls := "IcehighwayLaw", name := "kilos", desc := "(LIcehighway;II[J)I" } : Jvm.MethodName) method_26_code (5 : Nat) (Option.some Jvm.ClassFile.FieldType.int) [((0 : Nat), (10 : Nat), (13 : Nat), (27 : Nat)), ((0 : Nat), (10 : Nat), (17 : Nat), (13 : Nat))]) ∈ WL := WL_t (in_tables_1_4 (List.mem_of_getElem? (i := 15) rfl)) rfl
theorem q736 : (Jvm.Cond.methodLink "IcehighwayLaw" (91 : Nat) ({ cls := "Icehighway", name := "kilos", desc := "(II)I" } : Jvm.MethodName)) ∈ WL := WL_t (in_tables_1_4 (List.mem_of_getElem? (i := 16) rfl)) rfl
theorem q737 : (Jvm.Cond.instanceMethod ({ cls := "Icehighway", name := "kilos", desc := "(II)I" } : Jvm.MethodName)) ∈ WL := WL_t (in_tables_1_4 (List.mem_of_getElem? (i := 17) rfl)) rfl
theorem q738 : (Jvm.Cond.selects "Icehighway" ({ cls := "Icehighway", name := "kilos", desc := "(II)I" } : Jvm.MethodName) ({ cls := "Icehighway", name := "kilos", desc := "(II)I" } : Jvm.MethodName)) ∈ WL := WL_t (in_tables_1_4 (List.mem_of_getElem? (i := 18) rfl)) rfl
theorem q739 : (Jvm.Cond.code ({ cls := "Icehighway", name := "kilos", desc := "(II)I" } : Jvm.MethodName) prog_1_method_26_code (3 : Nat) (Option.some Jvm.ClassFile.FieldType.int)) ∈ WL := WL_t (in_tables_1_4 (List.mem_of_getElem? (i := 19) rfl)) rfl
theorem q740 : (Jvm.Cond.methodLink "Icehighway" (212 : Nat) ({ cls := "Icehighway", name := "kilosInVehicles", desc := "(IZ)I" } : Jvm.MethodName)) ∈ WL := WL_t (in_tables_1_4 (List.mem_of_getElem? (i := 20) rfl)) rfl
theorem q741 : (Jvm.Cond.privateMethod ({ cls := "Icehighway", name := "kilosInVehicles", desc := "(IZ)I" } : Jvm.MethodName)) ∈ XL := XL_t (in_tables_1_4 (List.mem_of_getElem? (i := 21) rfl)) rfl
theorem q742 : (Jvm.Cond.instanceMethod ({ cls := "Icehighway", name := "kilosInVehicles", desc := "(IZ)I" } : Jvm.MethodName)) ∈ WL := WL_t (in_tables_1_4 (List.mem_of_getElem? (i := 22) rfl)) rfl
theorem q743 : (Jvm.Cond.code ({ cls := "Icehighway", name := "kilosInVehicles", desc := "(IZ)I" } : Jvm.MethodName) prog_1_method_33_code (6 : Nat) (Option.some Jvm.ClassFile.FieldType.int)) ∈ WL := WL_t (in_tables_1_4 (List.mem_of_getElem? (i := 23) rfl)) rfl
theorem q744 : (Jvm.Cond.methodLink "IcehighwayLaw" (189 : Nat) ({ cls := "IcehighwayLaw", name := "kilosAnew", desc := "(LIcehighway;I[J)I" } : Jvm.MethodName)) ∈ WL := WL_t (in_tables_1_4 (List.mem_of_getElem? (i := 24) rfl)) rfl
theorem q745 : (Jvm.Cond.static ({ cls := "IcehighwayLaw", name := "kilosAnew", desc := "(LIcehighway;I[J)I" } : Jvm.MethodName)) ∈ WL := WL_t (in_tables_1_4 (List.mem_of_getElem? (i := 25) rfl)) rfl
theorem q746 : (Jvm.Cond.codeWith ({ cls := "IcehighwayLaw", name := "kilosAnew", desc := "(LIcehighway;I[J)I" } : Jvm.MethodName) method_27_code (4 : Nat) (Option.some Jvm.ClassFile.FieldType.int) [((0 : Nat), (9 : Nat), (12 : Nat), (27 : Nat))]) ∈ WL := WL_t (in_tables_1_4 (List.mem_of_getElem? (i := 26) rfl)) rfl
theorem q747 : (Jvm.Cond.methodLink "IcehighwayLaw" (94 : Nat) ({ cls := "Icehighway", name := "kilosAnew", desc := "(I)I" } : Jvm.MethodName)) ∈ WL := WL_t (in_tables_1_4 (List.mem_of_getElem? (i := 27) rfl)) rfl
theorem q748 : (Jvm.Cond.instanceMethod ({ cls := "Icehighway", name := "kilosAnew", desc := "(I)I" } : Jvm.MethodName)) ∈ WL := WL_t (in_tables_1_4 (List.mem_of_getElem? (i := 28) rfl)) rfl
theorem q749 : (Jvm.Cond.selects "Icehighway" ({ cls := "Icehighway", name := "kilosAnew", desc := "(I)I" } : Jvm.MethodName) ({ cls := "Icehighway", name := "kilosAnew", desc := "(I)I" } : Jvm.MethodName)) ∈ WL := WL_t (in_tables_1_4 (List.mem_of_getElem? (i := 29) rfl)) rfl
theorem q750 : (Jvm.Cond.code ({ cls := "Icehighway", name := "kilosAnew", desc := "(I)I" } : Jvm.MethodName) prog_1_method_27_code (5 : Nat) (Option.some Jvm.ClassFile.FieldType.int)) ∈ WL := WL_t (in_tables_1_4 (List.mem_of_getElem? (i := 30) rfl)) rfl
theorem q751 : (Jvm.Cond.classLink "IcehighwayLaw" (98 : Nat) "IcehighwayModel") ∈ WL := WL_t (in_tables_1_4 (List.mem_of_getElem? (i := 31) rfl)) rfl
theorem q752 : (Jvm.Cond.instantiable "IcehighwayModel" (30 : Nat)) ∈ WL := WL_t (in_tables_1_4 (List.mem_of_getElem? (i := 32) rfl)) rfl
theorem q753 : (Jvm.Cond.methodLink "IcehighwayLaw" (100 : Nat) ({ cls := "IcehighwayModel", name := "<init>", desc := "()V" } : Jvm.MethodName)) ∈ WL := WL_t (in_tables_1_4 (List.mem_of_getElem? (i := 33) rfl)) rfl
theorem q754 : (Jvm.Cond.instanceMethod ({ cls := "IcehighwayModel", name := "<init>", desc := "()V" } : Jvm.MethodName)) ∈ WL := WL_t (in_tables_1_4 (List.mem_of_getElem? (i := 34) rfl)) rfl
theorem q755 : (Jvm.Cond.code ({ cls := "IcehighwayModel", name := "<init>", desc := "()V" } : Jvm.MethodName) prog_6_method_1_code (1 : Nat) (Option.none : Option Jvm.ClassFile.FieldType)) ∈ WL := WL_t (in_tables_1_4 (List.mem_of_getElem? (i := 35) rfl)) rfl
theorem q756 : (Jvm.Cond.methodLink "IcehighwayModel" (1 : Nat) ({ cls := "java/lang/Object", name := "<init>", desc := "()V" } : Jvm.MethodName)) ∈ WL := WL_t (in_tables_1_4 (List.mem_of_getElem? (i := 36) rfl)) rfl
theorem q757 : (Jvm.Cond.fieldLink "IcehighwayModel" (167 : Nat) "IcehighwayModel" "minute" "I") ∈ WL := WL_t (in_tables_1_4 (List.mem_of_getElem? (i := 37) rfl)) rfl
theorem q758 : (Jvm.Cond.fieldLink "IcehighwayModel" (106 : Nat) "IcehighwayModel" "cold" "I") ∈ WL := WL_t (in_tables_1_4 (List.mem_of_getElem? (i := 38) rfl)) rfl
theorem q759 : (Jvm.Cond.fieldLink "IcehighwayModel" (7 : Nat) "IcehighwayModel" "gap" "I") ∈ WL := WL_t (in_tables_1_4 (List.mem_of_getElem? (i := 39) rfl)) rfl
theorem q760 : (Jvm.Cond.fieldLink "IcehighwayModel" (91 : Nat) "IcehighwayModel" "pieces" "I") ∈ WL := WL_t (in_tables_1_4 (List.mem_of_getElem? (i := 40) rfl)) rfl
theorem q761 : (Jvm.Cond.fieldLink "IcehighwayModel" (13 : Nat) "IcehighwayModel" "kind" "[I") ∈ WL := WL_t (in_tables_1_4 (List.mem_of_getElem? (i := 41) rfl)) rfl
theorem q762 : (Jvm.Cond.fieldLink "IcehighwayModel" (17 : Nat) "IcehighwayModel" "metres" "[I") ∈ WL := WL_t (in_tables_1_4 (List.mem_of_getElem? (i := 42) rfl)) rfl
theorem q763 : (Jvm.Cond.fieldLink "IcehighwayModel" (20 : Nat) "IcehighwayModel" "depth" "[I") ∈ WL := WL_t (in_tables_1_4 (List.mem_of_getElem? (i := 43) rfl)) rfl
theorem q764 : (Jvm.Cond.fieldLink "IcehighwayModel" (23 : Nat) "IcehighwayModel" "black" "[I") ∈ WL := WL_t (in_tables_1_4 (List.mem_of_getElem? (i := 44) rfl)) rfl
theorem q765 : (Jvm.Cond.fieldLink "IcehighwayModel" (26 : Nat) "IcehighwayModel" "white" "[I") ∈ WL := WL_t (in_tables_1_4 (List.mem_of_getElem? (i := 45) rfl)) rfl
theorem q766 : (Jvm.Cond.fieldLink "IcehighwayModel" (29 : Nat) "IcehighwayModel" "water" "[I") ∈ WL := WL_t (in_tables_1_4 (List.mem_of_getElem? (i := 46) rfl)) rfl
theorem q767 : (Jvm.Cond.fieldLink "IcehighwayModel" (32 : Nat) "IcehighwayModel" "snow" "[I") ∈ WL := WL_t (in_tables_1_4 (List.mem_of_getElem? (i := 47) rfl)) rfl
theorem q768 : (Jvm.Cond.fieldLink "IcehighwayModel" (35 : Nat) "IcehighwayModel" "crack" "[I") ∈ WL := WL_t (in_tables_1_4 (List.mem_of_getElem? (i := 48) rfl)) rfl
theorem q769 : (Jvm.Cond.fieldLink "IcehighwayModel" (38 : Nat) "IcehighwayModel" "open" "[I") ∈ WL := WL_t (in_tables_1_4 (List.mem_of_getElem? (i := 49) rfl)) rfl
theorem q770 : (Jvm.Cond.fieldLink "IcehighwayModel" (41 : Nat) "IcehighwayModel" "limit" "[I") ∈ WL := WL_t (in_tables_1_4 (List.mem_of_getElem? (i := 50) rfl)) rfl
theorem q771 : (Jvm.Cond.fieldLink "IcehighwayModel" (44 : Nat) "IcehighwayModel" "known" "[D") ∈ WL := WL_t (in_tables_1_4 (List.mem_of_getElem? (i := 51) rfl)) rfl
theorem q772 : (Jvm.Cond.fieldLink "IcehighwayModel" (48 : Nat) "IcehighwayModel" "came" "[I") ∈ WL := WL_t (in_tables_1_4 (List.mem_of_getElem? (i := 52) rfl)) rfl
theorem q773 : (Jvm.Cond.fieldLink "IcehighwayModel" (98 : Nat) "IcehighwayModel" "vehicles" "I") ∈ WL := WL_t (in_tables_1_4 (List.mem_of_getElem? (i := 53) rfl)) rfl
theorem q774 : (Jvm.Cond.fieldLink "IcehighwayModel" (51 : Nat) "IcehighwayModel" "empty" "[I") ∈ WL := WL_t (in_tables_1_4 (List.mem_of_getElem? (i := 54) rfl)) rfl
theorem q775 : (Jvm.Cond.fieldLink "IcehighwayModel" (54 : Nat) "IcehighwayModel" "carries" "[I") ∈ WL := WL_t (in_tables_1_4 (List.mem_of_getElem? (i := 55) rfl)) rfl
theorem q776 : (Jvm.Cond.fieldLink "IcehighwayModel" (57 : Nat) "IcehighwayModel" "fast" "[I") ∈ WL := WL_t (in_tables_1_4 (List.mem_of_getElem? (i := 56) rfl)) rfl
theorem q777 : (Jvm.Cond.fieldLink "IcehighwayModel" (60 : Nat) "IcehighwayModel" "where" "[I") ∈ WL := WL_t (in_tables_1_4 (List.mem_of_getElem? (i := 57) rfl)) rfl
theorem q778 : (Jvm.Cond.fieldLink "IcehighwayModel" (63 : Nat) "IcehighwayModel" "at" "[I") ∈ WL := WL_t (in_tables_1_4 (List.mem_of_getElem? (i := 58) rfl)) rfl
theorem q779 : (Jvm.Cond.fieldLink "IcehighwayModel" (66 : Nat) "IcehighwayModel" "toMine" "[Z") ∈ WL := WL_t (in_tables_1_4 (List.mem_of_getElem? (i := 59) rfl)) rfl
theorem q780 : (Jvm.Cond.fieldLink "IcehighwayModel" (70 : Nat) "IcehighwayModel" "over" "[I") ∈ WL := WL_t (in_tables_1_4 (List.mem_of_getElem? (i := 60) rfl)) rfl
theorem q781 : (Jvm.Cond.fieldLink "IcehighwayModel" (73 : Nat) "IcehighwayModel" "load" "[I") ∈ WL := WL_t (in_tables_1_4 (List.mem_of_getElem? (i := 61) rfl)) rfl
theorem q782 : (Jvm.Cond.fieldLink "IcehighwayModel" (76 : Nat) "IcehighwayModel" "goods" "[I") ∈ WL := WL_t (in_tables_1_4 (List.mem_of_getElem? (i := 62) rfl)) rfl
theorem q783 : (Jvm.Cond.fieldLink "IcehighwayModel" (79 : Nat) "IcehighwayModel" "taken" "[I") ∈ WL := WL_t (in_tables_1_4 (List.mem_of_getElem? (i := 63) rfl)) rfl
theorem q784 : (Jvm.Cond.fieldLink "IcehighwayModel" (82 : Nat) "IcehighwayModel" "brought" "[I") ∈ WL := WL_t (in_tables_1_4 (List.mem_of_getElem? (i := 64) rfl)) rfl
theorem q785 : (Jvm.Cond.fieldLink "IcehighwayModel" (85 : Nat) "IcehighwayModel" "ordered" "[I") ∈ WL := WL_t (in_tables_1_4 (List.mem_of_getElem? (i := 65) rfl)) rfl
theorem q786 : (Jvm.Cond.fieldLink "IcehighwayModel" (88 : Nat) "IcehighwayModel" "thrown" "I") ∈ WL := WL_t (in_tables_1_4 (List.mem_of_getElem? (i := 66) rfl)) rfl
theorem q787 : (Jvm.Cond.lays "IcehighwayModel" "IcehighwayModel" "minute" "I") ∈ WL := WL_t (in_tables_1_4 (List.mem_of_getElem? (i := 67) rfl)) rfl
theorem q789 : (Jvm.Cond.lays "IcehighwayModel" "IcehighwayModel" "cold" "I") ∈ WL := WL_t (in_tables_1_4 (List.mem_of_getElem? (i := 69) rfl)) rfl
theorem q791 : (Jvm.Cond.lays "IcehighwayModel" "IcehighwayModel" "gap" "I") ∈ WL := WL_t (in_tables_1_4 (List.mem_of_getElem? (i := 71) rfl)) rfl
theorem q793 : (Jvm.Cond.lays "IcehighwayModel" "IcehighwayModel" "pieces" "I") ∈ WL := WL_t (in_tables_1_4 (List.mem_of_getElem? (i := 73) rfl)) rfl
theorem q795 : (Jvm.Cond.laysFinal "IcehighwayModel" "IcehighwayModel" "kind" "[I") ∈ WL := WL_t (in_tables_1_4 (List.mem_of_getElem? (i := 75) rfl)) rfl
theorem q797 : (Jvm.Cond.laysFinal "IcehighwayModel" "IcehighwayModel" "metres" "[I") ∈ WL := WL_t (in_tables_1_4 (List.mem_of_getElem? (i := 77) rfl)) rfl
theorem q799 : (Jvm.Cond.laysFinal "IcehighwayModel" "IcehighwayModel" "depth" "[I") ∈ WL := WL_t (in_tables_1_4 (List.mem_of_getElem? (i := 79) rfl)) rfl
theorem q801 : (Jvm.Cond.laysFinal "IcehighwayModel" "IcehighwayModel" "black" "[I") ∈ WL := WL_t (in_tables_1_4 (List.mem_of_getElem? (i := 81) rfl)) rfl
theorem q803 : (Jvm.Cond.laysFinal "IcehighwayModel" "IcehighwayModel" "white" "[I") ∈ WL := WL_t (in_tables_1_4 (List.mem_of_getElem? (i := 83) rfl)) rfl
theorem q805 : (Jvm.Cond.laysFinal "IcehighwayModel" "IcehighwayModel" "water" "[I") ∈ WL := WL_t (in_tables_1_4 (List.mem_of_getElem? (i := 85) rfl)) rfl
theorem q807 : (Jvm.Cond.laysFinal "IcehighwayModel" "IcehighwayModel" "snow" "[I") ∈ WL := WL_t (in_tables_1_4 (List.mem_of_getElem? (i := 87) rfl)) rfl
theorem q809 : (Jvm.Cond.laysFinal "IcehighwayModel" "IcehighwayModel" "crack" "[I") ∈ WL := WL_t (in_tables_1_4 (List.mem_of_getElem? (i := 89) rfl)) rfl
theorem q811 : (Jvm.Cond.laysFinal "IcehighwayModel" "IcehighwayModel" "open" "[I") ∈ WL := WL_t (in_tables_1_4 (List.mem_of_getElem? (i := 91) rfl)) rfl
theorem q813 : (Jvm.Cond.laysFinal "IcehighwayModel" "IcehighwayModel" "limit" "[I") ∈ WL := WL_t (in_tables_1_4 (List.mem_of_getElem? (i := 93) rfl)) rfl
theorem q815 : (Jvm.Cond.laysFinal "IcehighwayModel" "IcehighwayModel" "known" "[D") ∈ WL := WL_t (in_tables_1_4 (List.mem_of_getElem? (i := 95) rfl)) rfl
theorem q817 : (Jvm.Cond.laysFinal "IcehighwayModel" "IcehighwayModel" "came" "[I") ∈ WL := WL_t (in_tables_1_4 (List.mem_of_getElem? (i := 97) rfl)) rfl
theorem q819 : (Jvm.Cond.lays "IcehighwayModel" "IcehighwayModel" "vehicles" "I") ∈ WL := WL_t (in_tables_1_4 (List.mem_of_getElem? (i := 99) rfl)) rfl
theorem q821 : (Jvm.Cond.laysFinal "IcehighwayModel" "IcehighwayModel" "empty" "[I") ∈ WL := WL_t (in_tables_1_4 (List.mem_of_getElem? (i := 101) rfl)) rfl
theorem q823 : (Jvm.Cond.laysFinal "IcehighwayModel" "IcehighwayModel" "carries" "[I") ∈ WL := WL_t (in_tables_1_4 (List.mem_of_getElem? (i := 103) rfl)) rfl
theorem q825 : (Jvm.Cond.laysFinal "IcehighwayModel" "IcehighwayModel" "fast" "[I") ∈ WL := WL_t (in_tables_1_4 (List.mem_of_getElem? (i := 105) rfl)) rfl
theorem q827 : (Jvm.Cond.laysFinal "IcehighwayModel" "IcehighwayModel" "where" "[I") ∈ WL := WL_t (in_tables_1_4 (List.mem_of_getElem? (i := 107) rfl)) rfl
theorem q829 : (Jvm.Cond.laysFinal "IcehighwayModel" "IcehighwayModel" "at" "[I") ∈ WL := WL_t (in_tables_1_4 (List.mem_of_getElem? (i := 109) rfl)) rfl
theorem q831 : (Jvm.Cond.laysFinal "IcehighwayModel" "IcehighwayModel" "toMine" "[Z") ∈ WL := WL_t (in_tables_1_4 (List.mem_of_getElem? (i := 111) rfl)) rfl
theorem q833 : (Jvm.Cond.laysFinal "IcehighwayModel" "IcehighwayModel" "over" "[I") ∈ WL := WL_t (in_tables_1_4 (List.mem_of_getElem? (i := 113) rfl)) rfl
theorem q835 : (Jvm.Cond.laysFinal "IcehighwayModel" "IcehighwayModel" "load" "[I") ∈ WL := WL_t (in_tables_1_4 (List.mem_of_getElem? (i := 115) rfl)) rfl
theorem q837 : (Jvm.Cond.laysFinal "IcehighwayModel" "IcehighwayModel" "goods" "[I") ∈ WL := WL_t (in_tables_1_4 (List.mem_of_getElem? (i := 117) rfl)) rfl
theorem q839 : (Jvm.Cond.laysFinal "IcehighwayModel" "IcehighwayModel" "taken" "[I") ∈ WL := WL_t (in_tables_1_4 (List.mem_of_getElem? (i := 119) rfl)) rfl
theorem q841 : (Jvm.Cond.laysFinal "IcehighwayModel" "IcehighwayModel" "brought" "[I") ∈ WL := WL_t (in_tables_1_4 (List.mem_of_getElem? (i := 121) rfl)) rfl
theorem q843 : (Jvm.Cond.laysFinal "IcehighwayModel" "IcehighwayModel" "ordered" "[I") ∈ WL := WL_t (in_tables_1_4 (List.mem_of_getElem? (i := 123) rfl)) rfl
theorem q845 : (Jvm.Cond.lays "IcehighwayModel" "IcehighwayModel" "thrown" "I") ∈ WL := WL_t (in_tables_1_4 (List.mem_of_getElem? (i := 125) rfl)) rfl
theorem q848 : (Jvm.Cond.arrayClass Jvm.ClassFile.FieldType.double) ∈ WL := WL_t (in_tables_1_4 (List.mem_of_getElem? (i := 128) rfl)) rfl
theorem q849 : (Jvm.Cond.arrayClass Jvm.ClassFile.FieldType.boolean) ∈ WL := WL_t (in_tables_1_4 (List.mem_of_getElem? (i := 129) rfl)) rfl
theorem q850 : (Jvm.Cond.methodLink "IcehighwayLaw" (107 : Nat) ({ cls := "IcehighwayModel", name := "thrown", desc := "()I" } : Jvm.MethodName)) ∈ WL := WL_t (in_tables_1_4 (List.mem_of_getElem? (i := 130) rfl)) rfl
theorem q851 : (Jvm.Cond.instanceMethod ({ cls := "IcehighwayModel", name := "thrown", desc := "()I" } : Jvm.MethodName)) ∈ WL := WL_t (in_tables_1_4 (List.mem_of_getElem? (i := 131) rfl)) rfl
theorem q852 : (Jvm.Cond.selects "IcehighwayModel" ({ cls := "IcehighwayModel", name := "thrown", desc := "()I" } : Jvm.MethodName) ({ cls := "IcehighwayModel", name := "thrown", desc := "()I" } : Jvm.MethodName)) ∈ WL := WL_t (in_tables_1_4 (List.mem_of_getElem? (i := 132) rfl)) rfl
theorem q853 : (Jvm.Cond.code ({ cls := "IcehighwayModel", name := "thrown", desc := "()I" } : Jvm.MethodName) prog_6_method_2_code (1 : Nat) (Option.some Jvm.ClassFile.FieldType.int)) ∈ WL := WL_t (in_tables_1_4 (List.mem_of_getElem? (i := 133) rfl)) rfl
theorem q854 : (Jvm.Cond.methodLink "IcehighwayLaw" (106 : Nat) ({ cls := "IcehighwayModel", name := "piece", desc := "(III)I" } : Jvm.MethodName)) ∈ WL := WL_t (in_tables_1_4 (List.mem_of_getElem? (i := 134) rfl)) rfl
theorem q855 : (Jvm.Cond.instanceMethod ({ cls := "IcehighwayModel", name := "piece", desc := "(III)I" } : Jvm.MethodName)) ∈ WL := WL_t (in_tables_1_4 (List.mem_of_getElem? (i := 135) rfl)) rfl
theorem q856 : (Jvm.Cond.selects "IcehighwayModel" ({ cls := "IcehighwayModel", name := "piece", desc := "(III)I" } : Jvm.MethodName) ({ cls := "IcehighwayModel", name := "piece", desc := "(III)I" } : Jvm.MethodName)) ∈ WL := WL_t (in_tables_1_4 (List.mem_of_getElem? (i := 136) rfl)) rfl
theorem q857 : (Jvm.Cond.code ({ cls := "IcehighwayModel", name := "piece", desc := "(III)I" } : Jvm.MethodName) prog_6_method_9_code (5 : Nat) (Option.some Jvm.ClassFile.FieldType.int)) ∈ WL := WL_t (in_tables_1_4 (List.mem_of_getElem? (i := 137) rfl)) rfl
theorem q858 : (Jvm.Cond.methodLink "IcehighwayModel" (94 : Nat) ({ cls := "IcehighwayModel", name := "isIn", desc := "(III)Z" } : Jvm.MethodName)) ∈ WL := WL_t (in_tables_1_4 (List.mem_of_getElem? (i := 138) rfl)) rfl
theorem q859 : (Jvm.Cond.static ({ cls := "IcehighwayModel", name := "isIn", desc := "(III)Z" } : Jvm.MethodName)) ∈ WL := WL_t (in_tables_1_4 (List.mem_of_getElem? (i := 139) rfl)) rfl
theorem q860 : (Jvm.Cond.code ({ cls := "IcehighwayModel", name := "isIn", desc := "(III)Z" } : Jvm.MethodName) prog_6_method_4_code (3 : Nat) (Option.some Jvm.ClassFile.FieldType.boolean)) ∈ WL := WL_t (in_tables_1_4 (List.mem_of_getElem? (i := 140) rfl)) rfl
theorem q861 : (Jvm.Cond.methodLink "IcehighwayModel" (101 : Nat) ({ cls := "IcehighwayModel", name := "fails", desc := "(I)Z" } : Jvm.MethodName)) ∈ WL := WL_t (in_tables_1_4 (List.mem_of_getElem? (i := 141) rfl)) rfl
theorem q862 : (Jvm.Cond.privateMethod ({ cls := "IcehighwayModel", name := "fails", desc := "(I)Z" } : Jvm.MethodName)) ∈ XL := XL_t (in_tables_1_4 (List.mem_of_getElem? (i := 142) rfl)) rfl
theorem q863 : (Jvm.Cond.instanceMethod ({ cls := "IcehighwayModel", name := "fails", desc := "(I)Z" } : Jvm.MethodName)) ∈ WL := WL_t (in_tables_1_4 (List.mem_of_getElem? (i := 143) rfl)) rfl
theorem q864 : (Jvm.Cond.code ({ cls := "IcehighwayModel", name := "fails", desc := "(I)Z" } : Jvm.MethodName) prog_6_method_3_code (2 : Nat) (Option.some Jvm.ClassFile.FieldType.boolean)) ∈ WL := WL_t (in_tables_1_4 (List.mem_of_getElem? (i := 144) rfl)) rfl
theorem q865 : (Jvm.Cond.constant "IcehighwayModel" (105 : Nat) (-1000000 : Int32)) ∈ WL := WL_t (in_tables_1_4 (List.mem_of_getElem? (i := 145) rfl)) rfl
theorem q866 : (Jvm.Cond.methodLink "IcehighwayLaw" (114 : Nat) ({ cls := "IcehighwayModel", name := "weather", desc := "(I)I" } : Jvm.MethodName)) ∈ WL := WL_t (in_tables_1_4 (List.mem_of_getElem? (i := 146) rfl)) rfl
theorem q867 : (Jvm.Cond.instanceMethod ({ cls := "IcehighwayModel", name := "weather", desc := "(I)I" } : Jvm.MethodName)) ∈ WL := WL_t (in_tables_1_4 (List.mem_of_getElem? (i := 147) rfl)) rfl
theorem q868 : (Jvm.Cond.selects "IcehighwayModel" ({ cls := "IcehighwayModel", name := "weather", desc := "(I)I" } : Jvm.MethodName) ({ cls := "IcehighwayModel", name := "weather", desc := "(I)I" } : Jvm.MethodName)) ∈ WL := WL_t (in_tables_1_4 (List.mem_of_getElem? (i := 148) rfl)) rfl
theorem q869 : (Jvm.Cond.code ({ cls := "IcehighwayModel", name := "weather", desc := "(I)I" } : Jvm.MethodName) prog_6_method_10_code (3 : Nat) (Option.some Jvm.ClassFile.FieldType.int)) ∈ WL := WL_t (in_tables_1_4 (List.mem_of_getElem? (i := 149) rfl)) rfl
theorem q870 : (Jvm.Cond.methodLink "IcehighwayLaw" (117 : Nat) ({ cls := "IcehighwayModel", name := "snow", desc := "(I)I" } : Jvm.MethodName)) ∈ WL := WL_t (in_tables_1_4 (List.mem_of_getElem? (i := 150) rfl)) rfl
theorem q871 : (Jvm.Cond.instanceMethod ({ cls := "IcehighwayModel", name := "snow", desc := "(I)I" } : Jvm.MethodName)) ∈ WL := WL_t (in_tables_1_4 (List.mem_of_getElem? (i := 151) rfl)) rfl
theorem q872 : (Jvm.Cond.selects "IcehighwayModel" ({ cls := "IcehighwayModel", name := "snow", desc := "(I)I" } : Jvm.MethodName) ({ cls := "IcehighwayModel", name := "snow", desc := "(I)I" } : Jvm.MethodName)) ∈ WL := WL_t (in_tables_1_4 (List.mem_of_getElem? (i := 152) rfl)) rfl
theorem q873 : (Jvm.Cond.code ({ cls := "IcehighwayModel", name := "snow", desc := "(I)I" } : Jvm.MethodName) prog_6_method_11_code (3 : Nat) (Option.some Jvm.ClassFile.FieldType.int)) ∈ WL := WL_t (in_tables_1_4 (List.mem_of_getElem? (i := 153) rfl)) rfl
theorem q874 : (Jvm.Cond.methodLink "IcehighwayLaw" (120 : Nat) ({ cls := "IcehighwayModel", name := "plough", desc := "(I)I" } : Jvm.MethodName)) ∈ WL := WL_t (in_tables_1_4 (List.mem_of_getElem? (i := 154) rfl)) rfl
theorem q875 : (Jvm.Cond.instanceMethod ({ cls := "IcehighwayModel", name := "plough", desc := "(I)I" } : Jvm.MethodName)) ∈ WL := WL_t (in_tables_1_4 (List.mem_of_getElem? (i := 155) rfl)) rfl
theorem q876 : (Jvm.Cond.selects "IcehighwayModel" ({ cls := "IcehighwayModel", name := "plough", desc := "(I)I" } : Jvm.MethodName) ({ cls := "IcehighwayModel", name := "plough", desc := "(I)I" } : Jvm.MethodName)) ∈ WL := WL_t (in_tables_1_4 (List.mem_of_getElem? (i := 156) rfl)) rfl
theorem q877 : (Jvm.Cond.code ({ cls := "IcehighwayModel", name := "plough", desc := "(I)I" } : Jvm.MethodName) prog_6_method_12_code (3 : Nat) (Option.some Jvm.ClassFile.FieldType.int)) ∈ WL := WL_t (in_tables_1_4 (List.mem_of_getElem? (i := 157) rfl)) rfl
theorem q878 : (Jvm.Cond.methodLink "IcehighwayModel" (109 : Nat) ({ cls := "IcehighwayModel", name := "isPiece", desc := "(I)Z" } : Jvm.MethodName)) ∈ WL := WL_t (in_tables_1_4 (List.mem_of_getElem? (i := 158) rfl)) rfl
theorem q879 : (Jvm.Cond.privateMethod ({ cls := "IcehighwayModel", name := "isPiece", desc := "(I)Z" } : Jvm.MethodName)) ∈ XL := XL_t (in_tables_1_4 (List.mem_of_getElem? (i := 159) rfl)) rfl
theorem q880 : (Jvm.Cond.instanceMethod ({ cls := "IcehighwayModel", name := "isPiece", desc := "(I)Z" } : Jvm.MethodName)) ∈ WL := WL_t (in_tables_1_4 (List.mem_of_getElem? (i := 160) rfl)) rfl
theorem q881 : (Jvm.Cond.code ({ cls := "IcehighwayModel", name := "isPiece", desc := "(I)Z" } : Jvm.MethodName) prog_6_method_5_code (2 : Nat) (Option.some Jvm.ClassFile.FieldType.boolean)) ∈ WL := WL_t (in_tables_1_4 (List.mem_of_getElem? (i := 161) rfl)) rfl
theorem q882 : (Jvm.Cond.methodLink "IcehighwayLaw" (124 : Nat) ({ cls := "IcehighwayModel", name := "flood", desc := "(II)I" } : Jvm.MethodName)) ∈ WL := WL_t (in_tables_1_4 (List.mem_of_getElem? (i := 162) rfl)) rfl
theorem q883 : (Jvm.Cond.instanceMethod ({ cls := "IcehighwayModel", name := "flood", desc := "(II)I" } : Jvm.MethodName)) ∈ WL := WL_t (in_tables_1_4 (List.mem_of_getElem? (i := 163) rfl)) rfl
theorem q884 : (Jvm.Cond.selects "IcehighwayModel" ({ cls := "IcehighwayModel", name := "flood", desc := "(II)I" } : Jvm.MethodName) ({ cls := "IcehighwayModel", name := "flood", desc := "(II)I" } : Jvm.MethodName)) ∈ WL := WL_t (in_tables_1_4 (List.mem_of_getElem? (i := 164) rfl)) rfl
theorem q885 : (Jvm.Cond.code ({ cls := "IcehighwayModel", name := "flood", desc := "(II)I" } : Jvm.MethodName) prog_6_method_13_code (6 : Nat) (Option.some Jvm.ClassFile.FieldType.int)) ∈ WL := WL_t (in_tables_1_4 (List.mem_of_getElem? (i := 165) rfl)) rfl
theorem q886 : (Jvm.Cond.methodLink "IcehighwayModel" (112 : Nat) ({ cls := "IcehighwayModel", name := "isWater", desc := "(I)Z" } : Jvm.MethodName)) ∈ WL := WL_t (in_tables_1_4 (List.mem_of_getElem? (i := 166) rfl)) rfl
theorem q887 : (Jvm.Cond.privateMethod ({ cls := "IcehighwayModel", name := "isWater", desc := "(I)Z" } : Jvm.MethodName)) ∈ XL := XL_t (in_tables_1_4 (List.mem_of_getElem? (i := 167) rfl)) rfl
theorem q888 : (Jvm.Cond.instanceMethod ({ cls := "IcehighwayModel", name := "isWater", desc := "(I)Z" } : Jvm.MethodName)) ∈ WL := WL_t (in_tables_1_4 (List.mem_of_getElem? (i := 168) rfl)) rfl
theorem q889 : (Jvm.Cond.code ({ cls := "IcehighwayModel", name := "isWater", desc := "(I)Z" } : Jvm.MethodName) prog_6_method_8_code (2 : Nat) (Option.some Jvm.ClassFile.FieldType.boolean)) ∈ WL := WL_t (in_tables_1_4 (List.mem_of_getElem? (i := 169) rfl)) rfl
theorem q890 : (Jvm.Cond.methodLink "IcehighwayLaw" (128 : Nat) ({ cls := "IcehighwayModel", name := "drill", desc := "(I)D" } : Jvm.MethodName)) ∈ WL := WL_t (in_tables_1_4 (List.mem_of_getElem? (i := 170) rfl)) rfl
theorem q891 : (Jvm.Cond.instanceMethod ({ cls := "IcehighwayModel", name := "drill", desc := "(I)D" } : Jvm.MethodName)) ∈ WL := WL_t (in_tables_1_4 (List.mem_of_getElem? (i := 171) rfl)) rfl
theorem q892 : (Jvm.Cond.selects "IcehighwayModel" ({ cls := "IcehighwayModel", name := "drill", desc := "(I)D" } : Jvm.MethodName) ({ cls := "IcehighwayModel", name := "drill", desc := "(I)D" } : Jvm.MethodName)) ∈ WL := WL_t (in_tables_1_4 (List.mem_of_getElem? (i := 172) rfl)) rfl
theorem q893 : (Jvm.Cond.code ({ cls := "IcehighwayModel", name := "drill", desc := "(I)D" } : Jvm.MethodName) prog_6_method_15_code (2 : Nat) (Option.some Jvm.ClassFile.FieldType.double)) ∈ WL := WL_t (in_tables_1_4 (List.mem_of_getElem? (i := 173) rfl)) rfl
theorem q894 : (Jvm.Cond.methodLink "IcehighwayModel" (117 : Nat) ({ cls := "IcehighwayModel", name := "thick", desc := "(I)D" } : Jvm.MethodName)) ∈ WL := WL_t (in_tables_1_4 (List.mem_of_getElem? (i := 174) rfl)) rfl
theorem q895 : (Jvm.Cond.privateMethod ({ cls := "IcehighwayModel", name := "thick", desc := "(I)D" } : Jvm.MethodName)) ∈ XL := XL_t (in_tables_1_4 (List.mem_of_getElem? (i := 175) rfl)) rfl
theorem q896 : (Jvm.Cond.instanceMethod ({ cls := "IcehighwayModel", name := "thick", desc := "(I)D" } : Jvm.MethodName)) ∈ WL := WL_t (in_tables_1_4 (List.mem_of_getElem? (i := 176) rfl)) rfl
theorem q897 : (Jvm.Cond.code ({ cls := "IcehighwayModel", name := "thick", desc := "(I)D" } : Jvm.MethodName) prog_6_method_14_code (2 : Nat) (Option.some Jvm.ClassFile.FieldType.double)) ∈ WL := WL_t (in_tables_1_4 (List.mem_of_getElem? (i := 177) rfl)) rfl
theorem q898 : (Jvm.Cond.constantDouble "IcehighwayModel" (115 : Nat) (4602678819172646912 : UInt64)) ∈ WL := WL_t (in_tables_1_4 (List.mem_of_getElem? (i := 178) rfl)) rfl
theorem q899 : (Jvm.Cond.methodLink "IcehighwayLaw" (131 : Nat) ({ cls := "IcehighwayModel", name := "open", desc := "(II)I" } : Jvm.MethodName)) ∈ WL := WL_t (in_tables_1_4 (List.mem_of_getElem? (i := 179) rfl)) rfl
theorem q900 : (Jvm.Cond.instanceMethod ({ cls := "IcehighwayModel", name := "open", desc := "(II)I" } : Jvm.MethodName)) ∈ WL := WL_t (in_tables_1_4 (List.mem_of_getElem? (i := 180) rfl)) rfl
theorem q901 : (Jvm.Cond.selects "IcehighwayModel" ({ cls := "IcehighwayModel", name := "open", desc := "(II)I" } : Jvm.MethodName) ({ cls := "IcehighwayModel", name := "open", desc := "(II)I" } : Jvm.MethodName)) ∈ WL := WL_t (in_tables_1_4 (List.mem_of_getElem? (i := 181) rfl)) rfl
theorem q902 : (Jvm.Cond.code ({ cls := "IcehighwayModel", name := "open", desc := "(II)I" } : Jvm.MethodName) prog_6_method_16_code (4 : Nat) (Option.some Jvm.ClassFile.FieldType.int)) ∈ WL := WL_t (in_tables_1_4 (List.mem_of_getElem? (i := 182) rfl)) rfl
theorem q903 : (Jvm.Cond.methodLink "IcehighwayLaw" (134 : Nat) ({ cls := "IcehighwayModel", name := "limit", desc := "(II)I" } : Jvm.MethodName)) ∈ WL := WL_t (in_tables_1_4 (List.mem_of_getElem? (i := 183) rfl)) rfl
theorem q904 : (Jvm.Cond.instanceMethod ({ cls := "IcehighwayModel", name := "limit", desc := "(II)I" } : Jvm.MethodName)) ∈ WL := WL_t (in_tables_1_4 (List.mem_of_getElem? (i := 184) rfl)) rfl
theorem q905 : (Jvm.Cond.selects "IcehighwayModel" ({ cls := "IcehighwayModel", name := "limit", desc := "(II)I" } : Jvm.MethodName) ({ cls := "IcehighwayModel", name := "limit", desc := "(II)I" } : Jvm.MethodName)) ∈ WL := WL_t (in_tables_1_4 (List.mem_of_getElem? (i := 185) rfl)) rfl
theorem q906 : (Jvm.Cond.code ({ cls := "IcehighwayModel", name := "limit", desc := "(II)I" } : Jvm.MethodName) prog_6_method_17_code (4 : Nat) (Option.some Jvm.ClassFile.FieldType.int)) ∈ WL := WL_t (in_tables_1_4 (List.mem_of_getElem? (i := 186) rfl)) rfl
theorem q907 : (Jvm.Cond.methodLink "IcehighwayLaw" (137 : Nat) ({ cls := "IcehighwayModel", name := "gap", desc := "(I)I" } : Jvm.MethodName)) ∈ WL := WL_t (in_tables_1_4 (List.mem_of_getElem? (i := 187) rfl)) rfl
theorem q908 : (Jvm.Cond.instanceMethod ({ cls := "IcehighwayModel", name := "gap", desc := "(I)I" } : Jvm.MethodName)) ∈ WL := WL_t (in_tables_1_4 (List.mem_of_getElem? (i := 188) rfl)) rfl
theorem q909 : (Jvm.Cond.selects "IcehighwayModel" ({ cls := "IcehighwayModel", name := "gap", desc := "(I)I" } : Jvm.MethodName) ({ cls := "IcehighwayModel", name := "gap", desc := "(I)I" } : Jvm.MethodName)) ∈ WL := WL_t (in_tables_1_4 (List.mem_of_getElem? (i := 189) rfl)) rfl
theorem q910 : (Jvm.Cond.code ({ cls := "IcehighwayModel", name := "gap", desc := "(I)I" } : Jvm.MethodName) prog_6_method_18_code (3 : Nat) (Option.some Jvm.ClassFile.FieldType.int)) ∈ WL := WL_t (in_tables_1_4 (List.mem_of_getElem? (i := 190) rfl)) rfl
theorem q911 : (Jvm.Cond.methodLink "IcehighwayLaw" (140 : Nat) ({ cls := "IcehighwayModel", name := "vehicle", desc := "(III)I" } : Jvm.MethodName)) ∈ WL := WL_t (in_tables_1_4 (List.mem_of_getElem? (i := 191) rfl)) rfl
theorem q912 : (Jvm.Cond.instanceMethod ({ cls := "IcehighwayModel", name := "vehicle", desc := "(III)I" } : Jvm.MethodName)) ∈ WL := WL_t (in_tables_1_4 (List.mem_of_getElem? (i := 192) rfl)) rfl
theorem q913 : (Jvm.Cond.selects "IcehighwayModel" ({ cls := "IcehighwayModel", name := "vehicle", desc := "(III)I" } : Jvm.MethodName) ({ cls := "IcehighwayModel", name := "vehicle", desc := "(III)I" } : Jvm.MethodName)) ∈ WL := WL_t (in_tables_1_4 (List.mem_of_getElem? (i := 193) rfl)) rfl
theorem q914 : (Jvm.Cond.code ({ cls := "IcehighwayModel", name := "vehicle", desc := "(III)I" } : Jvm.MethodName) prog_6_method_19_code (5 : Nat) (Option.some Jvm.ClassFile.FieldType.int)) ∈ WL := WL_t (in_tables_1_4 (List.mem_of_getElem? (i := 194) rfl)) rfl
theorem q915 : (Jvm.Cond.constant "IcehighwayModel" (121 : Nat) (40000 : Int32)) ∈ WL := WL_t (in_tables_1_4 (List.mem_of_getElem? (i := 195) rfl)) rfl
theorem q916 : (Jvm.Cond.constant "IcehighwayModel" (122 : Nat) (60000 : Int32)) ∈ WL := WL_t (in_tables_1_4 (List.mem_of_getElem? (i := 196) rfl)) rfl
theorem q917 : (Jvm.Cond.methodLink "IcehighwayLaw" (143 : Nat) ({ cls := "IcehighwayModel", name := "load", desc := "(III)I" } : Jvm.MethodName)) ∈ WL := WL_t (in_tables_1_4 (List.mem_of_getElem? (i := 197) rfl)) rfl
theorem q918 : (Jvm.Cond.instanceMethod ({ cls := "IcehighwayModel", name := "load", desc := "(III)I" } : Jvm.MethodName)) ∈ WL := WL_t (in_tables_1_4 (List.mem_of_getElem? (i := 198) rfl)) rfl
theorem q919 : (Jvm.Cond.selects "IcehighwayModel" ({ cls := "IcehighwayModel", name := "load", desc := "(III)I" } : Jvm.MethodName) ({ cls := "IcehighwayModel", name := "load", desc := "(III)I" } : Jvm.MethodName)) ∈ WL := WL_t (in_tables_1_4 (List.mem_of_getElem? (i := 199) rfl)) rfl
theorem q920 : (Jvm.Cond.code ({ cls := "IcehighwayModel", name := "load", desc := "(III)I" } : Jvm.MethodName) prog_6_method_21_code (6 : Nat) (Option.some Jvm.ClassFile.FieldType.int)) ∈ WL := WL_t (in_tables_1_4 (List.mem_of_getElem? (i := 200) rfl)) rfl
theorem q921 : (Jvm.Cond.methodLink "IcehighwayModel" (123 : Nat) ({ cls := "IcehighwayModel", name := "isVehicle", desc := "(I)Z" } : Jvm.MethodName)) ∈ WL := WL_t (in_tables_1_4 (List.mem_of_getElem? (i := 201) rfl)) rfl
theorem q922 : (Jvm.Cond.privateMethod ({ cls := "IcehighwayModel", name := "isVehicle", desc := "(I)Z" } : Jvm.MethodName)) ∈ XL := XL_t (in_tables_1_4 (List.mem_of_getElem? (i := 202) rfl)) rfl
theorem q923 : (Jvm.Cond.instanceMethod ({ cls := "IcehighwayModel", name := "isVehicle", desc := "(I)Z" } : Jvm.MethodName)) ∈ WL := WL_t (in_tables_1_4 (List.mem_of_getElem? (i := 203) rfl)) rfl
theorem q924 : (Jvm.Cond.code ({ cls := "IcehighwayModel", name := "isVehicle", desc := "(I)Z" } : Jvm.MethodName) prog_6_method_6_code (2 : Nat) (Option.some Jvm.ClassFile.FieldType.boolean)) ∈ WL := WL_t (in_tables_1_4 (List.mem_of_getElem? (i := 204) rfl)) rfl
theorem q925 : (Jvm.Cond.methodLink "IcehighwayModel" (126 : Nat) ({ cls := "IcehighwayModel", name := "isGoods", desc := "(I)Z" } : Jvm.MethodName)) ∈ WL := WL_t (in_tables_1_4 (List.mem_of_getElem? (i := 205) rfl)) rfl
theorem q926 : (Jvm.Cond.static ({ cls := "IcehighwayModel", name := "isGoods", desc := "(I)Z" } : Jvm.MethodName)) ∈ WL := WL_t (in_tables_1_4 (List.mem_of_getElem? (i := 206) rfl)) rfl
theorem q927 : (Jvm.Cond.code ({ cls := "IcehighwayModel", name := "isGoods", desc := "(I)Z" } : Jvm.MethodName) prog_6_method_7_code (1 : Nat) (Option.some Jvm.ClassFile.FieldType.boolean)) ∈ WL := WL_t (in_tables_1_4 (List.mem_of_getElem? (i := 207) rfl)) rfl
theorem q928 : (Jvm.Cond.methodLink "IcehighwayModel" (129 : Nat) ({ cls := "IcehighwayModel", name := "weight", desc := "(I)I" } : Jvm.MethodName)) ∈ WL := WL_t (in_tables_1_4 (List.mem_of_getElem? (i := 208) rfl)) rfl
theorem q929 : (Jvm.Cond.privateMethod ({ cls := "IcehighwayModel", name := "weight", desc := "(I)I" } : Jvm.MethodName)) ∈ XL := XL_t (in_tables_1_4 (List.mem_of_getElem? (i := 209) rfl)) rfl
theorem q930 : (Jvm.Cond.instanceMethod ({ cls := "IcehighwayModel", name := "weight", desc := "(I)I" } : Jvm.MethodName)) ∈ WL := WL_t (in_tables_1_4 (List.mem_of_getElem? (i := 210) rfl)) rfl
theorem q931 : (Jvm.Cond.code ({ cls := "IcehighwayModel", name := "weight", desc := "(I)I" } : Jvm.MethodName) prog_6_method_20_code (2 : Nat) (Option.some Jvm.ClassFile.FieldType.int)) ∈ WL := WL_t (in_tables_1_4 (List.mem_of_getElem? (i := 211) rfl)) rfl
theorem q932 : (Jvm.Cond.methodLink "IcehighwayLaw" (146 : Nat) ({ cls := "IcehighwayModel", name := "go", desc := "(I)Z" } : Jvm.MethodName)) ∈ WL := WL_t (in_tables_1_4 (List.mem_of_getElem? (i := 212) rfl)) rfl
theorem q933 : (Jvm.Cond.instanceMethod ({ cls := "IcehighwayModel", name := "go", desc := "(I)Z" } : Jvm.MethodName)) ∈ WL := WL_t (in_tables_1_4 (List.mem_of_getElem? (i := 213) rfl)) rfl
theorem q934 : (Jvm.Cond.selects "IcehighwayModel" ({ cls := "IcehighwayModel", name := "go", desc := "(I)Z" } : Jvm.MethodName) ({ cls := "IcehighwayModel", name := "go", desc := "(I)Z" } : Jvm.MethodName)) ∈ WL := WL_t (in_tables_1_4 (List.mem_of_getElem? (i := 214) rfl)) rfl
theorem q935 : (Jvm.Cond.code ({ cls := "IcehighwayModel", name := "go", desc := "(I)Z" } : Jvm.MethodName) prog_6_method_23_code (3 : Nat) (Option.some Jvm.ClassFile.FieldType.boolean)) ∈ WL := WL_t (in_tables_1_4 (List.mem_of_getElem? (i := 215) rfl)) rfl
theorem q936 : (Jvm.Cond.methodLink "IcehighwayLaw" (149 : Nat) ({ cls := "IcehighwayModel", name := "turn", desc := "(I)Z" } : Jvm.MethodName)) ∈ WL := WL_t (in_tables_1_4 (List.mem_of_getElem? (i := 216) rfl)) rfl
theorem q937 : (Jvm.Cond.instanceMethod ({ cls := "IcehighwayModel", name := "turn", desc := "(I)Z" } : Jvm.MethodName)) ∈ WL := WL_t (in_tables_1_4 (List.mem_of_getElem? (i := 217) rfl)) rfl
theorem q938 : (Jvm.Cond.selects "IcehighwayModel" ({ cls := "IcehighwayModel", name := "turn", desc := "(I)Z" } : Jvm.MethodName) ({ cls := "IcehighwayModel", name := "turn", desc := "(I)Z" } : Jvm.MethodName)) ∈ WL := WL_t (in_tables_1_4 (List.mem_of_getElem? (i := 218) rfl)) rfl
theorem q939 : (Jvm.Cond.code ({ cls := "IcehighwayModel", name := "turn", desc := "(I)Z" } : Jvm.MethodName) prog_6_method_26_code (2 : Nat) (Option.some Jvm.ClassFile.FieldType.boolean)) ∈ WL := WL_t (in_tables_1_4 (List.mem_of_getElem? (i := 219) rfl)) rfl
theorem q940 : (Jvm.Cond.methodLink "IcehighwayModel" (137 : Nat) ({ cls := "IcehighwayModel", name := "isThere", desc := "(I)Z" } : Jvm.MethodName)) ∈ WL := WL_t (in_tables_1_4 (List.mem_of_getElem? (i := 220) rfl)) rfl
theorem q941 : (Jvm.Cond.privateMethod ({ cls := "IcehighwayModel", name := "isThere", desc := "(I)Z" } : Jvm.MethodName)) ∈ XL := XL_t (in_tables_1_4 (List.mem_of_getElem? (i := 221) rfl)) rfl
theorem q942 : (Jvm.Cond.instanceMethod ({ cls := "IcehighwayModel", name := "isThere", desc := "(I)Z" } : Jvm.MethodName)) ∈ WL := WL_t (in_tables_1_4 (List.mem_of_getElem? (i := 222) rfl)) rfl
theorem q943 : (Jvm.Cond.code ({ cls := "IcehighwayModel", name := "isThere", desc := "(I)Z" } : Jvm.MethodName) prog_6_method_24_code (2 : Nat) (Option.some Jvm.ClassFile.FieldType.boolean)) ∈ WL := WL_t (in_tables_1_4 (List.mem_of_getElem? (i := 223) rfl)) rfl
theorem q944 : (Jvm.Cond.methodLink "IcehighwayModel" (140 : Nat) ({ cls := "IcehighwayModel", name := "arrives", desc := "(I)V" } : Jvm.MethodName)) ∈ WL := WL_t (in_tables_1_4 (List.mem_of_getElem? (i := 224) rfl)) rfl
theorem q945 : (Jvm.Cond.privateMethod ({ cls := "IcehighwayModel", name := "arrives", desc := "(I)V" } : Jvm.MethodName)) ∈ XL := XL_t (in_tables_1_4 (List.mem_of_getElem? (i := 225) rfl)) rfl
theorem q946 : (Jvm.Cond.instanceMethod ({ cls := "IcehighwayModel", name := "arrives", desc := "(I)V" } : Jvm.MethodName)) ∈ WL := WL_t (in_tables_1_4 (List.mem_of_getElem? (i := 226) rfl)) rfl
theorem q947 : (Jvm.Cond.code ({ cls := "IcehighwayModel", name := "arrives", desc := "(I)V" } : Jvm.MethodName) prog_6_method_25_code (2 : Nat) (Option.none : Option Jvm.ClassFile.FieldType)) ∈ WL := WL_t (in_tables_1_4 (List.mem_of_getElem? (i := 227) rfl)) rfl
theorem q948 : (Jvm.Cond.methodLink "IcehighwayModel" (133 : Nat) ({ cls := "IcehighwayModel", name := "unloads", desc := "(IZ)V" } : Jvm.MethodName)) ∈ WL := WL_t (in_tables_1_4 (List.mem_of_getElem? (i := 228) rfl)) rfl
theorem q949 : (Jvm.Cond.privateMethod ({ cls := "IcehighwayModel", name := "unloads", desc := "(IZ)V" } : Jvm.MethodName)) ∈ XL := XL_t (in_tables_1_4 (List.mem_of_getElem? (i := 229) rfl)) rfl
theorem q950 : (Jvm.Cond.instanceMethod ({ cls := "IcehighwayModel", name := "unloads", desc := "(IZ)V" } : Jvm.MethodName)) ∈ WL := WL_t (in_tables_1_4 (List.mem_of_getElem? (i := 230) rfl)) rfl
theorem q951 : (Jvm.Cond.code ({ cls := "IcehighwayModel", name := "unloads", desc := "(IZ)V" } : Jvm.MethodName) prog_6_method_22_code (3 : Nat) (Option.none : Option Jvm.ClassFile.FieldType)) ∈ WL := WL_t (in_tables_1_4 (List.mem_of_getElem? (i := 231) rfl)) rfl
theorem q952 : (Jvm.Cond.methodLink "IcehighwayLaw" (152 : Nat) ({ cls := "IcehighwayModel", name := "order", desc := "(II)I" } : Jvm.MethodName)) ∈ WL := WL_t (in_tables_1_4 (List.mem_of_getElem? (i := 232) rfl)) rfl
theorem q953 : (Jvm.Cond.instanceMethod ({ cls := "IcehighwayModel", name := "order", desc := "(II)I" } : Jvm.MethodName)) ∈ WL := WL_t (in_tables_1_4 (List.mem_of_getElem? (i := 233) rfl)) rfl
theorem q954 : (Jvm.Cond.selects "IcehighwayModel" ({ cls := "IcehighwayModel", name := "order", desc := "(II)I" } : Jvm.MethodName) ({ cls := "IcehighwayModel", name := "order", desc := "(II)I" } : Jvm.MethodName)) ∈ WL := WL_t (in_tables_1_4 (List.mem_of_getElem? (i := 234) rfl)) rfl
theorem q955 : (Jvm.Cond.code ({ cls := "IcehighwayModel", name := "order", desc := "(II)I" } : Jvm.MethodName) prog_6_method_27_code (4 : Nat) (Option.some Jvm.ClassFile.FieldType.int)) ∈ WL := WL_t (in_tables_1_4 (List.mem_of_getElem? (i := 235) rfl)) rfl
theorem q956 : (Jvm.Cond.constant "IcehighwayModel" (144 : Nat) (1000000 : Int32)) ∈ WL := WL_t (in_tables_1_4 (List.mem_of_getElem? (i := 236) rfl)) rfl
theorem q957 : (Jvm.Cond.constant "IcehighwayModel" (145 : Nat) (10000000 : Int32)) ∈ WL := WL_t (in_tables_1_4 (List.mem_of_getElem? (i := 237) rfl)) rfl
theorem q958 : (Jvm.Cond.methodLink "IcehighwayLaw" (155 : Nat) ({ cls := "IcehighwayModel", name := "pass", desc := "(I)I" } : Jvm.MethodName)) ∈ WL := WL_t (in_tables_1_4 (List.mem_of_getElem? (i := 238) rfl)) rfl
theorem q959 : (Jvm.Cond.instanceMethod ({ cls := "IcehighwayModel", name := "pass", desc := "(I)I" } : Jvm.MethodName)) ∈ WL := WL_t (in_tables_1_4 (List.mem_of_getElem? (i := 239) rfl)) rfl
theorem q960 : (Jvm.Cond.selects "IcehighwayModel" ({ cls := "IcehighwayModel", name := "pass", desc := "(I)I" } : Jvm.MethodName) ({ cls := "IcehighwayModel", name := "pass", desc := "(I)I" } : Jvm.MethodName)) ∈ WL := WL_t (in_tables_1_5 (List.mem_of_getElem? (i := 0) rfl)) rfl
theorem q961 : (Jvm.Cond.code ({ cls := "IcehighwayModel", name := "pass", desc := "(I)I" } : Jvm.MethodName) prog_6_method_41_code (3 : Nat) (Option.some Jvm.ClassFile.FieldType.int)) ∈ WL := WL_t (in_tables_1_5 (List.mem_of_getElem? (i := 1) rfl)) rfl
theorem q962 : (Jvm.Cond.constant "IcehighwayModel" (196 : Nat) (200000 : Int32)) ∈ WL := WL_t (in_tables_1_5 (List.mem_of_getElem? (i := 2) rfl)) rfl
theorem q963 : (Jvm.Cond.methodLink "IcehighwayModel" (197 : Nat) ({ cls := "IcehighwayModel", name := "passes", desc := "()V" } : Jvm.MethodName)) ∈ WL := WL_t (in_tables_1_5 (List.mem_of_getElem? (i := 3) rfl)) rfl
theorem q964 : (Jvm.Cond.privateMethod ({ cls := "IcehighwayModel", name := "passes", desc := "()V" } : Jvm.MethodName)) ∈ XL := XL_t (in_tables_1_5 (List.mem_of_getElem? (i := 4) rfl)) rfl
theorem q965 : (Jvm.Cond.instanceMethod ({ cls := "IcehighwayModel", name := "passes", desc := "()V" } : Jvm.MethodName)) ∈ WL := WL_t (in_tables_1_5 (List.mem_of_getElem? (i := 5) rfl)) rfl
theorem q966 : (Jvm.Cond.code ({ cls := "IcehighwayModel", name := "passes", desc := "()V" } : Jvm.MethodName) prog_6_method_40_code (2 : Nat) (Option.none : Option Jvm.ClassFile.FieldType)) ∈ WL := WL_t (in_tables_1_5 (List.mem_of_getElem? (i := 6) rfl)) rfl
theorem q967 : (Jvm.Cond.methodLink "IcehighwayModel" (184 : Nat) ({ cls := "IcehighwayModel", name := "ends", desc := "()V" } : Jvm.MethodName)) ∈ WL := WL_t (in_tables_1_5 (List.mem_of_getElem? (i := 7) rfl)) rfl
theorem q968 : (Jvm.Cond.privateMethod ({ cls := "IcehighwayModel", name := "ends", desc := "()V" } : Jvm.MethodName)) ∈ XL := XL_t (in_tables_1_5 (List.mem_of_getElem? (i := 8) rfl)) rfl
theorem q969 : (Jvm.Cond.instanceMethod ({ cls := "IcehighwayModel", name := "ends", desc := "()V" } : Jvm.MethodName)) ∈ WL := WL_t (in_tables_1_5 (List.mem_of_getElem? (i := 9) rfl)) rfl
theorem q970 : (Jvm.Cond.code ({ cls := "IcehighwayModel", name := "ends", desc := "()V" } : Jvm.MethodName) prog_6_method_30_code (2 : Nat) (Option.none : Option Jvm.ClassFile.FieldType)) ∈ WL := WL_t (in_tables_1_5 (List.mem_of_getElem? (i := 10) rfl)) rfl
theorem q971 : (Jvm.Cond.methodLink "IcehighwayModel" (146 : Nat) ({ cls := "IcehighwayModel", name := "freezes", desc := "(I)V" } : Jvm.MethodName)) ∈ WL := WL_t (in_tables_1_5 (List.mem_of_getElem? (i := 11) rfl)) rfl
theorem q972 : (Jvm.Cond.privateMethod ({ cls := "IcehighwayModel", name := "freezes", desc := "(I)V" } : Jvm.MethodName)) ∈ XL := XL_t (in_tables_1_5 (List.mem_of_getElem? (i := 12) rfl)) rfl
theorem q973 : (Jvm.Cond.instanceMethod ({ cls := "IcehighwayModel", name := "freezes", desc := "(I)V" } : Jvm.MethodName)) ∈ WL := WL_t (in_tables_1_5 (List.mem_of_getElem? (i := 13) rfl)) rfl
theorem q974 : (Jvm.Cond.code ({ cls := "IcehighwayModel", name := "freezes", desc := "(I)V" } : Jvm.MethodName) prog_6_method_28_code (4 : Nat) (Option.none : Option Jvm.ClassFile.FieldType)) ∈ WL := WL_t (in_tables_1_5 (List.mem_of_getElem? (i := 14) rfl)) rfl
theorem q975 : (Jvm.Cond.methodLink "IcehighwayModel" (149 : Nat) ({ cls := "IcehighwayModel", name := "thaws", desc := "(I)V" } : Jvm.MethodName)) ∈ WL := WL_t (in_tables_1_5 (List.mem_of_getElem? (i := 15) rfl)) rfl
theorem q976 : (Jvm.Cond.privateMethod ({ cls := "IcehighwayModel", name := "thaws", desc := "(I)V" } : Jvm.MethodName)) ∈ XL := XL_t (in_tables_1_5 (List.mem_of_getElem? (i := 16) rfl)) rfl
theorem q977 : (Jvm.Cond.instanceMethod ({ cls := "IcehighwayModel", name := "thaws", desc := "(I)V" } : Jvm.MethodName)) ∈ WL := WL_t (in_tables_1_5 (List.mem_of_getElem? (i := 17) rfl)) rfl
theorem q978 : (Jvm.Cond.code ({ cls := "IcehighwayModel", name := "thaws", desc := "(I)V" } : Jvm.MethodName) prog_6_method_29_code (8 : Nat) (Option.none : Option Jvm.ClassFile.FieldType)) ∈ WL := WL_t (in_tables_1_5 (List.mem_of_getElem? (i := 18) rfl)) rfl
theorem q979 : (Jvm.Cond.methodLink "IcehighwayModel" (187 : Nat) ({ cls := "IcehighwayModel", name := "leaves", desc := "(I)V" } : Jvm.MethodName)) ∈ WL := WL_t (in_tables_1_5 (List.mem_of_getElem? (i := 19) rfl)) rfl
theorem q980 : (Jvm.Cond.privateMethod ({ cls := "IcehighwayModel", name := "leaves", desc := "(I)V" } : Jvm.MethodName)) ∈ XL := XL_t (in_tables_1_5 (List.mem_of_getElem? (i := 20) rfl)) rfl
theorem q981 : (Jvm.Cond.instanceMethod ({ cls := "IcehighwayModel", name := "leaves", desc := "(I)V" } : Jvm.MethodName)) ∈ WL := WL_t (in_tables_1_5 (List.mem_of_getElem? (i := 21) rfl)) rfl
theorem q982 : (Jvm.Cond.code ({ cls := "IcehighwayModel", name := "leaves", desc := "(I)V" } : Jvm.MethodName) prog_6_method_38_code (4 : Nat) (Option.none : Option Jvm.ClassFile.FieldType)) ∈ WL := WL_t (in_tables_1_5 (List.mem_of_getElem? (i := 22) rfl)) rfl
theorem q983 : (Jvm.Cond.methodLink "IcehighwayModel" (190 : Nat) ({ cls := "IcehighwayModel", name := "against", desc := "(I)I" } : Jvm.MethodName)) ∈ WL := WL_t (in_tables_1_5 (List.mem_of_getElem? (i := 23) rfl)) rfl
theorem q984 : (Jvm.Cond.privateMethod ({ cls := "IcehighwayModel", name := "against", desc := "(I)I" } : Jvm.MethodName)) ∈ XL := XL_t (in_tables_1_5 (List.mem_of_getElem? (i := 24) rfl)) rfl
theorem q985 : (Jvm.Cond.instanceMethod ({ cls := "IcehighwayModel", name := "against", desc := "(I)I" } : Jvm.MethodName)) ∈ WL := WL_t (in_tables_1_5 (List.mem_of_getElem? (i := 25) rfl)) rfl
theorem q986 : (Jvm.Cond.code ({ cls := "IcehighwayModel", name := "against", desc := "(I)I" } : Jvm.MethodName) prog_6_method_37_code (3 : Nat) (Option.some Jvm.ClassFile.FieldType.int)) ∈ WL := WL_t (in_tables_1_5 (List.mem_of_getElem? (i := 26) rfl)) rfl
theorem q987 : (Jvm.Cond.methodLink "IcehighwayModel" (164 : Nat) ({ cls := "IcehighwayModel", name := "nextPiece", desc := "(I)I" } : Jvm.MethodName)) ∈ WL := WL_t (in_tables_1_5 (List.mem_of_getElem? (i := 27) rfl)) rfl
theorem q988 : (Jvm.Cond.privateMethod ({ cls := "IcehighwayModel", name := "nextPiece", desc := "(I)I" } : Jvm.MethodName)) ∈ XL := XL_t (in_tables_1_5 (List.mem_of_getElem? (i := 28) rfl)) rfl
theorem q989 : (Jvm.Cond.instanceMethod ({ cls := "IcehighwayModel", name := "nextPiece", desc := "(I)I" } : Jvm.MethodName)) ∈ WL := WL_t (in_tables_1_5 (List.mem_of_getElem? (i := 29) rfl)) rfl
theorem q990 : (Jvm.Cond.code ({ cls := "IcehighwayModel", name := "nextPiece", desc := "(I)I" } : Jvm.MethodName) prog_6_method_36_code (2 : Nat) (Option.some Jvm.ClassFile.FieldType.int)) ∈ WL := WL_t (in_tables_1_5 (List.mem_of_getElem? (i := 30) rfl)) rfl
theorem q991 : (Jvm.Cond.methodLink "IcehighwayModel" (170 : Nat) ({ cls := "IcehighwayModel", name := "isMet", desc := "(II)Z" } : Jvm.MethodName)) ∈ WL := WL_t (in_tables_1_5 (List.mem_of_getElem? (i := 31) rfl)) rfl
theorem q992 : (Jvm.Cond.privateMethod ({ cls := "IcehighwayModel", name := "isMet", desc := "(II)Z" } : Jvm.MethodName)) ∈ XL := XL_t (in_tables_1_5 (List.mem_of_getElem? (i := 32) rfl)) rfl
theorem q993 : (Jvm.Cond.instanceMethod ({ cls := "IcehighwayModel", name := "isMet", desc := "(II)Z" } : Jvm.MethodName)) ∈ WL := WL_t (in_tables_1_5 (List.mem_of_getElem? (i := 33) rfl)) rfl
theorem q994 : (Jvm.Cond.code ({ cls := "IcehighwayModel", name := "isMet", desc := "(II)Z" } : Jvm.MethodName) prog_6_method_35_code (5 : Nat) (Option.some Jvm.ClassFile.FieldType.boolean)) ∈ WL := WL_t (in_tables_1_5 (List.mem_of_getElem? (i := 34) rfl)) rfl
theorem q995 : (Jvm.Cond.methodLink "IcehighwayModel" (174 : Nat) ({ cls := "IcehighwayModel", name := "weights", desc := "(I)I" } : Jvm.MethodName)) ∈ WL := WL_t (in_tables_1_5 (List.mem_of_getElem? (i := 35) rfl)) rfl
theorem q996 : (Jvm.Cond.privateMethod ({ cls := "IcehighwayModel", name := "weights", desc := "(I)I" } : Jvm.MethodName)) ∈ XL := XL_t (in_tables_1_5 (List.mem_of_getElem? (i := 36) rfl)) rfl
theorem q997 : (Jvm.Cond.instanceMethod ({ cls := "IcehighwayModel", name := "weights", desc := "(I)I" } : Jvm.MethodName)) ∈ WL := WL_t (in_tables_1_5 (List.mem_of_getElem? (i := 37) rfl)) rfl
theorem q998 : (Jvm.Cond.code ({ cls := "IcehighwayModel", name := "weights", desc := "(I)I" } : Jvm.MethodName) prog_6_method_34_code (4 : Nat) (Option.some Jvm.ClassFile.FieldType.int)) ∈ WL := WL_t (in_tables_1_5 (List.mem_of_getElem? (i := 38) rfl)) rfl
theorem q999 : (Jvm.Cond.methodLink "IcehighwayModel" (177 : Nat) ({ cls := "IcehighwayModel", name := "bearsBy", desc := "(ID)I" } : Jvm.MethodName)) ∈ WL := WL_t (in_tables_1_5 (List.mem_of_getElem? (i := 39) rfl)) rfl
theorem q1000 : (Jvm.Cond.privateMethod ({ cls := "IcehighwayModel", name := "bearsBy", desc := "(ID)I" } : Jvm.MethodName)) ∈ XL := XL_t (in_tables_1_5 (List.mem_of_getElem? (i := 40) rfl)) rfl
theorem q1001 : (Jvm.Cond.instanceMethod ({ cls := "IcehighwayModel", name := "bearsBy", desc := "(ID)I" } : Jvm.MethodName)) ∈ WL := WL_t (in_tables_1_5 (List.mem_of_getElem? (i := 41) rfl)) rfl
theorem q1002 : (Jvm.Cond.code ({ cls := "IcehighwayModel", name := "bearsBy", desc := "(ID)I" } : Jvm.MethodName) prog_6_method_31_code (4 : Nat) (Option.some Jvm.ClassFile.FieldType.int)) ∈ WL := WL_t (in_tables_1_5 (List.mem_of_getElem? (i := 42) rfl)) rfl
theorem q1003 : (Jvm.Cond.constantDouble "IcehighwayModel" (152 : Nat) (4585925428558828667 : UInt64)) ∈ WL := WL_t (in_tables_1_5 (List.mem_of_getElem? (i := 43) rfl)) rfl
theorem q1004 : (Jvm.Cond.constantDouble "IcehighwayModel" (154 : Nat) (4604930618986332160 : UInt64)) ∈ WL := WL_t (in_tables_1_5 (List.mem_of_getElem? (i := 44) rfl)) rfl
theorem q1005 : (Jvm.Cond.methodLink "IcehighwayModel" (193 : Nat) ({ cls := "IcehighwayModel", name := "comes", desc := "(I)V" } : Jvm.MethodName)) ∈ WL := WL_t (in_tables_1_5 (List.mem_of_getElem? (i := 45) rfl)) rfl
theorem q1006 : (Jvm.Cond.privateMethod ({ cls := "IcehighwayModel", name := "comes", desc := "(I)V" } : Jvm.MethodName)) ∈ XL := XL_t (in_tables_1_5 (List.mem_of_getElem? (i := 46) rfl)) rfl
theorem q1007 : (Jvm.Cond.instanceMethod ({ cls := "IcehighwayModel", name := "comes", desc := "(I)V" } : Jvm.MethodName)) ∈ WL := WL_t (in_tables_1_5 (List.mem_of_getElem? (i := 47) rfl)) rfl
theorem q1008 : (Jvm.Cond.code ({ cls := "IcehighwayModel", name := "comes", desc := "(I)V" } : Jvm.MethodName) prog_6_method_39_code (4 : Nat) (Option.none : Option Jvm.ClassFile.FieldType)) ∈ WL := WL_t (in_tables_1_5 (List.mem_of_getElem? (i := 48) rfl)) rfl
theorem q1009 : (Jvm.Cond.methodLink "IcehighwayModel" (181 : Nat) ({ cls := "IcehighwayModel", name := "minutesOn", desc := "(II)I" } : Jvm.MethodName)) ∈ WL := WL_t (in_tables_1_5 (List.mem_of_getElem? (i := 49) rfl)) rfl
theorem q1010 : (Jvm.Cond.privateMethod ({ cls := "IcehighwayModel", name := "minutesOn", desc := "(II)I" } : Jvm.MethodName)) ∈ XL := XL_t (in_tables_1_5 (List.mem_of_getElem? (i := 50) rfl)) rfl
theorem q1011 : (Jvm.Cond.instanceMethod ({ cls := "IcehighwayModel", name := "minutesOn", desc := "(II)I" } : Jvm.MethodName)) ∈ WL := WL_t (in_tables_1_5 (List.mem_of_getElem? (i := 51) rfl)) rfl
theorem q1012 : (Jvm.Cond.code ({ cls := "IcehighwayModel", name := "minutesOn", desc := "(II)I" } : Jvm.MethodName) prog_6_method_33_code (4 : Nat) (Option.some Jvm.ClassFile.FieldType.int)) ∈ WL := WL_t (in_tables_1_5 (List.mem_of_getElem? (i := 52) rfl)) rfl
theorem q1013 : (Jvm.Cond.methodLink "IcehighwayModel" (160 : Nat) ({ cls := "IcehighwayModel", name := "speedOn", desc := "(II)I" } : Jvm.MethodName)) ∈ WL := WL_t (in_tables_1_5 (List.mem_of_getElem? (i := 53) rfl)) rfl
theorem q1014 : (Jvm.Cond.privateMethod ({ cls := "IcehighwayModel", name := "speedOn", desc := "(II)I" } : Jvm.MethodName)) ∈ XL := XL_t (in_tables_1_5 (List.mem_of_getElem? (i := 54) rfl)) rfl
theorem q1015 : (Jvm.Cond.instanceMethod ({ cls := "IcehighwayModel", name := "speedOn", desc := "(II)I" } : Jvm.MethodName)) ∈ WL := WL_t (in_tables_1_5 (List.mem_of_getElem? (i := 55) rfl)) rfl
theorem q1016 : (Jvm.Cond.code ({ cls := "IcehighwayModel", name := "speedOn", desc := "(II)I" } : Jvm.MethodName) prog_6_method_32_code (10 : Nat) (Option.some Jvm.ClassFile.FieldType.int)) ∈ WL := WL_t (in_tables_1_5 (List.mem_of_getElem? (i := 56) rfl)) rfl
theorem q1017 : (Jvm.Cond.constantDouble "IcehighwayModel" (156 : Nat) (4635217326480398746 : UInt64)) ∈ WL := WL_t (in_tables_1_5 (List.mem_of_getElem? (i := 57) rfl)) rfl
theorem q1018 : (Jvm.Cond.constantDouble "IcehighwayModel" (158 : Nat) (4637975781252163174 : UInt64)) ∈ WL := WL_t (in_tables_1_5 (List.mem_of_getElem? (i := 58) rfl)) rfl
theorem q1019 : (Jvm.Cond.methodLink "IcehighwayLaw" (159 : Nat) ({ cls := "IcehighwayModel", name := "minute", desc := "()I" } : Jvm.MethodName)) ∈ WL := WL_t (in_tables_1_5 (List.mem_of_getElem? (i := 59) rfl)) rfl
theorem q1020 : (Jvm.Cond.instanceMethod ({ cls := "IcehighwayModel", name := "minute", desc := "()I" } : Jvm.MethodName)) ∈ WL := WL_t (in_tables_1_5 (List.mem_of_getElem? (i := 60) rfl)) rfl
theorem q1021 : (Jvm.Cond.selects "IcehighwayModel" ({ cls := "IcehighwayModel", name := "minute", desc := "()I" } : Jvm.MethodName) ({ cls := "IcehighwayModel", name := "minute", desc := "()I" } : Jvm.MethodName)) ∈ WL := WL_t (in_tables_1_5 (List.mem_of_getElem? (i := 61) rfl)) rfl
theorem q1022 : (Jvm.Cond.code ({ cls := "IcehighwayModel", name := "minute", desc := "()I" } : Jvm.MethodName) prog_6_method_42_code (1 : Nat) (Option.some Jvm.ClassFile.FieldType.int)) ∈ WL := WL_t (in_tables_1_5 (List.mem_of_getElem? (i := 62) rfl)) rfl
theorem q1023 : (Jvm.Cond.methodLink "IcehighwayLaw" (162 : Nat) ({ cls := "IcehighwayModel", name := "told", desc := "(II)I" } : Jvm.MethodName)) ∈ WL := WL_t (in_tables_1_5 (List.mem_of_getElem? (i := 63) rfl)) rfl
theorem q1024 : (Jvm.Cond.instanceMethod ({ cls := "IcehighwayModel", name := "told", desc := "(II)I" } : Jvm.MethodName)) ∈ WL := WL_t (in_tables_1_5 (List.mem_of_getElem? (i := 64) rfl)) rfl
theorem q1025 : (Jvm.Cond.selects "IcehighwayModel" ({ cls := "IcehighwayModel", name := "told", desc := "(II)I" } : Jvm.MethodName) ({ cls := "IcehighwayModel", name := "told", desc := "(II)I" } : Jvm.MethodName)) ∈ WL := WL_t (in_tables_1_5 (List.mem_of_getElem? (i := 65) rfl)) rfl
theorem q1026 : (Jvm.Cond.code ({ cls := "IcehighwayModel", name := "told", desc := "(II)I" } : Jvm.MethodName) prog_6_method_43_code (3 : Nat) (Option.some Jvm.ClassFile.FieldType.int)) ∈ WL := WL_t (in_tables_1_5 (List.mem_of_getElem? (i := 66) rfl)) rfl
theorem q1027 : (Jvm.Cond.methodLink "IcehighwayModel" (200 : Nat) ({ cls := "IcehighwayModel", name := "many", desc := "(I)I" } : Jvm.MethodName)) ∈ WL := WL_t (in_tables_1_5 (List.mem_of_getElem? (i := 67) rfl)) rfl
theorem q1028 : (Jvm.Cond.privateMethod ({ cls := "IcehighwayModel", name := "many", desc := "(I)I" } : Jvm.MethodName)) ∈ XL := XL_t (in_tables_1_5 (List.mem_of_getElem? (i := 68) rfl)) rfl
theorem q1029 : (Jvm.Cond.instanceMethod ({ cls := "IcehighwayModel", name := "many", desc := "(I)I" } : Jvm.MethodName)) ∈ WL := WL_t (in_tables_1_5 (List.mem_of_getElem? (i := 69) rfl)) rfl
theorem q1030 : (Jvm.Cond.code ({ cls := "IcehighwayModel", name := "many", desc := "(I)I" } : Jvm.MethodName) prog_6_method_44_code (4 : Nat) (Option.some Jvm.ClassFile.FieldType.int)) ∈ WL := WL_t (in_tables_1_5 (List.mem_of_getElem? (i := 70) rfl)) rfl
theorem q1031 : (Jvm.Cond.methodLink "IcehighwayLaw" (166 : Nat) ({ cls := "IcehighwayModel", name := "thickness", desc := "(IZ)D" } : Jvm.MethodName)) ∈ WL := WL_t (in_tables_1_5 (List.mem_of_getElem? (i := 71) rfl)) rfl
theorem q1032 : (Jvm.Cond.instanceMethod ({ cls := "IcehighwayModel", name := "thickness", desc := "(IZ)D" } : Jvm.MethodName)) ∈ WL := WL_t (in_tables_1_5 (List.mem_of_getElem? (i := 72) rfl)) rfl
theorem q1033 : (Jvm.Cond.selects "IcehighwayModel" ({ cls := "IcehighwayModel", name := "thickness", desc := "(IZ)D" } : Jvm.MethodName) ({ cls := "IcehighwayModel", name := "thickness", desc := "(IZ)D" } : Jvm.MethodName)) ∈ WL := WL_t (in_tables_1_5 (List.mem_of_getElem? (i := 73) rfl)) rfl
theorem q1034 : (Jvm.Cond.code ({ cls := "IcehighwayModel", name := "thickness", desc := "(IZ)D" } : Jvm.MethodName) prog_6_method_45_code (3 : Nat) (Option.some Jvm.ClassFile.FieldType.double)) ∈ WL := WL_t (in_tables_1_5 (List.mem_of_getElem? (i := 74) rfl)) rfl
theorem q1035 : (Jvm.Cond.methodLink "IcehighwayLaw" (170 : Nat) ({ cls := "IcehighwayModel", name := "bears", desc := "(IZ)I" } : Jvm.MethodName)) ∈ WL := WL_t (in_tables_1_5 (List.mem_of_getElem? (i := 75) rfl)) rfl
theorem q1036 : (Jvm.Cond.instanceMethod ({ cls := "IcehighwayModel", name := "bears", desc := "(IZ)I" } : Jvm.MethodName)) ∈ WL := WL_t (in_tables_1_5 (List.mem_of_getElem? (i := 76) rfl)) rfl
theorem q1037 : (Jvm.Cond.selects "IcehighwayModel" ({ cls := "IcehighwayModel", name := "bears", desc := "(IZ)I" } : Jvm.MethodName) ({ cls := "IcehighwayModel", name := "bears", desc := "(IZ)I" } : Jvm.MethodName)) ∈ WL := WL_t (in_tables_1_5 (List.mem_of_getElem? (i := 77) rfl)) rfl
theorem q1038 : (Jvm.Cond.code ({ cls := "IcehighwayModel", name := "bears", desc := "(IZ)I" } : Jvm.MethodName) prog_6_method_46_code (3 : Nat) (Option.some Jvm.ClassFile.FieldType.int)) ∈ WL := WL_t (in_tables_1_5 (List.mem_of_getElem? (i := 78) rfl)) rfl
theorem q1039 : (Jvm.Cond.methodLink "IcehighwayLaw" (173 : Nat) ({ cls := "IcehighwayModel", name := "ofVehicle", desc := "(II)I" } : Jvm.MethodName)) ∈ WL := WL_t (in_tables_1_5 (List.mem_of_getElem? (i := 79) rfl)) rfl
theorem q1040 : (Jvm.Cond.instanceMethod ({ cls := "IcehighwayModel", name := "ofVehicle", desc := "(II)I" } : Jvm.MethodName)) ∈ WL := WL_t (in_tables_1_5 (List.mem_of_getElem? (i := 80) rfl)) rfl
theorem q1041 : (Jvm.Cond.selects "IcehighwayModel" ({ cls := "IcehighwayModel", name := "ofVehicle", desc := "(II)I" } : Jvm.MethodName) ({ cls := "IcehighwayModel", name := "ofVehicle", desc := "(II)I" } : Jvm.MethodName)) ∈ WL := WL_t (in_tables_1_5 (List.mem_of_getElem? (i := 81) rfl)) rfl
theorem q1042 : (Jvm.Cond.code ({ cls := "IcehighwayModel", name := "ofVehicle", desc := "(II)I" } : Jvm.MethodName) prog_6_method_47_code (3 : Nat) (Option.some Jvm.ClassFile.FieldType.int)) ∈ WL := WL_t (in_tables_1_5 (List.mem_of_getElem? (i := 82) rfl)) rfl
theorem q1043 : (Jvm.Cond.methodLink "IcehighwayLaw" (176 : Nat) ({ cls := "IcehighwayModel", name := "why", desc := "(I)I" } : Jvm.MethodName)) ∈ WL := WL_t (in_tables_1_5 (List.mem_of_getElem? (i := 83) rfl)) rfl
theorem q1044 : (Jvm.Cond.instanceMethod ({ cls := "IcehighwayModel", name := "why", desc := "(I)I" } : Jvm.MethodName)) ∈ WL := WL_t (in_tables_1_5 (List.mem_of_getElem? (i := 84) rfl)) rfl
theorem q1045 : (Jvm.Cond.selects "IcehighwayModel" ({ cls := "IcehighwayModel", name := "why", desc := "(I)I" } : Jvm.MethodName) ({ cls := "IcehighwayModel", name := "why", desc := "(I)I" } : Jvm.MethodName)) ∈ WL := WL_t (in_tables_1_5 (List.mem_of_getElem? (i := 85) rfl)) rfl
theorem q1046 : (Jvm.Cond.code ({ cls := "IcehighwayModel", name := "why", desc := "(I)I" } : Jvm.MethodName) prog_6_method_48_code (2 : Nat) (Option.some Jvm.ClassFile.FieldType.int)) ∈ WL := WL_t (in_tables_1_5 (List.mem_of_getElem? (i := 86) rfl)) rfl
theorem q1047 : (Jvm.Cond.methodLink "IcehighwayLaw" (179 : Nat) ({ cls := "IcehighwayModel", name := "speed", desc := "(II)I" } : Jvm.MethodName)) ∈ WL := WL_t (in_tables_1_5 (List.mem_of_getElem? (i := 87) rfl)) rfl
theorem q1048 : (Jvm.Cond.instanceMethod ({ cls := "IcehighwayModel", name := "speed", desc := "(II)I" } : Jvm.MethodName)) ∈ WL := WL_t (in_tables_1_5 (List.mem_of_getElem? (i := 88) rfl)) rfl
theorem q1049 : (Jvm.Cond.selects "IcehighwayModel" ({ cls := "IcehighwayModel", name := "speed", desc := "(II)I" } : Jvm.MethodName) ({ cls := "IcehighwayModel", name := "speed", desc := "(II)I" } : Jvm.MethodName)) ∈ WL := WL_t (in_tables_1_5 (List.mem_of_getElem? (i := 89) rfl)) rfl
theorem q1050 : (Jvm.Cond.code ({ cls := "IcehighwayModel", name := "speed", desc := "(II)I" } : Jvm.MethodName) prog_6_method_49_code (3 : Nat) (Option.some Jvm.ClassFile.FieldType.int)) ∈ WL := WL_t (in_tables_1_5 (List.mem_of_getElem? (i := 90) rfl)) rfl
theorem q1051 : (Jvm.Cond.methodLink "IcehighwayLaw" (182 : Nat) ({ cls := "IcehighwayModel", name := "minutes", desc := "(II)I" } : Jvm.MethodName)) ∈ WL := WL_t (in_tables_1_5 (List.mem_of_getElem? (i := 91) rfl)) rfl
theorem q1052 : (Jvm.Cond.instanceMethod ({ cls := "IcehighwayModel", name := "minutes", desc := "(II)I" } : Jvm.MethodName)) ∈ WL := WL_t (in_tables_1_5 (List.mem_of_getElem? (i := 92) rfl)) rfl
theorem q1053 : (Jvm.Cond.selects "IcehighwayModel" ({ cls := "IcehighwayModel", name := "minutes", desc := "(II)I" } : Jvm.MethodName) ({ cls := "IcehighwayModel", name := "minutes", desc := "(II)I" } : Jvm.MethodName)) ∈ WL := WL_t (in_tables_1_5 (List.mem_of_getElem? (i := 93) rfl)) rfl
theorem q1054 : (Jvm.Cond.code ({ cls := "IcehighwayModel", name := "minutes", desc := "(II)I" } : Jvm.MethodName) prog_6_method_50_code (3 : Nat) (Option.some Jvm.ClassFile.FieldType.int)) ∈ WL := WL_t (in_tables_1_5 (List.mem_of_getElem? (i := 94) rfl)) rfl
theorem q1055 : (Jvm.Cond.methodLink "IcehighwayLaw" (185 : Nat) ({ cls := "IcehighwayModel", name := "minutesAnew", desc := "(II)I" } : Jvm.MethodName)) ∈ WL := WL_t (in_tables_1_5 (List.mem_of_getElem? (i := 95) rfl)) rfl
theorem q1056 : (Jvm.Cond.instanceMethod ({ cls := "IcehighwayModel", name := "minutesAnew", desc := "(II)I" } : Jvm.MethodName)) ∈ WL := WL_t (in_tables_1_5 (List.mem_of_getElem? (i := 96) rfl)) rfl
theorem q1057 : (Jvm.Cond.selects "IcehighwayModel" ({ cls := "IcehighwayModel", name := "minutesAnew", desc := "(II)I" } : Jvm.MethodName) ({ cls := "IcehighwayModel", name := "minutesAnew", desc := "(II)I" } : Jvm.MethodName)) ∈ WL := WL_t (in_tables_1_5 (List.mem_of_getElem? (i := 97) rfl)) rfl
theorem q1058 : (Jvm.Cond.code ({ cls := "IcehighwayModel", name := "minutesAnew", desc := "(II)I" } : Jvm.MethodName) prog_6_method_51_code (3 : Nat) (Option.some Jvm.ClassFile.FieldType.int)) ∈ WL := WL_t (in_tables_1_5 (List.mem_of_getElem? (i := 98) rfl)) rfl
theorem q1059 : (Jvm.Cond.methodLink "IcehighwayModel" (203 : Nat) ({ cls := "IcehighwayModel", name := "minutes", desc := "(II)I" } : Jvm.MethodName)) ∈ WL := WL_t (in_tables_1_5 (List.mem_of_getElem? (i := 99) rfl)) rfl
theorem q1060 : (Jvm.Cond.methodLink "IcehighwayLaw" (188 : Nat) ({ cls := "IcehighwayModel", name := "kilos", desc := "(II)I" } : Jvm.MethodName)) ∈ WL := WL_t (in_tables_1_5 (List.mem_of_getElem? (i := 100) rfl)) rfl
theorem q1061 : (Jvm.Cond.instanceMethod ({ cls := "IcehighwayModel", name := "kilos", desc := "(II)I" } : Jvm.MethodName)) ∈ WL := WL_t (in_tables_1_5 (List.mem_of_getElem? (i := 101) rfl)) rfl
theorem q1062 : (Jvm.Cond.selects "IcehighwayModel" ({ cls := "IcehighwayModel", name := "kilos", desc := "(II)I" } : Jvm.MethodName) ({ cls := "IcehighwayModel", name := "kilos", desc := "(II)I" } : Jvm.MethodName)) ∈ WL := WL_t (in_tables_1_5 (List.mem_of_getElem? (i := 102) rfl)) rfl
theorem q1063 : (Jvm.Cond.code ({ cls := "IcehighwayModel", name := "kilos", desc := "(II)I" } : Jvm.MethodName) prog_6_method_54_code (3 : Nat) (Option.some Jvm.ClassFile.FieldType.int)) ∈ WL := WL_t (in_tables_1_5 (List.mem_of_getElem? (i := 103) rfl)) rfl
theorem q1064 : (Jvm.Cond.methodLink "IcehighwayModel" (206 : Nat) ({ cls := "IcehighwayModel", name := "missing", desc := "(I)I" } : Jvm.MethodName)) ∈ WL := WL_t (in_tables_1_5 (List.mem_of_getElem? (i := 104) rfl)) rfl
theorem q1065 : (Jvm.Cond.privateMethod ({ cls := "IcehighwayModel", name := "missing", desc := "(I)I" } : Jvm.MethodName)) ∈ XL := XL_t (in_tables_1_5 (List.mem_of_getElem? (i := 105) rfl)) rfl
theorem q1066 : (Jvm.Cond.instanceMethod ({ cls := "IcehighwayModel", name := "missing", desc := "(I)I" } : Jvm.MethodName)) ∈ WL := WL_t (in_tables_1_5 (List.mem_of_getElem? (i := 106) rfl)) rfl
theorem q1067 : (Jvm.Cond.code ({ cls := "IcehighwayModel", name := "missing", desc := "(I)I" } : Jvm.MethodName) prog_6_method_53_code (2 : Nat) (Option.some Jvm.ClassFile.FieldType.int)) ∈ WL := WL_t (in_tables_1_5 (List.mem_of_getElem? (i := 107) rfl)) rfl
theorem q1068 : (Jvm.Cond.methodLink "IcehighwayModel" (209 : Nat) ({ cls := "IcehighwayModel", name := "carried", desc := "(IZ)I" } : Jvm.MethodName)) ∈ WL := WL_t (in_tables_1_5 (List.mem_of_getElem? (i := 108) rfl)) rfl
theorem q1069 : (Jvm.Cond.privateMethod ({ cls := "IcehighwayModel", name := "carried", desc := "(IZ)I" } : Jvm.MethodName)) ∈ XL := XL_t (in_tables_1_5 (List.mem_of_getElem? (i := 109) rfl)) rfl
theorem q1070 : (Jvm.Cond.instanceMethod ({ cls := "IcehighwayModel", name := "carried", desc := "(IZ)I" } : Jvm.MethodName)) ∈ WL := WL_t (in_tables_1_5 (List.mem_of_getElem? (i := 110) rfl)) rfl
theorem q1071 : (Jvm.Cond.code ({ cls := "IcehighwayModel", name := "carried", desc := "(IZ)I" } : Jvm.MethodName) prog_6_method_52_code (5 : Nat) (Option.some Jvm.ClassFile.FieldType.int)) ∈ WL := WL_t (in_tables_1_5 (List.mem_of_getElem? (i := 111) rfl)) rfl
theorem q1072 : (Jvm.Cond.methodLink "IcehighwayLaw" (191 : Nat) ({ cls := "IcehighwayModel", name := "kilosAnew", desc := "(I)I" } : Jvm.MethodName)) ∈ WL := WL_t (in_tables_1_5 (List.mem_of_getElem? (i := 112) rfl)) rfl
theorem q1073 : (Jvm.Cond.instanceMethod ({ cls := "IcehighwayModel", name := "kilosAnew", desc := "(I)I" } : Jvm.MethodName)) ∈ WL := WL_t (in_tables_1_5 (List.mem_of_getElem? (i := 113) rfl)) rfl
theorem q1074 : (Jvm.Cond.selects "IcehighwayModel" ({ cls := "IcehighwayModel", name := "kilosAnew", desc := "(I)I" } : Jvm.MethodName) ({ cls := "IcehighwayModel", name := "kilosAnew", desc := "(I)I" } : Jvm.MethodName)) ∈ WL := WL_t (in_tables_1_5 (List.mem_of_getElem? (i := 114) rfl)) rfl
theorem q1075 : (Jvm.Cond.code ({ cls := "IcehighwayModel", name := "kilosAnew", desc := "(I)I" } : Jvm.MethodName) prog_6_method_55_code (2 : Nat) (Option.some Jvm.ClassFile.FieldType.int)) ∈ WL := WL_t (in_tables_1_5 (List.mem_of_getElem? (i := 115) rfl)) rfl
theorem q1076 : (Jvm.Cond.methodLink "IcehighwayLaw" (196 : Nat) ({ cls := "IcehighwayModel", name := "bill", desc := "()J" } : Jvm.MethodName)) ∈ WL := WL_t (in_tables_1_5 (List.mem_of_getElem? (i := 116) rfl)) rfl
theorem q1077 : (Jvm.Cond.instanceMethod ({ cls := "IcehighwayModel", name := "bill", desc := "()J" } : Jvm.MethodName)) ∈ WL := WL_t (in_tables_1_5 (List.mem_of_getElem? (i := 117) rfl)) rfl
theorem q1078 : (Jvm.Cond.selects "IcehighwayModel" ({ cls := "IcehighwayModel", name := "bill", desc := "()J" } : Jvm.MethodName) ({ cls := "IcehighwayModel", name := "bill", desc := "()J" } : Jvm.MethodName)) ∈ WL := WL_t (in_tables_1_5 (List.mem_of_getElem? (i := 118) rfl)) rfl
theorem q1079 : (Jvm.Cond.code ({ cls := "IcehighwayModel", name := "bill", desc := "()J" } : Jvm.MethodName) prog_6_method_56_code (4 : Nat) (Option.some Jvm.ClassFile.FieldType.long)) ∈ WL := WL_t (in_tables_1_5 (List.mem_of_getElem? (i := 119) rfl)) rfl
theorem q1080 : (Jvm.Cond.constantLong "IcehighwayModel" (213 : Nat) (40 : Int64)) ∈ WL := WL_t (in_tables_1_5 (List.mem_of_getElem? (i := 120) rfl)) rfl
theorem q1081 : (Jvm.Cond.arrayClass Jvm.ClassFile.FieldType.long) ∈ WL := WL_t (in_tables_1_5 (List.mem_of_getElem? (i := 121) rfl)) rfl
theorem q1082 : (Jvm.Cond.sameMethod "java/lang/Throwable" "java/lang/Throwable" "fillInStackTrace" "(I)Ljava/lang/Throwable;") ∈ WL := WL_t (in_tables_1_5 (List.mem_of_getElem? (i := 122) rfl)) rfl
theorem q1083 : (Jvm.Cond.castable "Icehighway" "java/lang/Object") ∈ XL := XL_t (in_tables_1_5 (List.mem_of_getElem? (i := 123) rfl)) rfl
theorem q1084 : (Jvm.Cond.castable "java/util/ArrayList" "java/lang/Object") ∈ XL := XL_t (in_tables_1_5 (List.mem_of_getElem? (i := 124) rfl)) rfl
theorem q1085 : (Jvm.Cond.castable "IcehighwayModel" "java/lang/Object") ∈ XL := XL_t (in_tables_1_5 (List.mem_of_getElem? (i := 125) rfl)) rfl
theorem q1086 : (Jvm.Cond.castable "java/lang/IllegalArgumentException" "java/lang/Object") ∈ XL := XL_t (in_tables_1_5 (List.mem_of_getElem? (i := 126) rfl)) rfl
theorem q1087 : (Jvm.Cond.castable "java/lang/IllegalStateException" "java/lang/Object") ∈ XL := XL_t (in_tables_1_5 (List.mem_of_getElem? (i := 127) rfl)) rfl
theorem q1088 : (Jvm.Cond.castable "Icehighway$Piece" "java/lang/Object") ∈ XL := XL_t (in_tables_1_5 (List.mem_of_getElem? (i := 128) rfl)) rfl
theorem q1089 : (Jvm.Cond.castable "java/lang/IndexOutOfBoundsException" "java/lang/Object") ∈ XL := XL_t (in_tables_1_5 (List.mem_of_getElem? (i := 129) rfl)) rfl
theorem q1090 : (Jvm.Cond.castable "Icehighway$Vehicle" "java/lang/Object") ∈ XL := XL_t (in_tables_1_5 (List.mem_of_getElem? (i := 130) rfl)) rfl
theorem q1091 : (Jvm.Cond.castable "Icehighway$Load" "java/lang/Object") ∈ XL := XL_t (in_tables_1_5 (List.mem_of_getElem? (i := 131) rfl)) rfl
theorem q1092 : (Jvm.Cond.castable "java/lang/Throwable" "java/lang/Object") ∈ XL := XL_t (in_tables_1_5 (List.mem_of_getElem? (i := 132) rfl)) rfl
theorem q1093 : (Jvm.Cond.castable "java/lang/String" "java/lang/Object") ∈ XL := XL_t (in_tables_1_5 (List.mem_of_getElem? (i := 133) rfl)) rfl
theorem q1094 : (Jvm.Cond.sameMethod "[Ljava/lang/Object;" "java/lang/Object" "getClass" "()Ljava/lang/Class;") ∈ WL := WL_t (in_tables_1_5 (List.mem_of_getElem? (i := 134) rfl)) rfl
theorem q1095 : (Jvm.Cond.selects "[Ljava/lang/Object;" ({ cls := "java/lang/Object", name := "getClass", desc := "()Ljava/lang/Class;" } : Jvm.MethodName) ({ cls := "java/lang/Object", name := "getClass", desc := "()Ljava/lang/Class;" } : Jvm.MethodName)) ∈ WL := WL_t (in_tables_1_5 (List.mem_of_getElem? (i := 135) rfl)) rfl
theorem q1096 : (Jvm.Cond.declares ({ cls := "java/lang/Object", name := "getClass", desc := "()Ljava/lang/Class;" } : Jvm.MethodName)) ∈ XL := XL_t (in_tables_1_5 (List.mem_of_getElem? (i := 136) rfl)) rfl
theorem q1097 : (Jvm.Cond.castable "[I" "java/lang/Object") ∈ XL := XL_t (in_tables_1_5 (List.mem_of_getElem? (i := 137) rfl)) rfl
theorem q1098 : (Jvm.Cond.castable "[B" "java/lang/Object") ∈ XL := XL_t (in_tables_1_5 (List.mem_of_getElem? (i := 138) rfl)) rfl
theorem q1099 : (Jvm.Cond.castable "[Ljava/lang/Object;" "java/lang/Object") ∈ XL := XL_t (in_tables_1_5 (List.mem_of_getElem? (i := 139) rfl)) rfl
theorem q1100 : (Jvm.Cond.castable "[D" "java/lang/Object") ∈ XL := XL_t (in_tables_1_5 (List.mem_of_getElem? (i := 140) rfl)) rfl
theorem q1101 : (Jvm.Cond.castable "[Z" "java/lang/Object") ∈ XL := XL_t (in_tables_1_5 (List.mem_of_getElem? (i := 141) rfl)) rfl
theorem q1102 : (Jvm.Cond.castable "[J" "java/lang/Object") ∈ XL := XL_t (in_tables_1_5 (List.mem_of_getElem? (i := 142) rfl)) rfl
theorem in_lw_privs_1 {w : MethodName × Nat} (h : w ∈ lw_privs_1) : w ∈ lw_privs := List.mem_append_left _ h
theorem qp0 : Cond.selects "Icehighway" ⟨"Icehighway", "kilosMissing", "(I)I"⟩ ⟨"Icehighway", "kilosMissing", "(I)I"⟩ ∈ WL := WL_p (in_lw_privs_1 (List.mem_of_getElem? (i := 0) rfl))
theorem qp1 : Cond.selects "java/lang/Throwable" ⟨"java/lang/Throwable", "fillInStackTrace", "(I)Ljava/lang/Throwable;"⟩ ⟨"java/lang/Throwable", "fillInStackTrace", "(I)Ljava/lang/Throwable;"⟩ ∈ WL := WL_p (in_lw_privs_1 (List.mem_of_getElem? (i := 1) rfl))
theorem qp2 : Cond.selects "java/util/ArrayList" ⟨"java/util/ArrayList", "add", "(Ljava/lang/Object;[Ljava/lang/Object;I)V"⟩ ⟨"java/util/ArrayList", "add", "(Ljava/lang/Object;[Ljava/lang/Object;I)V"⟩ ∈ WL := WL_p (in_lw_privs_1 (List.mem_of_getElem? (i := 2) rfl))
theorem qp3 : Cond.selects "java/util/ArrayList" ⟨"java/util/ArrayList", "grow", "()[Ljava/lang/Object;"⟩ ⟨"java/util/ArrayList", "grow", "()[Ljava/lang/Object;"⟩ ∈ WL := WL_p (in_lw_privs_1 (List.mem_of_getElem? (i := 3) rfl))
theorem qp4 : Cond.selects "java/util/ArrayList" ⟨"java/util/ArrayList", "grow", "(I)[Ljava/lang/Object;"⟩ ⟨"java/util/ArrayList", "grow", "(I)[Ljava/lang/Object;"⟩ ∈ WL := WL_p (in_lw_privs_1 (List.mem_of_getElem? (i := 4) rfl))
theorem qp5 : Cond.selects "Icehighway" ⟨"Icehighway", "pieceNumbered", "(I)LIcehighway$Piece;"⟩ ⟨"Icehighway", "pieceNumbered", "(I)LIcehighway$Piece;"⟩ ∈ WL := WL_p (in_lw_privs_1 (List.mem_of_getElem? (i := 5) rfl))
theorem qp6 : Cond.selects "Icehighway" ⟨"Icehighway", "vehicleNumbered", "(I)LIcehighway$Vehicle;"⟩ ⟨"Icehighway", "vehicleNumbered", "(I)LIcehighway$Vehicle;"⟩ ∈ WL := WL_p (in_lw_privs_1 (List.mem_of_getElem? (i := 6) rfl))
theorem qp7 : Cond.selects "Icehighway" ⟨"Icehighway", "stopAtEnd", "(LIcehighway$Vehicle;)V"⟩ ⟨"Icehighway", "stopAtEnd", "(LIcehighway$Vehicle;)V"⟩ ∈ WL := WL_p (in_lw_privs_1 (List.mem_of_getElem? (i := 7) rfl))
theorem qp8 : Cond.selects "Icehighway" ⟨"Icehighway", "unload", "(LIcehighway$Vehicle;)V"⟩ ⟨"Icehighway", "unload", "(LIcehighway$Vehicle;)V"⟩ ∈ WL := WL_p (in_lw_privs_1 (List.mem_of_getElem? (i := 8) rfl))
theorem qp9 : Cond.selects "Icehighway" ⟨"Icehighway", "passOneMinute", "()V"⟩ ⟨"Icehighway", "passOneMinute", "()V"⟩ ∈ WL := WL_p (in_lw_privs_1 (List.mem_of_getElem? (i := 9) rfl))
theorem qp10 : Cond.selects "Icehighway" ⟨"Icehighway", "endDay", "()V"⟩ ⟨"Icehighway", "endDay", "()V"⟩ ∈ WL := WL_p (in_lw_privs_1 (List.mem_of_getElem? (i := 10) rfl))
theorem qp11 : Cond.selects "Icehighway$Piece" ⟨"Icehighway$Piece", "growth", "(I)I"⟩ ⟨"Icehighway$Piece", "growth", "(I)I"⟩ ∈ WL := WL_p (in_lw_privs_1 (List.mem_of_getElem? (i := 11) rfl))
theorem qp12 : Cond.selects "Icehighway" ⟨"Icehighway", "moveOn", "(LIcehighway$Vehicle;)V"⟩ ⟨"Icehighway", "moveOn", "(LIcehighway$Vehicle;)V"⟩ ∈ WL := WL_p (in_lw_privs_1 (List.mem_of_getElem? (i := 12) rfl))
theorem qp13 : Cond.selects "Icehighway" ⟨"Icehighway", "leave", "(LIcehighway$Vehicle;)V"⟩ ⟨"Icehighway", "leave", "(LIcehighway$Vehicle;)V"⟩ ∈ WL := WL_p (in_lw_privs_1 (List.mem_of_getElem? (i := 13) rfl))
theorem qp14 : Cond.selects "Icehighway" ⟨"Icehighway", "whatIsAgainst", "(LIcehighway$Vehicle;)I"⟩ ⟨"Icehighway", "whatIsAgainst", "(LIcehighway$Vehicle;)I"⟩ ∈ WL := WL_p (in_lw_privs_1 (List.mem_of_getElem? (i := 14) rfl))
theorem qp15 : Cond.selects "Icehighway" ⟨"Icehighway", "pieceAhead", "(LIcehighway$Vehicle;)LIcehighway$Piece;"⟩ ⟨"Icehighway", "pieceAhead", "(LIcehighway$Vehicle;)LIcehighway$Piece;"⟩ ∈ WL := WL_p (in_lw_privs_1 (List.mem_of_getElem? (i := 15) rfl))
theorem in_lw_privs_2 {w : MethodName × Nat} (h : w ∈ lw_privs_2) : w ∈ lw_privs := List.mem_append_right _ (List.mem_append_left _ h)
theorem qp16 : Cond.selects "Icehighway" ⟨"Icehighway", "comeOnto", "(LIcehighway$Vehicle;)V"⟩ ⟨"Icehighway", "comeOnto", "(LIcehighway$Vehicle;)V"⟩ ∈ WL := WL_p (in_lw_privs_2 (List.mem_of_getElem? (i := 0) rfl))
theorem qp17 : Cond.selects "Icehighway" ⟨"Icehighway", "kilosInVehicles", "(IZ)I"⟩ ⟨"Icehighway", "kilosInVehicles", "(IZ)I"⟩ ∈ WL := WL_p (in_lw_privs_2 (List.mem_of_getElem? (i := 1) rfl))
theorem qp18 : Cond.selects "IcehighwayModel" ⟨"IcehighwayModel", "fails", "(I)Z"⟩ ⟨"IcehighwayModel", "fails", "(I)Z"⟩ ∈ WL := WL_p (in_lw_privs_2 (List.mem_of_getElem? (i := 2) rfl))
theorem qp19 : Cond.selects "IcehighwayModel" ⟨"IcehighwayModel", "isPiece", "(I)Z"⟩ ⟨"IcehighwayModel", "isPiece", "(I)Z"⟩ ∈ WL := WL_p (in_lw_privs_2 (List.mem_of_getElem? (i := 3) rfl))
theorem qp20 : Cond.selects "IcehighwayModel" ⟨"IcehighwayModel", "isWater", "(I)Z"⟩ ⟨"IcehighwayModel", "isWater", "(I)Z"⟩ ∈ WL := WL_p (in_lw_privs_2 (List.mem_of_getElem? (i := 4) rfl))
theorem qp21 : Cond.selects "IcehighwayModel" ⟨"IcehighwayModel", "thick", "(I)D"⟩ ⟨"IcehighwayModel", "thick", "(I)D"⟩ ∈ WL := WL_p (in_lw_privs_2 (List.mem_of_getElem? (i := 5) rfl))
theorem qp22 : Cond.selects "IcehighwayModel" ⟨"IcehighwayModel", "isVehicle", "(I)Z"⟩ ⟨"IcehighwayModel", "isVehicle", "(I)Z"⟩ ∈ WL := WL_p (in_lw_privs_2 (List.mem_of_getElem? (i := 6) rfl))
theorem qp23 : Cond.selects "IcehighwayModel" ⟨"IcehighwayModel", "weight", "(I)I"⟩ ⟨"IcehighwayModel", "weight", "(I)I"⟩ ∈ WL := WL_p (in_lw_privs_2 (List.mem_of_getElem? (i := 7) rfl))
theorem qp24 : Cond.selects "IcehighwayModel" ⟨"IcehighwayModel", "isThere", "(I)Z"⟩ ⟨"IcehighwayModel", "isThere", "(I)Z"⟩ ∈ WL := WL_p (in_lw_privs_2 (List.mem_of_getElem? (i := 8) rfl))
theorem qp25 : Cond.selects "IcehighwayModel" ⟨"IcehighwayModel", "arrives", "(I)V"⟩ ⟨"IcehighwayModel", "arrives", "(I)V"⟩ ∈ WL := WL_p (in_lw_privs_2 (List.mem_of_getElem? (i := 9) rfl))
theorem qp26 : Cond.selects "IcehighwayModel" ⟨"IcehighwayModel", "unloads", "(IZ)V"⟩ ⟨"IcehighwayModel", "unloads", "(IZ)V"⟩ ∈ WL := WL_p (in_lw_privs_2 (List.mem_of_getElem? (i := 10) rfl))
theorem qp27 : Cond.selects "IcehighwayModel" ⟨"IcehighwayModel", "passes", "()V"⟩ ⟨"IcehighwayModel", "passes", "()V"⟩ ∈ WL := WL_p (in_lw_privs_2 (List.mem_of_getElem? (i := 11) rfl))
theorem qp28 : Cond.selects "IcehighwayModel" ⟨"IcehighwayModel", "ends", "()V"⟩ ⟨"IcehighwayModel", "ends", "()V"⟩ ∈ WL := WL_p (in_lw_privs_2 (List.mem_of_getElem? (i := 12) rfl))
theorem qp29 : Cond.selects "IcehighwayModel" ⟨"IcehighwayModel", "freezes", "(I)V"⟩ ⟨"IcehighwayModel", "freezes", "(I)V"⟩ ∈ WL := WL_p (in_lw_privs_2 (List.mem_of_getElem? (i := 13) rfl))
theorem qp30 : Cond.selects "IcehighwayModel" ⟨"IcehighwayModel", "thaws", "(I)V"⟩ ⟨"IcehighwayModel", "thaws", "(I)V"⟩ ∈ WL := WL_p (in_lw_privs_2 (List.mem_of_getElem? (i := 14) rfl))
theorem qp31 : Cond.selects "IcehighwayModel" ⟨"IcehighwayModel", "leaves", "(I)V"⟩ ⟨"IcehighwayModel", "leaves", "(I)V"⟩ ∈ WL := WL_p (in_lw_privs_2 (List.mem_of_getElem? (i := 15) rfl))
theorem in_lw_privs_3 {w : MethodName × Nat} (h : w ∈ lw_privs_3) : w ∈ lw_privs := List.mem_append_right _ (List.mem_append_right _ (h))
theorem qp32 : Cond.selects "IcehighwayModel" ⟨"IcehighwayModel", "against", "(I)I"⟩ ⟨"IcehighwayModel", "against", "(I)I"⟩ ∈ WL := WL_p (in_lw_privs_3 (List.mem_of_getElem? (i := 0) rfl))
theorem qp33 : Cond.selects "IcehighwayModel" ⟨"IcehighwayModel", "nextPiece", "(I)I"⟩ ⟨"IcehighwayModel", "nextPiece", "(I)I"⟩ ∈ WL := WL_p (in_lw_privs_3 (List.mem_of_getElem? (i := 1) rfl))
theorem qp34 : Cond.selects "IcehighwayModel" ⟨"IcehighwayModel", "isMet", "(II)Z"⟩ ⟨"IcehighwayModel", "isMet", "(II)Z"⟩ ∈ WL := WL_p (in_lw_privs_3 (List.mem_of_getElem? (i := 2) rfl))
theorem qp35 : Cond.selects "IcehighwayModel" ⟨"IcehighwayModel", "weights", "(I)I"⟩ ⟨"IcehighwayModel", "weights", "(I)I"⟩ ∈ WL := WL_p (in_lw_privs_3 (List.mem_of_getElem? (i := 3) rfl))
theorem qp36 : Cond.selects "IcehighwayModel" ⟨"IcehighwayModel", "bearsBy", "(ID)I"⟩ ⟨"IcehighwayModel", "bearsBy", "(ID)I"⟩ ∈ WL := WL_p (in_lw_privs_3 (List.mem_of_getElem? (i := 4) rfl))
theorem qp37 : Cond.selects "IcehighwayModel" ⟨"IcehighwayModel", "comes", "(I)V"⟩ ⟨"IcehighwayModel", "comes", "(I)V"⟩ ∈ WL := WL_p (in_lw_privs_3 (List.mem_of_getElem? (i := 5) rfl))
theorem qp38 : Cond.selects "IcehighwayModel" ⟨"IcehighwayModel", "minutesOn", "(II)I"⟩ ⟨"IcehighwayModel", "minutesOn", "(II)I"⟩ ∈ WL := WL_p (in_lw_privs_3 (List.mem_of_getElem? (i := 6) rfl))
theorem qp39 : Cond.selects "IcehighwayModel" ⟨"IcehighwayModel", "speedOn", "(II)I"⟩ ⟨"IcehighwayModel", "speedOn", "(II)I"⟩ ∈ WL := WL_p (in_lw_privs_3 (List.mem_of_getElem? (i := 7) rfl))
theorem qp40 : Cond.selects "IcehighwayModel" ⟨"IcehighwayModel", "many", "(I)I"⟩ ⟨"IcehighwayModel", "many", "(I)I"⟩ ∈ WL := WL_p (in_lw_privs_3 (List.mem_of_getElem? (i := 8) rfl))
theorem qp41 : Cond.selects "IcehighwayModel" ⟨"IcehighwayModel", "missing", "(I)I"⟩ ⟨"IcehighwayModel", "missing", "(I)I"⟩ ∈ WL := WL_p (in_lw_privs_3 (List.mem_of_getElem? (i := 9) rfl))
theorem qp42 : Cond.selects "IcehighwayModel" ⟨"IcehighwayModel", "carried", "(IZ)I"⟩ ⟨"IcehighwayModel", "carried", "(IZ)I"⟩ ∈ WL := WL_p (in_lw_privs_3 (List.mem_of_getElem? (i := 10) rfl))
end
section
/-! ===== worlds as functions of (kind, index): a world is a partial map to addresses and what lies there ===== -/
abbrev WD : Type := Nat → Nat → Option (Nat × va_E)
def fP (D : va_G) (w : WD) (H : Heap) : Prop := ∀ (k i : Nat) (q : Nat × va_E), w k i = some q → va_at D vwCl q H
def fD (A : Nat → Prop) (w : WD) : Prop := (∀ (k i k' i' : Nat) (q q' : Nat × va_E), w k i = some q → w k' i' = some q' → q.1 = q'.1 → k = k' ∧ i = i') ∧ ∀ (k i : Nat) (q : Nat × va_E), w k i = some q → A q.1
def fU (w : WD) (k i : Nat) (x : Nat × va_E) : WD := fun k' i' => if k' = k ∧ i' = i then some x else w k' i'
def fA (w : WD) (sz : Nat) : Nat → Prop := fun q => (∃ (k i : Nat) (e : va_E), w k i = some (q, e)) ∨ sz ≤ q
abbrev TYS (T : Nat → ClassId) : List (ClassId × FieldType) := [(T 0, .int), (T 1, .double), (T 2, .boolean), (T 3, .long), (T 4, .object "java/lang/Object")]
/-- world, distinctness, frame: all that a walk carries of the heap -/
def fI (D : va_G) (A : Nat → Prop) (H0 : Heap) (w : WD) (H : Heap) (locs : List Loc) : Prop := fP D w H ∧ fD A w ∧ va_S A H0 H locs ∧ ∀ q, H0.size ≤ q → A q
theorem fU_same {w : WD} {k i : Nat} {x : Nat × va_E} : fU w k i x k i = some x := if_pos ⟨rfl, rfl⟩
theorem fU_ne {w : WD} {k i k' i' : Nat} {x : Nat × va_E} (h : ¬ (k' = k ∧ i' = i)) : fU w k i x k' i' = w k' i' := if_neg h
theorem fP.lt {D : va_G} {w : WD} {H : Heap} (h : fP D w H) {k i : Nat} {q : Nat × va_E} (hk : w k i = some q) : q.1 < H.size := (h k i q hk).lt
theorem fA.in {w : WD} {sz k i : Nat} {q : Nat × va_E} (h : w k i = some q) : fA w sz q.1 := Or.inl ⟨k, i, q.2, h⟩
theorem fD.weaken {A B : Nat → Prop} {w : WD} (h : fD A w) (hAB : ∀ q, A q → B q) : fD B w := ⟨h.1, fun k i q hk => hAB _ (h.2 k i q hk)⟩
theorem fI.free {D : va_G} {A : Nat → Prop} {H0 : Heap} {w : WD} {H : Heap} {locs : List Loc} (h : fI D A H0 w H locs) : ∀ q, fA w H.size q → A q := by
  intro q hq
  rcases hq with ⟨k, i, e, he⟩ | hq
  · exact h.2.1.2 k i (q, e) he
  · exact h.2.2.2 q (Nat.le_trans h.2.2.1.1 hq)
theorem fI.set {D : va_G} {A : Nat → Prop} {H0 : Heap} {w : WD} {H H1 : Heap} {locs : List Loc} (h : fI D A H0 w H locs) {k i a j : Nat} {e0 e : va_E} (he : w k i = some (a, e0)) (hat : va_at D vwCl (a, e) H1) (z : H1.size = H.size) (oq : ∀ q : Nat, q ≠ a → H1[q]? = H[q]?) : fI D A H0 (fU w k i (a, e)) H1 (locs ++ [⟨a, j⟩]) := by
  obtain ⟨hP, hD, hS, hA⟩ := h
  refine ⟨fun k' i' q hq => ?_, ⟨fun k1 i1 k2 i2 q1 q2 h1 h2 h3 => ?_, fun k' i' q hq => ?_⟩, hS.put z oq (hD.2 k i _ he), hA⟩
  · by_cases c : k' = k ∧ i' = i
    · obtain ⟨rfl, rfl⟩ := c
      rw [fU_same] at hq
      cases hq
      exact hat
    · rw [fU_ne c] at hq
      exact (hP k' i' q hq).kept (oq q.1 (fun z => c (hD.1 k' i' k i q (a, e0) hq he z)))
  · have key : ∀ (k' i' : Nat) (q : Nat × va_E), fU w k i (a, e) k' i' = some q → ∃ q0, w k' i' = some q0 ∧ q0.1 = q.1 := by
      intro k' i' q hq
      by_cases c : k' = k ∧ i' = i
      · obtain ⟨rfl, rfl⟩ := c
        rw [fU_same] at hq
        cases hq
        exact ⟨_, he, rfl⟩
      · rw [fU_ne c] at hq
        exact ⟨q, hq, rfl⟩
    obtain ⟨p1, a1, b1⟩ := key k1 i1 q1 h1
    obtain ⟨p2, a2, b2⟩ := key k2 i2 q2 h2
    exact hD.1 k1 i1 k2 i2 p1 p2 a1 a2 (b1.trans (h3.trans b2.symm))
  · by_cases c : k' = k ∧ i' = i
    · obtain ⟨rfl, rfl⟩ := c
      rw [fU_same] at hq
      cases hq
      exact (show A a from hD.2 k' i' (a, e0) he)
    · rw [fU_ne c] at hq
      exact hD.2 k' i' q hq
theorem fI.push {D : va_G} {A : Nat → Prop} {H0 : Heap} {w : WD} {H H1 : Heap} {locs : List Loc} (h : fI D A H0 w H locs) {k i : Nat} {e : va_E} (hn : w k i = none) (hat : va_at D vwCl (H.size, e) H1) (z : H1.size = H.size + 1) (oq : ∀ q : Nat, q < H.size → H1[q]? = H[q]?) : fI D A H0 (fU w k i (H.size, e)) H1 locs := by
  obtain ⟨hP, hD, hS, hA⟩ := h
  have key : ∀ (k' i' : Nat) (q : Nat × va_E), fU w k i (H.size, e) k' i' = some q → (k' = k ∧ i' = i ∧ q = (H.size, e)) ∨ (w k' i' = some q ∧ q.1 < H.size) := by
    intro k' i' q hq
    by_cases c : k' = k ∧ i' = i
    · obtain ⟨rfl, rfl⟩ := c
      rw [fU_same] at hq
      cases hq
      exact Or.inl ⟨rfl, rfl, rfl⟩
    · rw [fU_ne c] at hq
      exact Or.inr ⟨hq, (hP k' i' q hq).lt⟩
  refine ⟨fun k' i' q hq => ?_, ⟨fun k1 i1 k2 i2 q1 q2 h1 h2 h3 => ?_, fun k' i' q hq => ?_⟩, ⟨Nat.le_trans hS.1 (by omega), fun x h1 h2 => (oq x (Nat.lt_of_lt_of_le h1 hS.1)).trans (hS.2.1 x h1 h2), hS.2.2⟩, hA⟩
  · rcases key k' i' q hq with ⟨-, -, rfl⟩ | ⟨g, gl⟩
    · exact hat
    · exact (hP k' i' q g).kept (oq q.1 gl)
  · rcases key k1 i1 q1 h1 with ⟨e1, e2, rfl⟩ | ⟨g1, l1⟩ <;> rcases key k2 i2 q2 h2 with ⟨e3, e4, rfl⟩ | ⟨g2, l2⟩
    · exact ⟨e1.trans e3.symm, e2.trans e4.symm⟩
    · exact absurd h3 (fun z => by simp only at z; omega)
    · exact absurd h3 (fun z => by simp only at z; omega)
    · exact hD.1 k1 i1 k2 i2 q1 q2 g1 g2 h3
  · rcases key k' i' q hq with ⟨-, -, rfl⟩ | ⟨g, -⟩
    · exact hA _ hS.1
    · exact hD.2 k' i' q g
/-- a world that is a part of another -/
theorem fI.sub {D : va_G} {A : Nat → Prop} {H0 : Heap} {w w' : WD} {H : Heap} {locs : List Loc} (h : fI D A H0 w H locs) (hs : ∀ k i q, w' k i = some q → w k i = some q) : fI D A H0 w' H locs :=
  ⟨fun k i q hq => h.1 k i q (hs k i q hq), ⟨fun k i k' i' q q' a b => h.2.1.1 k i k' i' q q' (hs _ _ _ a) (hs _ _ _ b), fun k i q hq => h.2.1.2 k i q (hs k i q hq)⟩, h.2.2.1, h.2.2.2⟩
/-! ===== what a method takes of the launch: words of faces, texts, statics ===== -/
def SLs : List (String × Nat × String) := [("Icehighway", 227, "a value is out of range"), ("Icehighway", 58, "no more pieces can be laid"), ("Icehighway", 235, "there is no such piece"), ("Icehighway", 91, "the piece can't be flooded so"), ("Icehighway", 109, "no vehicle can be added"), ("Icehighway", 237, "there is no such vehicle"), ("Icehighway", 232, "there are no such goods"), ("Icehighway", 132, "the vehicle can't be loaded"), ("Icehighway", 142, "the vehicle is not at the base or the mine"), ("Icehighway", 148, "the vehicle is not at a ramp"), ("Icehighway", 156, "the mine would have ordered too much"), ("Icehighway", 159, "the minute would be too high")]
def EV (z : Nat) (A : Nat → Prop) (U : State) (H : Heap) : Prop :=
  (∀ w ∈ XL, w.before #[] U = true) ∧ (∀ q ∈ SLs, ∃ a, vk_R q.1 q.2.1 q.2.2 a U) ∧ vx_Zq Bundle.tN "UNASSIGNED_STACK" Bundle.steD A U H ∧ vx_Zq Bundle.tN "SUPPRESSED_SENTINEL" Bundle.listD A U H ∧ va_Z "java/util/ArrayList" "DEFAULTCAPACITY_EMPTY_ELEMENTDATA" "[Ljava/lang/Object;" (.ref z) A U H ∧ va_T (.object "java/lang/Object") z 0 (fun _ => .null) A U H
theorem XL_warm {s U : State} (hW : s.WarmedH U.vm) {w : Cond} (hw : w ∈ XL) (h : w.before #[] s = true) : w.before #[] U = true := by
  have hx := (List.mem_filter.mp hw).2
  simp only [XF, Bool.and_eq_true] at hx
  exact va_tabs hx.1 (rfl : (s.setVm U.vm).vm = U.vm) (Cond.faceAtom_setVm hW.alike w hx.2 h)
theorem XL_use {s : State} {args : Array Value} {w : Cond} (hw : w ∈ XL) (h : w.before #[] s = true) : w.before args s = true := by
  have hx := (List.mem_filter.mp hw).2
  simp only [XF, Bool.and_eq_true] at hx
  exact va_tabs hx.1 rfl h
theorem EV.next {z : Nat} {A B : Nat → Prop} {s U : State} {H : Heap} {locs : List Loc} (h : EV z A s s.heap) (hS : va_S A s.heap H locs) (hW : s.WarmedH U.vm) (hAB : ∀ q, B q → A q) : EV z B U H := by
  obtain ⟨h1, h2, h3, h4, h5, h6⟩ := h
  refine ⟨fun w hw => XL_warm hW hw (h1 w hw), fun q hq => ?_, ?_, ?_, ?_, ?_⟩
  · obtain ⟨a, ha⟩ := h2 q hq
    exact ⟨a, ha.warm hW⟩
  · exact ((h3.kept hS.2.1).moved hW.alike).narrow hAB
  · exact ((h4.kept hS.2.1).moved hW.alike).narrow hAB
  · exact ((h5.kept hS.2.1).moved hW.alike).narrow hAB
  · exact ((h6.kept hS.2.1).moved hW.alike).narrow hAB
theorem EV.calling {z : Nat} {A : Nat → Prop} {U : State} {g : JFrame} {mk : MethodId} {a : Array Value} (h : EV z A U U.heap) : EV z A (U.calling g mk a) (U.calling g mk a).heap := by
  obtain ⟨h1, h2, h3, h4, h5, h6⟩ := h
  have hv : U.vm.Alike (U.calling g mk a).vm := Vm.Alike.refl U.vm
  refine ⟨fun w hw => ?_, fun q hq => ?_, h3.moved hv, h4.moved hv, h5.moved hv, h6.moved hv⟩
  · have hx := (List.mem_filter.mp hw).2
    simp only [XF, Bool.and_eq_true] at hx
    exact va_tabs hx.1 (u := U) rfl (h1 w hw)
  · obtain ⟨a, ha⟩ := h2 q hq
    exact ⟨a, ha.same rfl⟩
/-- the launch, the empty array's address, the classes' numbers and slots, the array classes -/
abbrev GX : Type := Launch × Nat × va_G × (Nat → ClassId)
def FPre (G : GX) (w : WD) (sz : Nat) (U : State) : Prop := U.heap.size = sz ∧ fP G.2.2.1 w U.heap ∧ va_K G.2.2.1 vwCl (TYS G.2.2.2) U ∧ fD (fun _ => True) w ∧ EV G.2.1 (fA w sz) U U.heap
def FQ (G : GX) (w : WD) (sz : Nat) (po : Option Value → WD → Prop) : Array Value → State → Outcome → State → Prop := fun _ st oc t =>
  (∃ (v : Option Value) (w' : WD), oc = .returned v ∧ po v w' ∧ fP G.2.2.1 w' t.heap ∧ fD (fA w sz) w') ∧ va_F (fA w sz) st t
def FXq (G : GX) (w : WD) (sz : Nat) (px : String → WD → Prop) : String → State → State → Prop := fun E st t =>
  (∃ w' : WD, px E w' ∧ fP G.2.2.1 w' t.heap ∧ fD (fA w sz) w') ∧ va_F (fA w sz) st t
/-- a method's contract: from a world w and the arguments as it comes to an answer v and a world w' with po v w' -/
def FC (G : GX) (y : MethodName) (cc : ByteArray) (nL : Nat) (ret : Option FieldType) (rm : Room) (as : List Value) (w : WD) (po : Option Value → WD → Prop) : Prop :=
  ∀ sz, Met G.1 y (Cond.code y cc nL ret :: WL) rm (va_Pc as (FPre G w sz)) (FQ G w sz po) rm.cells rm.slots (fA w sz)
/-- the same of a method that may throw: px of the class' name and the world then -/
def FX (G : GX) (y : MethodName) (cc : ByteArray) (nL : Nat) (ret : Option FieldType) (rm : Room) (as : List Value) (w : WD) (po : Option Value → WD → Prop) (px : String → WD → Prop) : Prop :=
  ∀ sz, vx_Met G.1 y (Cond.code y cc nL ret :: WL) rm (va_Pc as (FPre G w sz)) (FQ G w sz po) (FXq G w sz px) rm.cells rm.slots (fA w sz)
theorem FPre.blind {G : GX} {w : WD} {sz : Nat} {as : List Value} : FrameBlind (va_Pc as (FPre G w sz)) := by
  intro a U g mk h
  obtain ⟨h0, h1, h2, h3, h4, h5⟩ := h
  exact ⟨h0, h1, h2, va_K.moved (u := U) (U := U.calling g mk a) (Vm.Alike.refl U.vm) h3, h4, h5.calling⟩
/-- what a caller owes at a call -/
theorem FPre.go {G : GX} {A : Nat → Prop} {s : State} {w : WD} {H : Heap} {locs : List Loc} (hK : va_K G.2.2.1 vwCl (TYS G.2.2.2) s) (hE : EV G.2.1 A s s.heap) (hI : fI G.2.2.1 A s.heap w H locs) {as : List Value} {U : State} (hU : U.heap = H) (hW : s.WarmedH U.vm) : va_Pc as (FPre G w H.size) as.toArray U := by
  refine ⟨rfl, by rw [hU], by rw [hU]; exact hI.1, va_K.moved hW.alike hK, hI.2.1.weaken (fun _ _ => trivial), ?_⟩
  rw [hU]
  exact hE.next hI.2.2.1 hW hI.free
theorem FC.of {G : GX} {y : MethodName} {cc : ByteArray} {nL : Nat} {ret : Option FieldType} {rm : Room} {as : List Value} {w : WD} {po : Option Value → WD → Prop} (hy : plainName y.cls = true) (hlen : (lg_sl as).length ≤ nL)
    (body : ∀ (p : Program) (e : Env) (s : State) (m : MethodId) (below : List Frame) (meth : Method) (c : Code) (A : Nat → Prop) (ls : Array Slot), p.tables.exec = Jvm.exec → c.code = cc → meth.sig.returnType = ret → (∀ w ∈ WL, w.before as.toArray s = true) → s.vm.findClass y.cls = some m.cls → c.maxLocals = nL → meth.locks = false → meth.name = y.name → va_K G.2.2.1 vwCl (TYS G.2.2.2) s → EV G.2.1 A s s.heap → fI G.2.2.1 A s.heap w s.heap [] → A = fA w s.heap.size → lv_has ls nL (lv_args 0 as) →
      W p G.1 e rm s m as.toArray below meth c s.heap [] 0 0 (MQ below (FQ G w s.heap.size po) as.toArray s rm.cells rm.slots (fA w s.heap.size)) (F0 m 0 ls [])) : FC G y cc nL ret rm as w po := by
  intro sz
  refine Met.ofW (cc := cc) (maxL := nL) (ret := ret) hy rfl ?_
  intro p e s m args below meth c s₁ B hml hv
  obtain ⟨rfl, hsz, hP, hK, hD0, hE⟩ := hv
  subst hsz
  have hts := atoms_spec (ws := Cond.code y cc nL ret :: WL) B.pre
  have hD : fD (fA w s.heap.size) w := ⟨hD0.1, fun k i q hq => fA.in hq⟩
  rw [lg_entry_eq]
  exact body p e s m below meth c (fA w s.heap.size) _ B.exec B.bytes B.returns (fun x hx => hts x (List.mem_cons_of_mem _ hx)) (findClass_of_methodNamed B.named) hml B.notSynchronized (name_of_methodNamed B.named B.method).1 hK hE ⟨hP, hD, va_S.rf, fun q h => Or.inr h⟩ rfl (lv_entry as hlen)
theorem FX.of {G : GX} {y : MethodName} {cc : ByteArray} {nL : Nat} {ret : Option FieldType} {rm : Room} {as : List Value} {w : WD} {po : Option Value → WD → Prop} {px : String → WD → Prop} (hy : plainName y.cls = true) (hlen : (lg_sl as).length ≤ nL)
    (body : ∀ (p : Program) (e : Env) (s : State) (m : MethodId) (below : List Frame) (meth : Method) (c : Code) (A : Nat → Prop) (ls : Array Slot), p.tables.exec = Jvm.exec → c.code = cc → meth.sig.returnType = ret → (∀ w ∈ WL, w.before as.toArray s = true) → s.vm.findClass y.cls = some m.cls → c.maxLocals = nL → meth.locks = false → (∀ x ∈ c.exceptionTable.toList, ∀ pc, covers x pc = false) → va_K G.2.2.1 vwCl (TYS G.2.2.2) s → EV G.2.1 A s s.heap → fI G.2.2.1 A s.heap w s.heap [] → A = fA w s.heap.size → lv_has ls nL (lv_args 0 as) →
      W p G.1 e rm s m as.toArray below meth c s.heap [] 0 0 (vx_MQ below (FQ G w s.heap.size po) (FXq G w s.heap.size px) as.toArray s rm.cells rm.slots (fA w s.heap.size)) (F0 m 0 ls [])) : FX G y cc nL ret rm as w po px := by
  intro sz
  refine vx_ofW (cc := cc) (maxL := nL) (ret := ret) hy rfl ?_
  intro p e s m args below meth c s₁ B hml ht hv
  obtain ⟨rfl, hsz, hP, hK, hD0, hE⟩ := hv
  subst hsz
  have hts := atoms_spec (ws := Cond.code y cc nL ret :: WL) B.pre
  have hD : fD (fA w s.heap.size) w := ⟨hD0.1, fun k i q hq => fA.in hq⟩
  rw [lg_entry_eq]
  exact body p e s m below meth c (fA w s.heap.size) _ B.exec B.bytes B.returns (fun x hx => hts x (List.mem_cons_of_mem _ hx)) (findClass_of_methodNamed B.named) hml B.notSynchronized (fun x hx => (ht x hx).elim) hK hE ⟨hP, hD, va_S.rf, fun q h => Or.inr h⟩ rfl (lv_entry as hlen)
end
section
/-! ===== rows over worlds that are functions ===== -/
/-- a call's words: of a virtual (or private) method, of a static one, of a constructor, of an interface's -/
def CkV (own : String) (index : Nat) (y : MethodName) (cc : ByteArray) (nL : Nat) (ret : Option FieldType) (n : Nat) : Prop :=
  Cond.code y cc nL ret ∈ WL ∧ Cond.methodLink own index y ∈ WL ∧ Cond.instanceMethod y ∈ WL ∧ Cond.selects y.cls y y ∈ WL ∧ Cond.initialized y.cls ∈ WL ∧ y.cls ≠ "java/lang/invoke/MethodHandle" ∧ y.cls ≠ "java/lang/invoke/VarHandle" ∧ (parseMethodDescriptor y.desc).map (fun d => d.parameters.length) = some n
def CkS (own : String) (index : Nat) (y : MethodName) (cc : ByteArray) (nL : Nat) (ret : Option FieldType) (n : Nat) : Prop :=
  Cond.code y cc nL ret ∈ WL ∧ Cond.methodLink own index y ∈ WL ∧ Cond.static y ∈ WL ∧ Cond.initialized y.cls ∈ WL ∧ y.cls ≠ "java/lang/invoke/MethodHandle" ∧ y.cls ≠ "java/lang/invoke/VarHandle" ∧ (parseMethodDescriptor y.desc).map (fun d => d.parameters.length) = some n
def CkI (own : String) (index : Nat) (y : MethodName) (cc : ByteArray) (nL : Nat) (n : Nat) : Prop :=
  Cond.code y cc nL none ∈ WL ∧ Cond.methodLink own index y ∈ WL ∧ Cond.instanceMethod y ∈ WL ∧ Cond.initialized y.cls ∈ WL ∧ y.name = "<init>" ∧ y.cls ≠ "java/lang/invoke/MethodHandle" ∧ y.cls ≠ "java/lang/invoke/VarHandle" ∧ (parseMethodDescriptor y.desc).map (fun d => d.parameters.length) = some n
def CkF (own : String) (index : Nat) (x y : MethodName) (cc : ByteArray) (nL : Nat) (ret : Option FieldType) (n : Nat) : Prop :=
  Cond.code y cc nL ret ∈ WL ∧ Cond.methodLink own index x ∈ WL ∧ Cond.selects y.cls x y ∈ WL ∧ Cond.instanceMethod y ∈ WL ∧ Cond.initialized y.cls ∈ WL ∧ (Cond.declares x ∈ XL ∧ Cond.interfaceMethod x.cls x.cls x.name x.desc ∈ XL ∧ Cond.publicMethod y ∈ XL ∧ Cond.unhidden y.cls x.name x.desc ∈ XL ∧ Cond.castable y.cls x.cls ∈ XL) ∧ x.cls ≠ "java/lang/invoke/MethodHandle" ∧ x.cls ≠ "java/lang/invoke/VarHandle" ∧ (parseMethodDescriptor x.desc).map (fun d => d.parameters.length) = some n
/-- contracts that tell answer and world outright -/
def pv (vv : Value) (w1 : WD) : Option Value → WD → Prop := fun v w' => v = some vv ∧ w' = w1
def p0 (w1 : WD) : Option Value → WD → Prop := fun v w' => v = none ∧ w' = w1
def pvx (thr : Option String) (vv : Value) (w1 : WD) : Option Value → WD → Prop := fun v w' => thr = none ∧ v = some vv ∧ w' = w1
def p0x (thr : Option String) (w1 : WD) : Option Value → WD → Prop := fun v w' => thr = none ∧ v = none ∧ w' = w1
def px (thr : Option String) (w0 : WD) : String → WD → Prop := fun E w' => thr = some E ∧ w' = w0
section FXR
variable {p : Program} {e : Env} {R : Room} {s : State} {m : MethodId} {args : Array Value} {below : List Frame} {meth : Method} {c : Code} {H : Heap} {locs : List Loc} {cells slots : Nat} {Q : State → Prop}
variable {cc : ByteArray} {pc : Nat} {ls : Array Slot} {rest : List Value} {G : GX} {A : Nat → Prop} {w : WD} {H0 : Heap} {own : String} {nL : Nat}
theorem fx_get (hx : p.tables.exec = Jvm.exec) (hb : c.code = cc) (hts : ∀ w ∈ WL, w.before args s = true) (hown : s.vm.findClass own = some m.cls) (hK : va_K G.2.2.1 vwCl (TYS G.2.2.2) s) (hI : fI G.2.2.1 A H0 w H locs) {ref C : String} {T : u_T} {N ci index : Nat} (hin : ∀ w ∈ u_ws C T N, w ∈ WL) (hc : vwCl[ci]? = some (C, T, N)) (f : Nat) (hf : f < N) (hlink : Cond.fieldLink own index ref (T f).2.1 (T f).2.2.1 ∈ WL) (hsame : ∀ x, s.fieldFound? (T f).1 (T f).2.1 (T f).2.2.1 = some x → s.fieldFound? ref (T f).2.1 (T f).2.2.1 = some x) {k i a : Nat} {fs : List Value} (he : w k i = some (a, .inr (ci, fs))) {v : Value} (hv : fs[f]? = some v) (hdg : decode cc pc = .ok (.getfield index, 3))
    (kk : W p G.1 e R s m args below meth c H locs cells slots Q (F0 m (pc + 3) ls (v :: rest))) : W p G.1 e R s m args below meth c H locs cells slots Q (F0 m pc ls (.ref a :: rest)) :=
  va_get (D := G.2.2.1) (cl := vwCl) (tys := TYS G.2.2.2) (ws := [(a, .inr (ci, fs))]) hx hb hts hin hown hK (fun n q hq => by
    cases n with
    | zero => cases hq; exact hI.1 k i _ he
    | succ n => simp at hq) 0 rfl hc f hf (hts _ hlink) hsame hv hdg kk
theorem fx_put (hx : p.tables.exec = Jvm.exec) (hb : c.code = cc) (hts : ∀ w ∈ WL, w.before args s = true) (hown : s.vm.findClass own = some m.cls) (hK : va_K G.2.2.1 vwCl (TYS G.2.2.2) s) (hI : fI G.2.2.1 A H0 w H locs) {ref C : String} {T : u_T} {N ci index : Nat} (hin : ∀ w ∈ u_ws C T N, w ∈ WL) (hc : vwCl[ci]? = some (C, T, N)) (ty0 : Nat → FieldType) (hty : ∀ k, k < N → parseFieldDescriptor (T k).2.2.1 = some (ty0 k)) (hnm : ∀ a, a < N → ∀ b, b < N → a ≠ b → (T a).2.1 ≠ (T b).2.1) (f : Nat) (hf : f < N) (hlink : Cond.fieldLink own index ref (T f).2.1 (T f).2.2.1 ∈ WL) (hsame : ∀ x, s.fieldFound? (T f).1 (T f).2.1 (T f).2.2.1 = some x → s.fieldFound? ref (T f).2.1 (T f).2.2.1 = some x) (hfin : (T f).2.2.2 = false) {k i a : Nat} {fs : List Value} (he : w k i = some (a, .inr (ci, fs))) {v : Value} (hn : narrow (ty0 f) v = v) (hfit : fits (ty0 f) v = true) (hl : f < fs.length) {w' : WD} (hw : fU w k i (a, .inr (ci, fs.set f v)) = w') (hdg : decode cc pc = .ok (.putfield index, 3))
    (kk : ∀ (H1 : Heap) (locs1 : List Loc), fI G.2.2.1 A H0 w' H1 locs1 → W p G.1 e R s m args below meth c H1 locs1 cells slots Q (F0 m (pc + 3) ls rest)) : W p G.1 e R s m args below meth c H locs cells slots Q (F0 m pc ls (v :: .ref a :: rest)) := by
  have hap := va_apart (own := own) hts hin ty0 hty hnm hK hc
  obtain ⟨r, h1, cell, q1, q2, q3, q4⟩ := hI.1 k i _ he
  have hr : r = (C, T, N) := Option.some.inj (h1.symm.trans hc)
  subst hr
  obtain ⟨hS, hfc, kC, hkC, hkind⟩ := hK.1 ci _ hc
  obtain ⟨cf, kf, fi, fd, hi, hsl⟩ := hS f hf
  have hlay := hts _ (hin _ (u_in_lay hf))
  unfold u_lay at hlay
  rw [if_neg (by rw [hfin]; decide)] at hlay
  have hst := (u_facts hfc hkC (u_lays hts hin hf) hi).1
  have h6 := u_store hfc hkC hkind hlay hi (hty f hf) hn hfit
  refine W.putK hx hb (f := fd) ⟨hown, hts _ hlink, ⟨_, _, _, hsame _ hi⟩, hst⟩ (by rw [q2]; exact h6) q1 q3 (by rw [hsl]; exact k2_hasslot (q4 f hf)) rfl rfl hdg fun H' e1 e2 e3 => ?_
  rw [hsl] at e1 ⊢
  have hI' := hI.set (e := .inr (ci, fs.set f v)) (j := G.2.2.1.2 ci f) he ⟨_, hc, t_OB.to (V := updV (vp_V fs) f v) ⟨_, e1, q2, q3, t_set q4 hap hf v⟩ (fun j _ => vp_updV_set hl v j)⟩ e2 e3
  rw [hw] at hI'
  exact kk H' _ hI'
theorem fx_putF (hx : p.tables.exec = Jvm.exec) (hb : c.code = cc) (hts : ∀ w ∈ WL, w.before args s = true) (hown : s.vm.findClass own = some m.cls) (hK : va_K G.2.2.1 vwCl (TYS G.2.2.2) s) (hI : fI G.2.2.1 A H0 w H locs) {ref C : String} {T : u_T} {N ci index : Nat} (hin : ∀ w ∈ u_ws C T N, w ∈ WL) (hc : vwCl[ci]? = some (C, T, N)) (ty0 : Nat → FieldType) (hty : ∀ k, k < N → parseFieldDescriptor (T k).2.2.1 = some (ty0 k)) (hnm : ∀ a, a < N → ∀ b, b < N → a ≠ b → (T a).2.1 ≠ (T b).2.1) (f : Nat) (hf : f < N) (hlink : Cond.fieldLink own index ref (T f).2.1 (T f).2.2.1 ∈ WL) (hsame : ∀ x, s.fieldFound? (T f).1 (T f).2.1 (T f).2.2.1 = some x → s.fieldFound? ref (T f).2.1 (T f).2.2.1 = some x) (hfin : (T f).2.2.2 = true) (hin2 : meth.name = "<init>") (hdecl : (T f).1 = own) {k i a : Nat} {fs : List Value} (he : w k i = some (a, .inr (ci, fs))) {v : Value} (hn : narrow (ty0 f) v = v) (hfit : fits (ty0 f) v = true) (hl : f < fs.length) {w' : WD} (hw : fU w k i (a, .inr (ci, fs.set f v)) = w') (hdg : decode cc pc = .ok (.putfield index, 3))
    (kk : ∀ (H1 : Heap) (locs1 : List Loc), fI G.2.2.1 A H0 w' H1 locs1 → W p G.1 e R s m args below meth c H1 locs1 cells slots Q (F0 m (pc + 3) ls rest)) : W p G.1 e R s m args below meth c H locs cells slots Q (F0 m pc ls (v :: .ref a :: rest)) := by
  have hap := va_apart (own := own) hts hin ty0 hty hnm hK hc
  obtain ⟨r, h1, cell, q1, q2, q3, q4⟩ := hI.1 k i _ he
  have hr : r = (C, T, N) := Option.some.inj (h1.symm.trans hc)
  subst hr
  obtain ⟨hS, hfc, kC, hkC, hkind⟩ := hK.1 ci _ hc
  obtain ⟨cf, kf, fi, fd, hi, hsl⟩ := hS f hf
  have hlay := hts _ (hin _ (u_in_lay hf))
  unfold u_lay at hlay
  rw [if_pos hfin] at hlay
  have hst := (u_facts hfc hkC (u_lays hts hin hf) hi).1
  have hcf : m.cls = cf := by
    obtain ⟨_, _, c', _, _, _, -, -, hf', -, -, -, hown2, -⟩ := Cond.laysFinal_spec hlay
    have e1 : c' = cf := by have := hi.symm.trans hf'; simp at this; exact this.1.symm
    rw [hdecl] at hown2
    rw [← e1]; exact Option.some.inj (hown.symm.trans hown2)
  have h6 := u_fits hfc hkC hkind (Or.inr hlay) hi (hty f hf) hn hfit
  refine W.putFinK hx hb hown (hts _ hlink) (hsame _ hi) hst hcf hin2 (by rw [q2]; exact h6) q1 q3 (by rw [hsl]; exact k2_hasslot (q4 f hf)) rfl rfl hdg fun H' e1 e2 e3 => ?_
  rw [hsl] at e1 ⊢
  have hI' := hI.set (e := .inr (ci, fs.set f v)) (j := G.2.2.1.2 ci f) he ⟨_, hc, t_OB.to (V := updV (vp_V fs) f v) ⟨_, e1, q2, q3, t_set q4 hap hf v⟩ (fun j _ => vp_updV_set hl v j)⟩ e2 e3
  rw [hw] at hI'
  exact kk H' _ hI'
theorem fx_new (hx : p.tables.exec = Jvm.exec) (hb : c.code = cc) (hts : ∀ w ∈ WL, w.before args s = true) (hown : s.vm.findClass own = some m.cls) (hK : va_K G.2.2.1 vwCl (TYS G.2.2.2) s) (hI : fI G.2.2.1 A H0 w H locs) {C : String} {T : u_T} {N ci index : Nat} (hin : ∀ w ∈ u_ws C T N, w ∈ WL) (hc : vwCl[ci]? = some (C, T, N)) (ty0 : Nat → FieldType) (hty : ∀ k, k < N → parseFieldDescriptor (T k).2.2.1 = some (ty0 k)) (hcl : Cond.classLink own index C ∈ WL) (hinst : Cond.instantiable C N ∈ WL) (hini : Cond.initialized C ∈ WL) {fs : List Value} (hfs : ∀ j, j < N → defaultValue (ty0 j) = vp_V fs j) (hcells : cells + 1 ≤ R.cells) (hslots : slots + N ≤ R.slots) {k i : Nat} (hn : w k i = none) (hdg : decode cc pc = .ok (.new index, 3))
    (kk : ∀ (H1 : Heap), fI G.2.2.1 A H0 (fU w k i (H.size, .inr (ci, fs))) H1 locs → H1.size = H.size + 1 → W p G.1 e R s m args below meth c H1 locs (cells + 1) (slots + N) Q (F0 m (pc + 3) ls (.ref H.size :: rest))) : W p G.1 e R s m args below meth c H locs cells slots Q (F0 m pc ls rest) := by
  have hKn := hK.1 ci _ hc
  refine W.newcK hx hb hown (hts _ hcl) (hts _ hinst) (hts _ hini) rfl hdg hcells hslots hKn.2.1 rfl fun H1 kC hkC e1 z1 o1 => ?_
  exact kk H1 (hI.push hn ⟨_, hc, (u_born ty0 hts hin hKn hkC e1 hty).to hfs⟩ z1 o1) z1
theorem fx_iald (hx : p.tables.exec = Jvm.exec) (hb : c.code = cc) (hK : va_K G.2.2.1 vwCl (TYS G.2.2.2) s) (hI : fI G.2.2.1 A H0 w H locs) {k j a n : Nat} {f : Nat → Int32} (he : w k j = some (a, .inl (G.2.2.2 0, n, .inl f))) {i : Int32} (hin : vp_in i n) (hdg : decode cc pc = .ok (.iaload, 1))
    (kk : W p G.1 e R s m args below meth c H locs cells slots Q (F0 m (pc + 1) ls (.int (f i.toNatClampNeg) :: rest))) : W p G.1 e R s m args below meth c H locs cells slots Q (F0 m pc ls (.int i :: .ref a :: rest)) := by
  have hlt : i.toNatClampNeg < n := Nat.not_le.mp fun q => hin (Or.inr q)
  exact W.iald (v := .int (f i.toNatClampNeg)) hx hb (hI.1 k j _ he) ((hK.2 0 _ rfl).1 n (fun j => .int (f j))) (fun q => by cases q) (by show ¬ (i < 0 ∨ (arrV _ _ _).slots.size ≤ _); rw [arrV_size]; exact hin) (by show (arrV _ _ _).slots[_]? = _; rw [arrV_read _ _ hlt]) rfl rfl hdg kk
theorem fx_zald (hx : p.tables.exec = Jvm.exec) (hb : c.code = cc) (hK : va_K G.2.2.1 vwCl (TYS G.2.2.2) s) (hI : fI G.2.2.1 A H0 w H locs) {k j a n : Nat} {f : Nat → Int32} (he : w k j = some (a, .inl (G.2.2.2 2, n, .inl f))) {i : Int32} (hin : vp_in i n) (hdg : decode cc pc = .ok (.baload, 1))
    (kk : W p G.1 e R s m args below meth c H locs cells slots Q (F0 m (pc + 1) ls (.int (f i.toNatClampNeg) :: rest))) : W p G.1 e R s m args below meth c H locs cells slots Q (F0 m pc ls (.int i :: .ref a :: rest)) := by
  have hlt : i.toNatClampNeg < n := Nat.not_le.mp fun q => hin (Or.inr q)
  exact W.zald (v := .int (f i.toNatClampNeg)) hx hb (hI.1 k j _ he) ((hK.2 2 _ rfl).1 n (fun j => .int (f j))) (fun q => by cases q) (by show ¬ (i < 0 ∨ (arrV _ _ _).slots.size ≤ _); rw [arrV_size]; exact hin) (by show (arrV _ _ _).slots[_]? = _; rw [arrV_read _ _ hlt]) rfl rfl hdg kk
theorem fx_dald (hx : p.tables.exec = Jvm.exec) (hb : c.code = cc) (hK : va_K G.2.2.1 vwCl (TYS G.2.2.2) s) (hI : fI G.2.2.1 A H0 w H locs) {k j a n : Nat} {f : Nat → UInt64} (he : w k j = some (a, .inl (G.2.2.2 1, n, .inr (.inr (.inr (.inl f)))))) {i : Int32} (hin : vp_in i n) (hdg : decode cc pc = .ok (.daload, 1))
    (kk : W p G.1 e R s m args below meth c H locs cells slots Q (F0 m (pc + 1) ls (.double (f i.toNatClampNeg) :: rest))) : W p G.1 e R s m args below meth c H locs cells slots Q (F0 m pc ls (.int i :: .ref a :: rest)) := by
  have hlt : i.toNatClampNeg < n := Nat.not_le.mp fun q => hin (Or.inr q)
  exact W.dald (v := .double (f i.toNatClampNeg)) hx hb (hI.1 k j _ he) ((hK.2 1 _ rfl).1 n (fun j => .double (f j))) (fun q => by cases q) (by show ¬ (i < 0 ∨ (arrV _ _ _).slots.size ≤ _); rw [arrV_size]; exact hin) (by show (arrV _ _ _).slots[_]? = _; rw [arrV_read _ _ hlt]) rfl rfl hdg kk
theorem fx_lald (hx : p.tables.exec = Jvm.exec) (hb : c.code = cc) (hK : va_K G.2.2.1 vwCl (TYS G.2.2.2) s) (hI : fI G.2.2.1 A H0 w H locs) {k j a n : Nat} {f : Nat → Int64} (he : w k j = some (a, .inl (G.2.2.2 3, n, .inr (.inl f)))) {i : Int32} (hin : vp_in i n) (hdg : decode cc pc = .ok (.laload, 1))
    (kk : W p G.1 e R s m args below meth c H locs cells slots Q (F0 m (pc + 1) ls (.long (f i.toNatClampNeg) :: rest))) : W p G.1 e R s m args below meth c H locs cells slots Q (F0 m pc ls (.int i :: .ref a :: rest)) := by
  have hlt : i.toNatClampNeg < n := Nat.not_le.mp fun q => hin (Or.inr q)
  exact W.lald (v := .long (f i.toNatClampNeg)) hx hb (hI.1 k j _ he) ((hK.2 3 _ rfl).1 n (fun j => .long (f j))) (fun q => by cases q) (by show ¬ (i < 0 ∨ (arrV _ _ _).slots.size ≤ _); rw [arrV_size]; exact hin) (by show (arrV _ _ _).slots[_]? = _; rw [arrV_read _ _ hlt]) rfl rfl hdg kk
theorem fx_iast (hx : p.tables.exec = Jvm.exec) (hb : c.code = cc) (hK : va_K G.2.2.1 vwCl (TYS G.2.2.2) s) (hI : fI G.2.2.1 A H0 w H locs) {k j a n : Nat} {f : Nat → Int32} (he : w k j = some (a, .inl (G.2.2.2 0, n, .inl f))) {i x : Int32} (hin : vp_in i n) {w' : WD} (hw : fU w k j (a, .inl (G.2.2.2 0, n, .inl (upd f i.toNatClampNeg x))) = w') (hdg : decode cc pc = .ok (.iastore, 1))
    (kk : ∀ (H1 : Heap) (locs1 : List Loc), fI G.2.2.1 A H0 w' H1 locs1 → W p G.1 e R s m args below meth c H1 locs1 cells slots Q (F0 m (pc + 1) ls rest)) : W p G.1 e R s m args below meth c H locs cells slots Q (F0 m pc ls (.int x :: .int i :: .ref a :: rest)) := by
  refine W.iast hx hb (hI.1 k j _ he) ((hK.2 0 _ rfl).1 n (fun j => .int (f j))) (fun q => by cases q) (by show ¬ (i < 0 ∨ (arrV _ _ _).slots.size ≤ _); rw [arrV_size]; exact hin) rfl rfl hdg fun H1 e z oq => ?_
  have hI' := hI.set (e := .inl (G.2.2.2 0, n, .inl (upd f i.toNatClampNeg x))) (j := i.toNatClampNeg) he (by
    show H1[a]? = some (vp_cell _ _)
    rw [e]
    rw [vp_cell_i, vp_cell_i, arrV_store]
    congr 2
    funext q
    by_cases hq : q = i.toNatClampNeg
    · subst hq
      simp [updV, upd]
    · simp [updV, upd, hq]) z oq
  rw [hw] at hI'
  exact kk H1 _ hI'
theorem fx_zast (hx : p.tables.exec = Jvm.exec) (hb : c.code = cc) (hK : va_K G.2.2.1 vwCl (TYS G.2.2.2) s) (hI : fI G.2.2.1 A H0 w H locs) {k j a n : Nat} {f : Nat → Int32} (he : w k j = some (a, .inl (G.2.2.2 2, n, .inl f))) {i x : Int32} (hin : vp_in i n) (hnx : vp_nar .boolean x = x) {w' : WD} (hw : fU w k j (a, .inl (G.2.2.2 2, n, .inl (upd f i.toNatClampNeg x))) = w') (hdg : decode cc pc = .ok (.bastore, 1))
    (kk : ∀ (H1 : Heap) (locs1 : List Loc), fI G.2.2.1 A H0 w' H1 locs1 → W p G.1 e R s m args below meth c H1 locs1 cells slots Q (F0 m (pc + 1) ls rest)) : W p G.1 e R s m args below meth c H locs cells slots Q (F0 m pc ls (.int x :: .int i :: .ref a :: rest)) := by
  refine W.zast hx hb (hI.1 k j _ he) ((hK.2 2 _ rfl).1 n (fun j => .int (f j))) (fun q => by cases q) (by show ¬ (i < 0 ∨ (arrV _ _ _).slots.size ≤ _); rw [arrV_size]; exact hin) rfl rfl hdg fun H1 e z oq => ?_
  have hI' := hI.set (e := .inl (G.2.2.2 2, n, .inl (upd f i.toNatClampNeg (vp_nar .boolean x)))) (j := i.toNatClampNeg) he (by
    show H1[a]? = some (vp_cell _ _)
    rw [e]
    rw [vp_cell_i, vp_cell_i, arrV_store]
    congr 2
    funext q
    by_cases hq : q = i.toNatClampNeg
    · subst hq
      simp [updV, upd, vp_nar]
      try rfl
    · simp [updV, upd, hq]) z oq
  rw [hnx, hw] at hI'
  exact kk H1 _ hI'
theorem fx_last (hx : p.tables.exec = Jvm.exec) (hb : c.code = cc) (hK : va_K G.2.2.1 vwCl (TYS G.2.2.2) s) (hI : fI G.2.2.1 A H0 w H locs) {k j a n : Nat} {f : Nat → Int64} (he : w k j = some (a, .inl (G.2.2.2 3, n, .inr (.inl f)))) {i : Int32} {x : Int64} (hin : vp_in i n) {w' : WD} (hw : fU w k j (a, .inl (G.2.2.2 3, n, .inr (.inl (vp_updL f i.toNatClampNeg x)))) = w') (hdg : decode cc pc = .ok (.lastore, 1))
    (kk : ∀ (H1 : Heap) (locs1 : List Loc), fI G.2.2.1 A H0 w' H1 locs1 → W p G.1 e R s m args below meth c H1 locs1 cells slots Q (F0 m (pc + 1) ls rest)) : W p G.1 e R s m args below meth c H locs cells slots Q (F0 m pc ls (.long x :: .int i :: .ref a :: rest)) := by
  refine W.last hx hb (hI.1 k j _ he) ((hK.2 3 _ rfl).1 n (fun j => .long (f j))) (fun q => by cases q) (by show ¬ (i < 0 ∨ (arrV _ _ _).slots.size ≤ _); rw [arrV_size]; exact hin) rfl rfl hdg fun H1 e z oq => ?_
  have hI' := hI.set (e := .inl (G.2.2.2 3, n, .inr (.inl (vp_updL f i.toNatClampNeg x)))) (j := i.toNatClampNeg) he (by
    show H1[a]? = some (vp_cell _ _)
    rw [e]
    rw [vp_cell_l, vp_cell_l, arrV_store]
    congr 2
    funext q
    by_cases hq : q = i.toNatClampNeg
    · subst hq
      simp [updV, vp_updL]
    · simp [updV, vp_updL, hq]) z oq
  rw [hw] at hI'
  exact kk H1 _ hI'
theorem fx_dast (hx : p.tables.exec = Jvm.exec) (hb : c.code = cc) (hK : va_K G.2.2.1 vwCl (TYS G.2.2.2) s) (hI : fI G.2.2.1 A H0 w H locs) {k j a n : Nat} {f : Nat → UInt64} (he : w k j = some (a, .inl (G.2.2.2 1, n, .inr (.inr (.inr (.inl f)))))) {i : Int32} {x : UInt64} (hin : vp_in i n) {w' : WD} (hw : fU w k j (a, .inl (G.2.2.2 1, n, .inr (.inr (.inr (.inl (vf_upd f i.toNatClampNeg x)))))) = w') (hdg : decode cc pc = .ok (.dastore, 1))
    (kk : ∀ (H1 : Heap) (locs1 : List Loc), fI G.2.2.1 A H0 w' H1 locs1 → W p G.1 e R s m args below meth c H1 locs1 cells slots Q (F0 m (pc + 1) ls rest)) : W p G.1 e R s m args below meth c H locs cells slots Q (F0 m pc ls (.double x :: .int i :: .ref a :: rest)) := by
  refine W.dast hx hb (hI.1 k j _ he) ((hK.2 1 _ rfl).1 n (fun j => .double (f j))) (fun q => by cases q) (by show ¬ (i < 0 ∨ (arrV _ _ _).slots.size ≤ _); rw [arrV_size]; exact hin) rfl rfl hdg fun H1 e z oq => ?_
  have hI' := hI.set (e := .inl (G.2.2.2 1, n, .inr (.inr (.inr (.inl (vf_upd f i.toNatClampNeg x)))))) (j := i.toNatClampNeg) he (by
    show H1[a]? = some (vp_cell _ _)
    rw [e]
    rw [vp_cell_d, vp_cell_d, arrV_store]
    congr 2
    funext q
    by_cases hq : q = i.toNatClampNeg
    · subst hq
      simp [updV, vf_upd]
    · simp [updV, vf_upd, hq]) z oq
  rw [hw] at hI'
  exact kk H1 _ hI'
end FXR
end
section
/-! ===== calls and ends over worlds that are functions ===== -/
section FXC
variable {p : Program} {e : Env} {R : Room} {s : State} {m : MethodId} {args : Array Value} {below : List Frame} {meth : Method} {c : Code} {H : Heap} {locs : List Loc} {cells slots : Nat} {Q : State → Prop}
variable {cc : ByteArray} {pc : Nat} {ls : Array Slot} {rest st0 : List Value} {G : GX} {A : Nat → Prop} {w w0 w1 : WD} {own : String} {nL mc ms : Nat} {a : Array Value} {po : Option Value → WD → Prop} {pX : String → WD → Prop} {vv : Value} {thr : Option String}
theorem fx_recv {b k i ci : Nat} {fs : List Value} {q : vw_C} (hK : va_K G.2.2.1 vwCl (TYS G.2.2.2) s) (hP : fP G.2.2.1 w H) (he : w k i = some (b, .inr (ci, fs))) (hc : vwCl[ci]? = some q) : ∃ cell : Cell, H[b]? = some cell ∧ cell.vm.isStatics = false ∧ s.vm.findClass q.1 = some cell.cls := by
  obtain ⟨q', h1, cell, g1, g2, g3, -⟩ := hP k i _ he
  exact ⟨cell, g1, by rw [g3]; rfl, by rw [g2]; exact (hK.1 ci q hc).2.1⟩
theorem fx_kk (hr : va_Run p G.1 e R s m args below meth c H locs cells slots mc ms (F0 m pc ls st0) rest (FQ G w H.size po a) (fA w H.size)) (hI : fI G.2.2.1 A s.heap w H locs)
    (k : ∀ (v : Option Value) (w' : WD) (H1 : Heap) (locs1 : List Loc), po v w' → fI G.2.2.1 A s.heap w' H1 locs1 → W p G.1 e R s m args below meth c H1 locs1 (cells + mc) (slots + ms) Q (F0 m (pc + 3) ls (v.toList ++ rest))) : W p G.1 e R s m args below meth c H locs cells slots Q (F0 m pc ls st0) := by
  intro T hT X
  obtain ⟨v, st₀, t, T', L, h0, X', hL, e1, e2, ⟨⟨v', w', hv, hp, hPw, hDw⟩, hF⟩, st⟩ := hr T hT X
  cases hv
  obtain ⟨hz, hk, hS⟩ := vx_keep h0 e1 hI.2.2.1 (fun q _ h => hI.free q h) hI.free hL hF
  obtain ⟨t2, a1, b1⟩ := k v w' T'.heap (locs ++ L) hp ⟨by rw [e1]; exact hPw, hDw.weaken hI.free, hS, hI.2.2.2⟩ T' rfl X'
  exact ⟨t2, st t2 a1, b1⟩
theorem fx_kk5 (hr : va_Run5 p G.1 e R s m args below meth c H locs cells slots mc ms (F0 m pc ls st0) rest (FQ G w H.size po a) (fA w H.size)) (hI : fI G.2.2.1 A s.heap w H locs)
    (k : ∀ (v : Option Value) (w' : WD) (H1 : Heap) (locs1 : List Loc), po v w' → fI G.2.2.1 A s.heap w' H1 locs1 → W p G.1 e R s m args below meth c H1 locs1 (cells + mc) (slots + ms) Q (F0 m (pc + 5) ls (v.toList ++ rest))) : W p G.1 e R s m args below meth c H locs cells slots Q (F0 m pc ls st0) := by
  intro T hT X
  obtain ⟨v, st₀, t, T', L, h0, X', hL, e1, e2, ⟨⟨v', w', hv, hp, hPw, hDw⟩, hF⟩, st⟩ := hr T hT X
  cases hv
  obtain ⟨hz, hk, hS⟩ := vx_keep h0 e1 hI.2.2.1 (fun q _ h => hI.free q h) hI.free hL hF
  obtain ⟨t2, a1, b1⟩ := k v w' T'.heap (locs ++ L) hp ⟨by rw [e1]; exact hPw, hDw.weaken hI.free, hS, hI.2.2.2⟩ T' rfl X'
  exact ⟨t2, st t2 a1, b1⟩
theorem fx_xkk (hr : vx_Run p G.1 e R s m args below meth c H locs cells slots mc ms (F0 m pc ls st0) rest (FQ G w H.size po a) (FXq G w H.size pX) (fA w H.size)) (hI : fI G.2.2.1 A s.heap w H locs)
    (kx : ∀ (E : String) (ce : Cell) (q9 : Addr) (w' : WD) (H1 : Heap) (locs1 : List Loc), pX E w' → fI G.2.2.1 A s.heap w' H1 locs1 → H1[q9]? = some ce → ce.vm = .none → s.vm.findClass E = some ce.cls → vx_W p G.1 e R s m args below meth c H1 locs1 (cells + mc) (slots + ms) Q (F0 m pc ls rest) q9)
    (k : ∀ (v : Option Value) (w' : WD) (H1 : Heap) (locs1 : List Loc), po v w' → fI G.2.2.1 A s.heap w' H1 locs1 → W p G.1 e R s m args below meth c H1 locs1 (cells + mc) (slots + ms) Q (F0 m (pc + 3) ls (v.toList ++ rest))) : W p G.1 e R s m args below meth c H locs cells slots Q (F0 m pc ls st0) := by
  intro T hT X
  rcases hr T hT X with ⟨v, st₀, t, T', L, h0, X', hL, e1, e2, ⟨⟨v', w', hv, hp, hPw, hDw⟩, hF⟩, st⟩ | ⟨q, st₀, t, T', L, E, ce, h0, X', hL, e1, e2, ⟨⟨w', hp, hPw, hDw⟩, hF⟩, hce, hcv, hcl, st⟩
  · cases hv
    obtain ⟨hz, hk, hS⟩ := vx_keep h0 e1 hI.2.2.1 (fun q _ h => hI.free q h) hI.free hL hF
    obtain ⟨t2, a1, b1⟩ := k v w' T'.heap (locs ++ L) hp ⟨by rw [e1]; exact hPw, hDw.weaken hI.free, hS, hI.2.2.2⟩ T' rfl X'
    exact ⟨t2, st t2 a1, b1⟩
  · obtain ⟨hz, hk, hS⟩ := vx_keep h0 e1 hI.2.2.1 (fun q _ h => hI.free q h) hI.free hL hF
    obtain ⟨t2, a1, b1⟩ := kx E ce q w' T'.heap (locs ++ L) hp ⟨by rw [e1]; exact hPw, hDw.weaken hI.free, hS, hI.2.2.2⟩ (by rw [e1]; exact hce) hcv hcl T' rfl X'
    exact ⟨t2, st.trans a1, b1⟩
theorem CkV.good {y : MethodName} {cc' : ByteArray} {nL' index n : Nat} {ret' : Option FieldType} (hk : CkV own index y cc' nL' ret' n) : GoodIn WL (wsV own index y.cls y (Cond.code y cc' nL' ret' :: WL)) := by
  obtain ⟨h1, h2, h3, h4, h5, -⟩ := hk
  intro x hx
  have key : x ∈ WL := by
    unfold wsV at hx
    rcases List.mem_append.mp hx with hx | hx
    · simp only [List.mem_cons, List.not_mem_nil, or_false] at hx
      rcases hx with rfl | rfl | rfl | rfl
      · exact h2
      · exact h3
      · exact h4
      · exact h5
    · rcases List.mem_cons.mp hx with rfl | hx
      · exact h1
      · exact hx
  exact ⟨key, good_of_word (WL_good key)⟩
theorem fx_cwV {y : MethodName} {cc' : ByteArray} {nL' index n : Nat} {ret' : Option FieldType} {rm : Room} (hts : ∀ w ∈ WL, w.before args s = true) (hk : CkV own index y cc' nL' ret' n) (hR : rm.frames + 1 ≤ R.frames ∧ 8 + (nL' + 11) + rm.locals ≤ R.locals) : CallW R s args own y.cls index y cc' nL' ret' (Cond.code y cc' nL' ret' :: WL) rm rm.cells rm.slots n :=
  cwV n hts hk.good rfl rfl rfl ⟨rfl, hk.2.2.2.2.2⟩ hR
theorem fx_cwS {y : MethodName} {cc' : ByteArray} {nL' index n : Nat} {ret' : Option FieldType} {rm : Room} (hts : ∀ w ∈ WL, w.before args s = true) (hk : CkS own index y cc' nL' ret' n) (hR : rm.frames + 1 ≤ R.frames ∧ 8 + (nL' + 11) + rm.locals ≤ R.locals) : CallB R s args own index y cc' nL' ret' (Cond.code y cc' nL' ret' :: WL) rm rm.cells rm.slots n ∧ (Cond.static y).before args s = true :=
  ⟨callB_of n hts (WL_in0 hk.1) rfl rfl rfl (hts _ hk.2.2.2.1) (hts _ hk.2.1) hk.2.2.2.2 hR, hts _ hk.2.2.1⟩
theorem fx_cwI {y : MethodName} {cc' : ByteArray} {nL' index n : Nat} {rm : Room} (hts : ∀ w ∈ WL, w.before args s = true) (hk : CkI own index y cc' nL' n) (hR : rm.frames + 1 ≤ R.frames ∧ 8 + (nL' + 11) + rm.locals ≤ R.locals) : CallB R s args own index y cc' nL' none (Cond.code y cc' nL' none :: WL) rm rm.cells rm.slots n ∧ y.name = "<init>" ∧ (Cond.instanceMethod y).before args s = true :=
  ⟨callB_of n hts (WL_in0 hk.1) rfl rfl rfl (hts _ hk.2.2.2.1) (hts _ hk.2.1) hk.2.2.2.2.2 hR, hk.2.2.2.2.1, hts _ hk.2.2.1⟩
theorem CkF.good {x y : MethodName} {cc' : ByteArray} {nL' index n : Nat} {ret' : Option FieldType} (hk : CkF own index x y cc' nL' ret' n) : GoodIn WL (va_wsF own index y.cls x y (Cond.code y cc' nL' ret' :: WL)) := by
  obtain ⟨h1, h2, h3, h4, h5, -⟩ := hk
  intro x hx
  have key : x ∈ WL := by
    unfold va_wsF at hx
    rcases List.mem_append.mp hx with hx | hx
    · simp only [List.mem_cons, List.not_mem_nil, or_false] at hx
      rcases hx with rfl | rfl | rfl | rfl
      · exact h2
      · exact h3
      · exact h4
      · exact h5
    · rcases List.mem_cons.mp hx with rfl | hx
      · exact h1
      · exact hx
  exact ⟨key, good_of_word (WL_good key)⟩
theorem fx_cwF {x y : MethodName} {cc' : ByteArray} {nL' index n : Nat} {ret' : Option FieldType} {rm : Room} (hts : ∀ w ∈ WL, w.before args s = true) (hX : ∀ w ∈ XL, w.before #[] s = true) (hk : CkF own index x y cc' nL' ret' n) (hR : rm.frames + 1 ≤ R.frames ∧ 8 + (nL' + 11) + rm.locals ≤ R.locals) : va_CI R s args own y.cls index x y cc' nL' ret' (Cond.code y cc' nL' ret' :: WL) rm rm.cells rm.slots n := by
  obtain ⟨-, -, -, -, -, ⟨f1, f2, f3, f4, f5⟩, hd⟩ := id hk
  exact va_cwF n hts hk.good rfl rfl rfl ⟨hX _ f1, hX _ f2, hX _ f3, hX _ f4, hX _ f5⟩ hd hR
/-! calls -/
theorem fx_callV {y : MethodName} {cc' : ByteArray} {nL' index : Nat} {ret' : Option FieldType} {rm : Room} {as : List Value} {b : Nat} (hx : p.tables.exec = Jvm.exec) (hb : c.code = cc) (hml : c.maxLocals = nL) (hts : ∀ w ∈ WL, w.before args s = true) (hown : s.vm.findClass own = some m.cls) (hK : va_K G.2.2.1 vwCl (TYS G.2.2.2) s) (hE : EV G.2.1 A s s.heap) (hI : fI G.2.2.1 A s.heap w H locs) (hC : FC G y cc' nL' ret' rm (.ref b :: as) w po) (hk : CkV own index y cc' nL' ret' as.length) (hR : rm.frames + 1 ≤ R.frames ∧ 8 + (nL' + 11) + rm.locals ≤ R.locals) {kk ii ci : Nat} {fs : List Value} {q : vw_C} (he : w kk ii = some (b, .inr (ci, fs))) (hc : vwCl[ci]? = some q) (hq : q.1 = y.cls) (hsize : ls.size = nL) (hroom : (rest.map fun v => v.category).sum ≤ 8) (hdg : decode cc pc = .ok (.invokevirtual index, 3)) (hf : cells + rm.cells ≤ R.cells ∧ slots + rm.slots ≤ R.slots)
    (k : ∀ (v : Option Value) (w' : WD) (H1 : Heap) (locs1 : List Loc), po v w' → fI G.2.2.1 A s.heap w' H1 locs1 → W p G.1 e R s m args below meth c H1 locs1 (cells + rm.cells) (slots + rm.slots) Q (F0 m (pc + 3) ls (v.toList ++ rest))) : W p G.1 e R s m args below meth c H locs cells slots Q (F0 m pc ls (as.reverse ++ .ref b :: rest)) := by
  have hrecv := fx_recv hK hI.1 he hc
  rw [hq] at hrecv
  exact fx_kk (va_runV (As := as) (rest := rest) ⟨hx, hb, hml, hown, hts⟩ (hC H.size) (fx_cwV hts hk hR) ⟨FPre.blind, hrecv, fun U hU hW => FPre.go hK hE hI hU hW⟩ rfl rfl hsize rfl (lv_room hroom) hdg hf) hI k
theorem fx_callS {y : MethodName} {cc' : ByteArray} {nL' index : Nat} {ret' : Option FieldType} {rm : Room} {as : List Value} (hx : p.tables.exec = Jvm.exec) (hb : c.code = cc) (hml : c.maxLocals = nL) (hts : ∀ w ∈ WL, w.before args s = true) (hown : s.vm.findClass own = some m.cls) (hK : va_K G.2.2.1 vwCl (TYS G.2.2.2) s) (hE : EV G.2.1 A s s.heap) (hI : fI G.2.2.1 A s.heap w H locs) (hC : FC G y cc' nL' ret' rm as w po) (hk : CkS own index y cc' nL' ret' as.length) (hR : rm.frames + 1 ≤ R.frames ∧ 8 + (nL' + 11) + rm.locals ≤ R.locals) (hsize : ls.size = nL) (hroom : (rest.map fun v => v.category).sum ≤ 8) (hdg : decode cc pc = .ok (.invokestatic index, 3)) (hf : cells + rm.cells ≤ R.cells ∧ slots + rm.slots ≤ R.slots)
    (k : ∀ (v : Option Value) (w' : WD) (H1 : Heap) (locs1 : List Loc), po v w' → fI G.2.2.1 A s.heap w' H1 locs1 → W p G.1 e R s m args below meth c H1 locs1 (cells + rm.cells) (slots + rm.slots) Q (F0 m (pc + 3) ls (v.toList ++ rest))) : W p G.1 e R s m args below meth c H locs cells slots Q (F0 m pc ls (as.reverse ++ rest)) :=
  fx_kk (va_runS (As := as) (rest := rest) ⟨hx, hb, hml, hown, hts⟩ (hC H.size) (fx_cwS hts hk hR) ⟨FPre.blind, fun U hU hW => FPre.go hK hE hI hU hW⟩ rfl rfl hsize rfl (lv_room hroom) hdg hf) hI k
theorem fx_callI {y : MethodName} {cc' : ByteArray} {nL' index : Nat} {rm : Room} {as : List Value} {b : Nat} (hx : p.tables.exec = Jvm.exec) (hb : c.code = cc) (hml : c.maxLocals = nL) (hts : ∀ w ∈ WL, w.before args s = true) (hown : s.vm.findClass own = some m.cls) (hK : va_K G.2.2.1 vwCl (TYS G.2.2.2) s) (hE : EV G.2.1 A s s.heap) (hI : fI G.2.2.1 A s.heap w H locs) (hC : FC G y cc' nL' none rm (.ref b :: as) w po) (hk : CkI own index y cc' nL' as.length) (hR : rm.frames + 1 ≤ R.frames ∧ 8 + (nL' + 11) + rm.locals ≤ R.locals) (hsize : ls.size = nL) (hroom : (rest.map fun v => v.category).sum ≤ 8) (hdg : decode cc pc = .ok (.invokespecial index, 3)) (hf : cells + rm.cells ≤ R.cells ∧ slots + rm.slots ≤ R.slots)
    (k : ∀ (v : Option Value) (w' : WD) (H1 : Heap) (locs1 : List Loc), po v w' → fI G.2.2.1 A s.heap w' H1 locs1 → W p G.1 e R s m args below meth c H1 locs1 (cells + rm.cells) (slots + rm.slots) Q (F0 m (pc + 3) ls (v.toList ++ rest))) : W p G.1 e R s m args below meth c H locs cells slots Q (F0 m pc ls (as.reverse ++ .ref b :: rest)) :=
  fx_kk (va_runI (As := as) (rest := rest) ⟨hx, hb, hml, hown, hts⟩ (hC H.size) (fx_cwI hts hk hR) ⟨FPre.blind, fun U hU hW => FPre.go hK hE hI hU hW⟩ rfl rfl hsize rfl (lv_room hroom) hdg hf) hI k
theorem fx_callF {x y : MethodName} {cc' : ByteArray} {nL' index count : Nat} {ret' : Option FieldType} {rm : Room} {as : List Value} {b : Nat} (hx : p.tables.exec = Jvm.exec) (hb : c.code = cc) (hml : c.maxLocals = nL) (hts : ∀ w ∈ WL, w.before args s = true) (hown : s.vm.findClass own = some m.cls) (hK : va_K G.2.2.1 vwCl (TYS G.2.2.2) s) (hE : EV G.2.1 A s s.heap) (hI : fI G.2.2.1 A s.heap w H locs) (hC : FC G y cc' nL' ret' rm (.ref b :: as) w po) (hk : CkF own index x y cc' nL' ret' as.length) (hR : rm.frames + 1 ≤ R.frames ∧ 8 + (nL' + 11) + rm.locals ≤ R.locals) {kk ii ci : Nat} {fs : List Value} {q : vw_C} (he : w kk ii = some (b, .inr (ci, fs))) (hc : vwCl[ci]? = some q) (hq : q.1 = y.cls) (hsize : ls.size = nL) (hroom : (rest.map fun v => v.category).sum ≤ 8) (hdg : decode cc pc = .ok (.invokeinterface index count, 5)) (hf : cells + rm.cells ≤ R.cells ∧ slots + rm.slots ≤ R.slots)
    (k : ∀ (v : Option Value) (w' : WD) (H1 : Heap) (locs1 : List Loc), po v w' → fI G.2.2.1 A s.heap w' H1 locs1 → W p G.1 e R s m args below meth c H1 locs1 (cells + rm.cells) (slots + rm.slots) Q (F0 m (pc + 5) ls (v.toList ++ rest))) : W p G.1 e R s m args below meth c H locs cells slots Q (F0 m pc ls (as.reverse ++ .ref b :: rest)) := by
  have hrecv := fx_recv hK hI.1 he hc
  have hat : ClassAt s q.1 (G.2.2.1.1 ci) := (hK.1 ci q hc).2
  rw [hq] at hrecv hat
  exact fx_kk5 (va_runF (As := as) (rest := rest) hat ⟨hx, hb, hml, hown, hts⟩ (hC H.size) (fx_cwF hts hE.1 hk hR) ⟨FPre.blind, hrecv, fun U hU hW => FPre.go hK hE hI hU hW⟩ rfl rfl hsize rfl (lv_room hroom) hdg hf) hI k
theorem fx_xcallV {y : MethodName} {cc' : ByteArray} {nL' index : Nat} {ret' : Option FieldType} {rm : Room} {as : List Value} {b : Nat} (hx : p.tables.exec = Jvm.exec) (hb : c.code = cc) (hml : c.maxLocals = nL) (hts : ∀ w ∈ WL, w.before args s = true) (hown : s.vm.findClass own = some m.cls) (hK : va_K G.2.2.1 vwCl (TYS G.2.2.2) s) (hE : EV G.2.1 A s s.heap) (hI : fI G.2.2.1 A s.heap w H locs) (hC : FX G y cc' nL' ret' rm (.ref b :: as) w po pX) (hk : CkV own index y cc' nL' ret' as.length) (hR : rm.frames + 1 ≤ R.frames ∧ 8 + (nL' + 11) + rm.locals ≤ R.locals) {kk ii ci : Nat} {fs : List Value} {q : vw_C} (he : w kk ii = some (b, .inr (ci, fs))) (hc : vwCl[ci]? = some q) (hq : q.1 = y.cls) (hsize : ls.size = nL) (hroom : (rest.map fun v => v.category).sum ≤ 8) (hdg : decode cc pc = .ok (.invokevirtual index, 3)) (hf : cells + rm.cells ≤ R.cells ∧ slots + rm.slots ≤ R.slots)
    (kx : ∀ (E : String) (ce : Cell) (q9 : Addr) (w' : WD) (H1 : Heap) (locs1 : List Loc), pX E w' → fI G.2.2.1 A s.heap w' H1 locs1 → H1[q9]? = some ce → ce.vm = .none → s.vm.findClass E = some ce.cls → vx_W p G.1 e R s m args below meth c H1 locs1 (cells + rm.cells) (slots + rm.slots) Q (F0 m pc ls rest) q9)
    (k : ∀ (v : Option Value) (w' : WD) (H1 : Heap) (locs1 : List Loc), po v w' → fI G.2.2.1 A s.heap w' H1 locs1 → W p G.1 e R s m args below meth c H1 locs1 (cells + rm.cells) (slots + rm.slots) Q (F0 m (pc + 3) ls (v.toList ++ rest))) : W p G.1 e R s m args below meth c H locs cells slots Q (F0 m pc ls (as.reverse ++ .ref b :: rest)) := by
  have hrecv := fx_recv hK hI.1 he hc
  rw [hq] at hrecv
  exact fx_xkk (vx_runV (As := as) (rest := rest) ⟨hx, hb, hml, hown, hts⟩ (hC H.size) (fx_cwV hts hk hR) ⟨FPre.blind, hrecv, fun U hU hW => FPre.go hK hE hI hU hW⟩ rfl rfl hsize rfl (lv_room hroom) hdg hf) hI kx k
theorem fx_xcallS {y : MethodName} {cc' : ByteArray} {nL' index : Nat} {ret' : Option FieldType} {rm : Room} {as : List Value} (hx : p.tables.exec = Jvm.exec) (hb : c.code = cc) (hml : c.maxLocals = nL) (hts : ∀ w ∈ WL, w.before args s = true) (hown : s.vm.findClass own = some m.cls) (hK : va_K G.2.2.1 vwCl (TYS G.2.2.2) s) (hE : EV G.2.1 A s s.heap) (hI : fI G.2.2.1 A s.heap w H locs) (hC : FX G y cc' nL' ret' rm as w po pX) (hk : CkS own index y cc' nL' ret' as.length) (hR : rm.frames + 1 ≤ R.frames ∧ 8 + (nL' + 11) + rm.locals ≤ R.locals) (hsize : ls.size = nL) (hroom : (rest.map fun v => v.category).sum ≤ 8) (hdg : decode cc pc = .ok (.invokestatic index, 3)) (hf : cells + rm.cells ≤ R.cells ∧ slots + rm.slots ≤ R.slots)
    (kx : ∀ (E : String) (ce : Cell) (q9 : Addr) (w' : WD) (H1 : Heap) (locs1 : List Loc), pX E w' → fI G.2.2.1 A s.heap w' H1 locs1 → H1[q9]? = some ce → ce.vm = .none → s.vm.findClass E = some ce.cls → vx_W p G.1 e R s m args below meth c H1 locs1 (cells + rm.cells) (slots + rm.slots) Q (F0 m pc ls rest) q9)
    (k : ∀ (v : Option Value) (w' : WD) (H1 : Heap) (locs1 : List Loc), po v w' → fI G.2.2.1 A s.heap w' H1 locs1 → W p G.1 e R s m args below meth c H1 locs1 (cells + rm.cells) (slots + rm.slots) Q (F0 m (pc + 3) ls (v.toList ++ rest))) : W p G.1 e R s m args below meth c H locs cells slots Q (F0 m pc ls (as.reverse ++ rest)) :=
  fx_xkk (vx_runS (As := as) (rest := rest) ⟨hx, hb, hml, hown, hts⟩ (hC H.size) (fx_cwS hts hk hR) ⟨FPre.blind, fun U hU hW => FPre.go hK hE hI hU hW⟩ rfl rfl hsize rfl (lv_room hroom) hdg hf) hI kx k
/-! ends -/
theorem fx_iret (hx : p.tables.exec = Jvm.exec) (hb : c.code = cc) (hr : meth.sig.returnType = some .int) (hlocks : meth.locks = false) {v : Int32} (hp : po (some (.int v)) w) (hI : fI G.2.2.1 A s.heap w H locs) (hA : A = fA w0 s.heap.size) (hc : cells ≤ mc) (hs : slots ≤ ms) (hdg : decode cc pc = .ok (.ireturn, 1)) : W p G.1 e R s m args below meth c H locs cells slots (MQ below (FQ G w0 s.heap.size po) args s mc ms (fA w0 s.heap.size)) (F0 m pc ls [.int v]) := by
  subst hA
  refine W.widen (k := mc) (n := ms) hc hs ?_
  exact W.iret hx hb hr (fun t ht hW => ⟨⟨_, w, rfl, hp, by rw [ht]; exact hI.1, hI.2.1⟩, hI.2.2.1.F ht⟩) hI.2.2.1.2.2 hdg hlocks
theorem fx_zret (hx : p.tables.exec = Jvm.exec) (hb : c.code = cc) (hr : meth.sig.returnType = some .boolean) (hlocks : meth.locks = false) {v : Int32} (hn : narrow .boolean (.int v) = .int v) (hp : po (some (.int v)) w) (hI : fI G.2.2.1 A s.heap w H locs) (hA : A = fA w0 s.heap.size) (hc : cells ≤ mc) (hs : slots ≤ ms) (hdg : decode cc pc = .ok (.ireturn, 1)) : W p G.1 e R s m args below meth c H locs cells slots (MQ below (FQ G w0 s.heap.size po) args s mc ms (fA w0 s.heap.size)) (F0 m pc ls [.int v]) := by
  subst hA
  refine W.widen (k := mc) (n := ms) hc hs ?_
  exact W.zret hx hb hr hn (fun t ht hW => ⟨⟨_, w, rfl, hp, by rw [ht]; exact hI.1, hI.2.1⟩, hI.2.2.1.F ht⟩) hI.2.2.1.2.2 hdg hlocks
theorem fx_lret (hx : p.tables.exec = Jvm.exec) (hb : c.code = cc) (hr : meth.sig.returnType = some .long) (hlocks : meth.locks = false) {v : Int64} (hp : po (some (.long v)) w) (hI : fI G.2.2.1 A s.heap w H locs) (hA : A = fA w0 s.heap.size) (hc : cells ≤ mc) (hs : slots ≤ ms) (hdg : decode cc pc = .ok (.lreturn, 1)) : W p G.1 e R s m args below meth c H locs cells slots (MQ below (FQ G w0 s.heap.size po) args s mc ms (fA w0 s.heap.size)) (F0 m pc ls [.long v]) := by
  subst hA
  refine W.widen (k := mc) (n := ms) hc hs ?_
  exact W.lret hx hb hr (fun t ht hW => ⟨⟨_, w, rfl, hp, by rw [ht]; exact hI.1, hI.2.1⟩, hI.2.2.1.F ht⟩) hI.2.2.1.2.2 hdg hlocks
theorem fx_dret (hx : p.tables.exec = Jvm.exec) (hb : c.code = cc) (hr : meth.sig.returnType = some .double) (hlocks : meth.locks = false) {v : UInt64} (hp : po (some (.double v)) w) (hI : fI G.2.2.1 A s.heap w H locs) (hA : A = fA w0 s.heap.size) (hc : cells ≤ mc) (hs : slots ≤ ms) (hdg : decode cc pc = .ok (.dreturn, 1)) : W p G.1 e R s m args below meth c H locs cells slots (MQ below (FQ G w0 s.heap.size po) args s mc ms (fA w0 s.heap.size)) (F0 m pc ls [.double v]) := by
  subst hA
  refine W.widen (k := mc) (n := ms) hc hs ?_
  exact W.dret hx hb hr (fun t ht hW => ⟨⟨_, w, rfl, hp, by rw [ht]; exact hI.1, hI.2.1⟩, hI.2.2.1.F ht⟩) hI.2.2.1.2.2 hdg hlocks
theorem fx_vret (hx : p.tables.exec = Jvm.exec) (hb : c.code = cc) (hr : meth.sig.returnType = none) (hlocks : meth.locks = false) (hp : po none w) (hI : fI G.2.2.1 A s.heap w H locs) (hA : A = fA w0 s.heap.size) (hc : cells ≤ mc) (hs : slots ≤ ms) (hdg : decode cc pc = .ok (.return_, 1)) : W p G.1 e R s m args below meth c H locs cells slots (MQ below (FQ G w0 s.heap.size po) args s mc ms (fA w0 s.heap.size)) (F0 m pc ls []) := by
  subst hA
  refine W.widen (k := mc) (n := ms) hc hs ?_
  exact W.vret hx hb hr (fun t ht hW => ⟨⟨_, w, rfl, hp, by rw [ht]; exact hI.1, hI.2.1⟩, hI.2.2.1.F ht⟩) hI.2.2.1.2.2 hdg hlocks
theorem fx_aret (hx : p.tables.exec = Jvm.exec) (hb : c.code = cc) {rt : FieldType} (hr : meth.sig.returnType = some rt) (hrt : (∃ n, rt = .object n) ∨ ∃ t, rt = .array t) (hlocks : meth.locks = false) {v : Value} (hv : v = .null ∨ ∃ a, v = .ref a) (hp : po (some v) w) (hI : fI G.2.2.1 A s.heap w H locs) (hA : A = fA w0 s.heap.size) (hc : cells ≤ mc) (hs : slots ≤ ms) (hdg : decode cc pc = .ok (.areturn, 1)) : W p G.1 e R s m args below meth c H locs cells slots (MQ below (FQ G w0 s.heap.size po) args s mc ms (fA w0 s.heap.size)) (F0 m pc ls [v]) := by
  subst hA
  refine W.widen (k := mc) (n := ms) hc hs ?_
  exact W.aret hx hb hr hrt hv (fun t ht hW => ⟨⟨_, w, rfl, hp, by rw [ht]; exact hI.1, hI.2.1⟩, hI.2.2.1.F ht⟩) hI.2.2.1.2.2 hdg hlocks
/-- a throw of a callee goes on -/
theorem fx_thru (hout : ∀ x ∈ c.exceptionTable.toList, ∀ pc, covers x pc = false) (hlocks : meth.locks = false) {E : String} {ce : Cell} {q9 : Addr} (hp : pX E w) (hI : fI G.2.2.1 A s.heap w H locs) (hA : A = fA w0 s.heap.size) (hc : cells ≤ mc) (hs : slots ≤ ms) (h1 : H[q9]? = some ce) (h2 : ce.vm = .none) (h3 : s.vm.findClass E = some ce.cls) : vx_W p G.1 e R s m args below meth c H locs cells slots (vx_MQ below (FQ G w0 s.heap.size po) (FXq G w0 s.heap.size pX) args s mc ms (fA w0 s.heap.size)) (F0 m pc ls rest) q9 := by
  subst hA
  exact vx_out (fun x hx => hout x hx pc) hlocks h1 h2 h3 (fun t ht hv => ⟨⟨w, hp, by rw [ht]; exact hI.1, hI.2.1⟩, hI.2.2.1.F ht⟩) hI.2.2.1.2.2 hc hs
end FXC
end
