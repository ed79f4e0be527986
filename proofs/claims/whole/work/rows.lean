section
-- ===== PART A: goes FIRST, ahead of the names: the tables' words, and 'selects' of the private methods out of them =====
/-- a private method of a class that the tables say can be made, by its rows of tables_1 -/
def lw_okq (q : MethodName × Nat) : Prop := (q.1.cls ≠ "java/lang/invoke/MethodHandle" ∧ q.1.cls ≠ "java/lang/invoke/VarHandle") ∧ Cond.instantiable q.1.cls q.2 ∈ tables_1 ∧ Cond.privateMethod q.1 ∈ tables_1 ∧ Cond.instanceMethod q.1 ∈ tables_1
theorem lw_p0 : lw_okq (⟨"Icehighway", "kilosMissing", "(I)I"⟩, 9) := ⟨⟨by decide +kernel, by decide +kernel⟩, List.mem_of_getElem? (i := 22) (by decide +kernel), List.mem_of_getElem? (i := 94) (by decide +kernel), List.mem_of_getElem? (i := 95) (by decide +kernel)⟩
theorem lw_p1 : lw_okq (⟨"java/lang/Throwable", "fillInStackTrace", "(I)Ljava/lang/Throwable;"⟩, 6) := ⟨⟨by decide +kernel, by decide +kernel⟩, List.mem_of_getElem? (i := 151) (by decide +kernel), List.mem_of_getElem? (i := 149) (by decide +kernel), List.mem_of_getElem? (i := 150) (by decide +kernel)⟩
theorem lw_p2 : lw_okq (⟨"java/util/ArrayList", "add", "(Ljava/lang/Object;[Ljava/lang/Object;I)V"⟩, 3) := ⟨⟨by decide +kernel, by decide +kernel⟩, List.mem_of_getElem? (i := 30) (by decide +kernel), List.mem_of_getElem? (i := 293) (by decide +kernel), List.mem_of_getElem? (i := 294) (by decide +kernel)⟩
theorem lw_p3 : lw_okq (⟨"java/util/ArrayList", "grow", "()[Ljava/lang/Object;"⟩, 3) := ⟨⟨by decide +kernel, by decide +kernel⟩, List.mem_of_getElem? (i := 30) (by decide +kernel), List.mem_of_getElem? (i := 297) (by decide +kernel), List.mem_of_getElem? (i := 298) (by decide +kernel)⟩
theorem lw_p4 : lw_okq (⟨"java/util/ArrayList", "grow", "(I)[Ljava/lang/Object;"⟩, 3) := ⟨⟨by decide +kernel, by decide +kernel⟩, List.mem_of_getElem? (i := 30) (by decide +kernel), List.mem_of_getElem? (i := 301) (by decide +kernel), List.mem_of_getElem? (i := 302) (by decide +kernel)⟩
theorem lw_p5 : lw_okq (⟨"Icehighway", "pieceNumbered", "(I)LIcehighway$Piece;"⟩, 9) := ⟨⟨by decide +kernel, by decide +kernel⟩, List.mem_of_getElem? (i := 22) (by decide +kernel), List.mem_of_getElem? (i := 384) (by decide +kernel), List.mem_of_getElem? (i := 385) (by decide +kernel)⟩
theorem lw_p6 : lw_okq (⟨"Icehighway", "vehicleNumbered", "(I)LIcehighway$Vehicle;"⟩, 9) := ⟨⟨by decide +kernel, by decide +kernel⟩, List.mem_of_getElem? (i := 22) (by decide +kernel), List.mem_of_getElem? (i := 509) (by decide +kernel), List.mem_of_getElem? (i := 510) (by decide +kernel)⟩
theorem lw_p7 : lw_okq (⟨"Icehighway", "stopAtEnd", "(LIcehighway$Vehicle;)V"⟩, 9) := ⟨⟨by decide +kernel, by decide +kernel⟩, List.mem_of_getElem? (i := 22) (by decide +kernel), List.mem_of_getElem? (i := 559) (by decide +kernel), List.mem_of_getElem? (i := 560) (by decide +kernel)⟩
theorem lw_p8 : lw_okq (⟨"Icehighway", "unload", "(LIcehighway$Vehicle;)V"⟩, 9) := ⟨⟨by decide +kernel, by decide +kernel⟩, List.mem_of_getElem? (i := 22) (by decide +kernel), List.mem_of_getElem? (i := 563) (by decide +kernel), List.mem_of_getElem? (i := 564) (by decide +kernel)⟩
theorem lw_p9 : lw_okq (⟨"Icehighway", "passOneMinute", "()V"⟩, 9) := ⟨⟨by decide +kernel, by decide +kernel⟩, List.mem_of_getElem? (i := 22) (by decide +kernel), List.mem_of_getElem? (i := 586) (by decide +kernel), List.mem_of_getElem? (i := 587) (by decide +kernel)⟩
theorem lw_p10 : lw_okq (⟨"Icehighway", "endDay", "()V"⟩, 9) := ⟨⟨by decide +kernel, by decide +kernel⟩, List.mem_of_getElem? (i := 22) (by decide +kernel), List.mem_of_getElem? (i := 590) (by decide +kernel), List.mem_of_getElem? (i := 591) (by decide +kernel)⟩
theorem lw_p11 : lw_okq (⟨"Icehighway$Piece", "growth", "(I)I"⟩, 16) := ⟨⟨by decide +kernel, by decide +kernel⟩, List.mem_of_getElem? (i := 216) (by decide +kernel), List.mem_of_getElem? (i := 599) (by decide +kernel), List.mem_of_getElem? (i := 600) (by decide +kernel)⟩
theorem lw_p12 : lw_okq (⟨"Icehighway", "moveOn", "(LIcehighway$Vehicle;)V"⟩, 9) := ⟨⟨by decide +kernel, by decide +kernel⟩, List.mem_of_getElem? (i := 22) (by decide +kernel), List.mem_of_getElem? (i := 608) (by decide +kernel), List.mem_of_getElem? (i := 609) (by decide +kernel)⟩
theorem lw_p13 : lw_okq (⟨"Icehighway", "leave", "(LIcehighway$Vehicle;)V"⟩, 9) := ⟨⟨by decide +kernel, by decide +kernel⟩, List.mem_of_getElem? (i := 22) (by decide +kernel), List.mem_of_getElem? (i := 612) (by decide +kernel), List.mem_of_getElem? (i := 613) (by decide +kernel)⟩
theorem lw_p14 : lw_okq (⟨"Icehighway", "whatIsAgainst", "(LIcehighway$Vehicle;)I"⟩, 9) := ⟨⟨by decide +kernel, by decide +kernel⟩, List.mem_of_getElem? (i := 22) (by decide +kernel), List.mem_of_getElem? (i := 622) (by decide +kernel), List.mem_of_getElem? (i := 623) (by decide +kernel)⟩
theorem lw_p15 : lw_okq (⟨"Icehighway", "pieceAhead", "(LIcehighway$Vehicle;)LIcehighway$Piece;"⟩, 9) := ⟨⟨by decide +kernel, by decide +kernel⟩, List.mem_of_getElem? (i := 22) (by decide +kernel), List.mem_of_getElem? (i := 626) (by decide +kernel), List.mem_of_getElem? (i := 627) (by decide +kernel)⟩
def lw_privs_1 : List (MethodName × Nat) := [(⟨"Icehighway", "kilosMissing", "(I)I"⟩, 9), (⟨"java/lang/Throwable", "fillInStackTrace", "(I)Ljava/lang/Throwable;"⟩, 6), (⟨"java/util/ArrayList", "add", "(Ljava/lang/Object;[Ljava/lang/Object;I)V"⟩, 3), (⟨"java/util/ArrayList", "grow", "()[Ljava/lang/Object;"⟩, 3), (⟨"java/util/ArrayList", "grow", "(I)[Ljava/lang/Object;"⟩, 3), (⟨"Icehighway", "pieceNumbered", "(I)LIcehighway$Piece;"⟩, 9), (⟨"Icehighway", "vehicleNumbered", "(I)LIcehighway$Vehicle;"⟩, 9), (⟨"Icehighway", "stopAtEnd", "(LIcehighway$Vehicle;)V"⟩, 9), (⟨"Icehighway", "unload", "(LIcehighway$Vehicle;)V"⟩, 9), (⟨"Icehighway", "passOneMinute", "()V"⟩, 9), (⟨"Icehighway", "endDay", "()V"⟩, 9), (⟨"Icehighway$Piece", "growth", "(I)I"⟩, 16), (⟨"Icehighway", "moveOn", "(LIcehighway$Vehicle;)V"⟩, 9), (⟨"Icehighway", "leave", "(LIcehighway$Vehicle;)V"⟩, 9), (⟨"Icehighway", "whatIsAgainst", "(LIcehighway$Vehicle;)I"⟩, 9), (⟨"Icehighway", "pieceAhead", "(LIcehighway$Vehicle;)LIcehighway$Piece;"⟩, 9)]
theorem lw_r1 : ∀ q ∈ lw_privs_1, lw_okq q := List.forall_mem_cons.mpr ⟨lw_p0, List.forall_mem_cons.mpr ⟨lw_p1, List.forall_mem_cons.mpr ⟨lw_p2, List.forall_mem_cons.mpr ⟨lw_p3, List.forall_mem_cons.mpr ⟨lw_p4, List.forall_mem_cons.mpr ⟨lw_p5, List.forall_mem_cons.mpr ⟨lw_p6, List.forall_mem_cons.mpr ⟨lw_p7, List.forall_mem_cons.mpr ⟨lw_p8, List.forall_mem_cons.mpr ⟨lw_p9, List.forall_mem_cons.mpr ⟨lw_p10, List.forall_mem_cons.mpr ⟨lw_p11, List.forall_mem_cons.mpr ⟨lw_p12, List.forall_mem_cons.mpr ⟨lw_p13, List.forall_mem_cons.mpr ⟨lw_p14, List.forall_mem_cons.mpr ⟨lw_p15, fun _ h => absurd h List.not_mem_nil⟩⟩⟩⟩⟩⟩⟩⟩⟩⟩⟩⟩⟩⟩⟩⟩
theorem lw_p16 : lw_okq (⟨"Icehighway", "comeOnto", "(LIcehighway$Vehicle;)V"⟩, 9) := ⟨⟨by decide +kernel, by decide +kernel⟩, List.mem_of_getElem? (i := 22) (by decide +kernel), List.mem_of_getElem? (i := 650) (by decide +kernel), List.mem_of_getElem? (i := 651) (by decide +kernel)⟩
theorem lw_p17 : lw_okq (⟨"Icehighway", "kilosInVehicles", "(IZ)I"⟩, 9) := ⟨⟨by decide +kernel, by decide +kernel⟩, List.mem_of_getElem? (i := 22) (by decide +kernel), List.mem_of_getElem? (i := 741) (by decide +kernel), List.mem_of_getElem? (i := 742) (by decide +kernel)⟩
theorem lw_p18 : lw_okq (⟨"IcehighwayModel", "fails", "(I)Z"⟩, 30) := ⟨⟨by decide +kernel, by decide +kernel⟩, List.mem_of_getElem? (i := 752) (by decide +kernel), List.mem_of_getElem? (i := 862) (by decide +kernel), List.mem_of_getElem? (i := 863) (by decide +kernel)⟩
theorem lw_p19 : lw_okq (⟨"IcehighwayModel", "isPiece", "(I)Z"⟩, 30) := ⟨⟨by decide +kernel, by decide +kernel⟩, List.mem_of_getElem? (i := 752) (by decide +kernel), List.mem_of_getElem? (i := 879) (by decide +kernel), List.mem_of_getElem? (i := 880) (by decide +kernel)⟩
theorem lw_p20 : lw_okq (⟨"IcehighwayModel", "isWater", "(I)Z"⟩, 30) := ⟨⟨by decide +kernel, by decide +kernel⟩, List.mem_of_getElem? (i := 752) (by decide +kernel), List.mem_of_getElem? (i := 887) (by decide +kernel), List.mem_of_getElem? (i := 888) (by decide +kernel)⟩
theorem lw_p21 : lw_okq (⟨"IcehighwayModel", "thick", "(I)D"⟩, 30) := ⟨⟨by decide +kernel, by decide +kernel⟩, List.mem_of_getElem? (i := 752) (by decide +kernel), List.mem_of_getElem? (i := 895) (by decide +kernel), List.mem_of_getElem? (i := 896) (by decide +kernel)⟩
theorem lw_p22 : lw_okq (⟨"IcehighwayModel", "isVehicle", "(I)Z"⟩, 30) := ⟨⟨by decide +kernel, by decide +kernel⟩, List.mem_of_getElem? (i := 752) (by decide +kernel), List.mem_of_getElem? (i := 922) (by decide +kernel), List.mem_of_getElem? (i := 923) (by decide +kernel)⟩
theorem lw_p23 : lw_okq (⟨"IcehighwayModel", "weight", "(I)I"⟩, 30) := ⟨⟨by decide +kernel, by decide +kernel⟩, List.mem_of_getElem? (i := 752) (by decide +kernel), List.mem_of_getElem? (i := 929) (by decide +kernel), List.mem_of_getElem? (i := 930) (by decide +kernel)⟩
theorem lw_p24 : lw_okq (⟨"IcehighwayModel", "isThere", "(I)Z"⟩, 30) := ⟨⟨by decide +kernel, by decide +kernel⟩, List.mem_of_getElem? (i := 752) (by decide +kernel), List.mem_of_getElem? (i := 941) (by decide +kernel), List.mem_of_getElem? (i := 942) (by decide +kernel)⟩
theorem lw_p25 : lw_okq (⟨"IcehighwayModel", "arrives", "(I)V"⟩, 30) := ⟨⟨by decide +kernel, by decide +kernel⟩, List.mem_of_getElem? (i := 752) (by decide +kernel), List.mem_of_getElem? (i := 945) (by decide +kernel), List.mem_of_getElem? (i := 946) (by decide +kernel)⟩
theorem lw_p26 : lw_okq (⟨"IcehighwayModel", "unloads", "(IZ)V"⟩, 30) := ⟨⟨by decide +kernel, by decide +kernel⟩, List.mem_of_getElem? (i := 752) (by decide +kernel), List.mem_of_getElem? (i := 949) (by decide +kernel), List.mem_of_getElem? (i := 950) (by decide +kernel)⟩
theorem lw_p27 : lw_okq (⟨"IcehighwayModel", "passes", "()V"⟩, 30) := ⟨⟨by decide +kernel, by decide +kernel⟩, List.mem_of_getElem? (i := 752) (by decide +kernel), List.mem_of_getElem? (i := 964) (by decide +kernel), List.mem_of_getElem? (i := 965) (by decide +kernel)⟩
theorem lw_p28 : lw_okq (⟨"IcehighwayModel", "ends", "()V"⟩, 30) := ⟨⟨by decide +kernel, by decide +kernel⟩, List.mem_of_getElem? (i := 752) (by decide +kernel), List.mem_of_getElem? (i := 968) (by decide +kernel), List.mem_of_getElem? (i := 969) (by decide +kernel)⟩
theorem lw_p29 : lw_okq (⟨"IcehighwayModel", "freezes", "(I)V"⟩, 30) := ⟨⟨by decide +kernel, by decide +kernel⟩, List.mem_of_getElem? (i := 752) (by decide +kernel), List.mem_of_getElem? (i := 972) (by decide +kernel), List.mem_of_getElem? (i := 973) (by decide +kernel)⟩
theorem lw_p30 : lw_okq (⟨"IcehighwayModel", "thaws", "(I)V"⟩, 30) := ⟨⟨by decide +kernel, by decide +kernel⟩, List.mem_of_getElem? (i := 752) (by decide +kernel), List.mem_of_getElem? (i := 976) (by decide +kernel), List.mem_of_getElem? (i := 977) (by decide +kernel)⟩
theorem lw_p31 : lw_okq (⟨"IcehighwayModel", "leaves", "(I)V"⟩, 30) := ⟨⟨by decide +kernel, by decide +kernel⟩, List.mem_of_getElem? (i := 752) (by decide +kernel), List.mem_of_getElem? (i := 980) (by decide +kernel), List.mem_of_getElem? (i := 981) (by decide +kernel)⟩
def lw_privs_2 : List (MethodName × Nat) := [(⟨"Icehighway", "comeOnto", "(LIcehighway$Vehicle;)V"⟩, 9), (⟨"Icehighway", "kilosInVehicles", "(IZ)I"⟩, 9), (⟨"IcehighwayModel", "fails", "(I)Z"⟩, 30), (⟨"IcehighwayModel", "isPiece", "(I)Z"⟩, 30), (⟨"IcehighwayModel", "isWater", "(I)Z"⟩, 30), (⟨"IcehighwayModel", "thick", "(I)D"⟩, 30), (⟨"IcehighwayModel", "isVehicle", "(I)Z"⟩, 30), (⟨"IcehighwayModel", "weight", "(I)I"⟩, 30), (⟨"IcehighwayModel", "isThere", "(I)Z"⟩, 30), (⟨"IcehighwayModel", "arrives", "(I)V"⟩, 30), (⟨"IcehighwayModel", "unloads", "(IZ)V"⟩, 30), (⟨"IcehighwayModel", "passes", "()V"⟩, 30), (⟨"IcehighwayModel", "ends", "()V"⟩, 30), (⟨"IcehighwayModel", "freezes", "(I)V"⟩, 30), (⟨"IcehighwayModel", "thaws", "(I)V"⟩, 30), (⟨"IcehighwayModel", "leaves", "(I)V"⟩, 30)]
theorem lw_r2 : ∀ q ∈ lw_privs_2, lw_okq q := List.forall_mem_cons.mpr ⟨lw_p16, List.forall_mem_cons.mpr ⟨lw_p17, List.forall_mem_cons.mpr ⟨lw_p18, List.forall_mem_cons.mpr ⟨lw_p19, List.forall_mem_cons.mpr ⟨lw_p20, List.forall_mem_cons.mpr ⟨lw_p21, List.forall_mem_cons.mpr ⟨lw_p22, List.forall_mem_cons.mpr ⟨lw_p23, List.forall_mem_cons.mpr ⟨lw_p24, List.forall_mem_cons.mpr ⟨lw_p25, List.forall_mem_cons.mpr ⟨lw_p26, List.forall_mem_cons.mpr ⟨lw_p27, List.forall_mem_cons.mpr ⟨lw_p28, List.forall_mem_cons.mpr ⟨lw_p29, List.forall_mem_cons.mpr ⟨lw_p30, List.forall_mem_cons.mpr ⟨lw_p31, fun _ h => absurd h List.not_mem_nil⟩⟩⟩⟩⟩⟩⟩⟩⟩⟩⟩⟩⟩⟩⟩⟩
theorem lw_p32 : lw_okq (⟨"IcehighwayModel", "against", "(I)I"⟩, 30) := ⟨⟨by decide +kernel, by decide +kernel⟩, List.mem_of_getElem? (i := 752) (by decide +kernel), List.mem_of_getElem? (i := 984) (by decide +kernel), List.mem_of_getElem? (i := 985) (by decide +kernel)⟩
theorem lw_p33 : lw_okq (⟨"IcehighwayModel", "nextPiece", "(I)I"⟩, 30) := ⟨⟨by decide +kernel, by decide +kernel⟩, List.mem_of_getElem? (i := 752) (by decide +kernel), List.mem_of_getElem? (i := 988) (by decide +kernel), List.mem_of_getElem? (i := 989) (by decide +kernel)⟩
theorem lw_p34 : lw_okq (⟨"IcehighwayModel", "isMet", "(II)Z"⟩, 30) := ⟨⟨by decide +kernel, by decide +kernel⟩, List.mem_of_getElem? (i := 752) (by decide +kernel), List.mem_of_getElem? (i := 992) (by decide +kernel), List.mem_of_getElem? (i := 993) (by decide +kernel)⟩
theorem lw_p35 : lw_okq (⟨"IcehighwayModel", "weights", "(I)I"⟩, 30) := ⟨⟨by decide +kernel, by decide +kernel⟩, List.mem_of_getElem? (i := 752) (by decide +kernel), List.mem_of_getElem? (i := 996) (by decide +kernel), List.mem_of_getElem? (i := 997) (by decide +kernel)⟩
theorem lw_p36 : lw_okq (⟨"IcehighwayModel", "bearsBy", "(ID)I"⟩, 30) := ⟨⟨by decide +kernel, by decide +kernel⟩, List.mem_of_getElem? (i := 752) (by decide +kernel), List.mem_of_getElem? (i := 1000) (by decide +kernel), List.mem_of_getElem? (i := 1001) (by decide +kernel)⟩
theorem lw_p37 : lw_okq (⟨"IcehighwayModel", "comes", "(I)V"⟩, 30) := ⟨⟨by decide +kernel, by decide +kernel⟩, List.mem_of_getElem? (i := 752) (by decide +kernel), List.mem_of_getElem? (i := 1006) (by decide +kernel), List.mem_of_getElem? (i := 1007) (by decide +kernel)⟩
theorem lw_p38 : lw_okq (⟨"IcehighwayModel", "minutesOn", "(II)I"⟩, 30) := ⟨⟨by decide +kernel, by decide +kernel⟩, List.mem_of_getElem? (i := 752) (by decide +kernel), List.mem_of_getElem? (i := 1010) (by decide +kernel), List.mem_of_getElem? (i := 1011) (by decide +kernel)⟩
theorem lw_p39 : lw_okq (⟨"IcehighwayModel", "speedOn", "(II)I"⟩, 30) := ⟨⟨by decide +kernel, by decide +kernel⟩, List.mem_of_getElem? (i := 752) (by decide +kernel), List.mem_of_getElem? (i := 1014) (by decide +kernel), List.mem_of_getElem? (i := 1015) (by decide +kernel)⟩
theorem lw_p40 : lw_okq (⟨"IcehighwayModel", "many", "(I)I"⟩, 30) := ⟨⟨by decide +kernel, by decide +kernel⟩, List.mem_of_getElem? (i := 752) (by decide +kernel), List.mem_of_getElem? (i := 1028) (by decide +kernel), List.mem_of_getElem? (i := 1029) (by decide +kernel)⟩
theorem lw_p41 : lw_okq (⟨"IcehighwayModel", "missing", "(I)I"⟩, 30) := ⟨⟨by decide +kernel, by decide +kernel⟩, List.mem_of_getElem? (i := 752) (by decide +kernel), List.mem_of_getElem? (i := 1065) (by decide +kernel), List.mem_of_getElem? (i := 1066) (by decide +kernel)⟩
theorem lw_p42 : lw_okq (⟨"IcehighwayModel", "carried", "(IZ)I"⟩, 30) := ⟨⟨by decide +kernel, by decide +kernel⟩, List.mem_of_getElem? (i := 752) (by decide +kernel), List.mem_of_getElem? (i := 1069) (by decide +kernel), List.mem_of_getElem? (i := 1070) (by decide +kernel)⟩
def lw_privs_3 : List (MethodName × Nat) := [(⟨"IcehighwayModel", "against", "(I)I"⟩, 30), (⟨"IcehighwayModel", "nextPiece", "(I)I"⟩, 30), (⟨"IcehighwayModel", "isMet", "(II)Z"⟩, 30), (⟨"IcehighwayModel", "weights", "(I)I"⟩, 30), (⟨"IcehighwayModel", "bearsBy", "(ID)I"⟩, 30), (⟨"IcehighwayModel", "comes", "(I)V"⟩, 30), (⟨"IcehighwayModel", "minutesOn", "(II)I"⟩, 30), (⟨"IcehighwayModel", "speedOn", "(II)I"⟩, 30), (⟨"IcehighwayModel", "many", "(I)I"⟩, 30), (⟨"IcehighwayModel", "missing", "(I)I"⟩, 30), (⟨"IcehighwayModel", "carried", "(IZ)I"⟩, 30)]
theorem lw_r3 : ∀ q ∈ lw_privs_3, lw_okq q := List.forall_mem_cons.mpr ⟨lw_p32, List.forall_mem_cons.mpr ⟨lw_p33, List.forall_mem_cons.mpr ⟨lw_p34, List.forall_mem_cons.mpr ⟨lw_p35, List.forall_mem_cons.mpr ⟨lw_p36, List.forall_mem_cons.mpr ⟨lw_p37, List.forall_mem_cons.mpr ⟨lw_p38, List.forall_mem_cons.mpr ⟨lw_p39, List.forall_mem_cons.mpr ⟨lw_p40, List.forall_mem_cons.mpr ⟨lw_p41, List.forall_mem_cons.mpr ⟨lw_p42, fun _ h => absurd h List.not_mem_nil⟩⟩⟩⟩⟩⟩⟩⟩⟩⟩⟩
def lw_privs : List (MethodName × Nat) := lw_privs_1 ++ (lw_privs_2 ++ (lw_privs_3))
def lw_tbl : List Cond := k2_sels lw_privs ++ tables_1
theorem lw_privs_ok : ∀ q ∈ lw_privs, lw_okq q := by
  show ∀ q ∈ lw_privs_1 ++ (lw_privs_2 ++ (lw_privs_3)), lw_okq q
  exact List.forall_mem_append.mpr ⟨lw_r1, List.forall_mem_append.mpr ⟨lw_r2, lw_r3⟩⟩
/-- the streams that the claim lets the run draw from -/
abbrev lw_cs : List Choice := [Jvm.Choice.named "NaN.bits"]
theorem lw_bits : nanBits ∈ lw_cs := by first | decide | exact List.mem_cons_self | simp [lw_cs, nanBits]
end
section
/-! ===== BEGIN words of one list among another's, by their places ===== -/
theorem goodIn_r {big : List Cond} (ws : List Cond) (ps : List Nat) (hp : ws = ps.filterMap (fun i => big[i]?)) (h : ws.all goodWord = true) : GoodIn big ws := by
  intro w hw
  have h1 := List.all_eq_true.mp h w hw
  rw [hp] at hw
  obtain ⟨i, -, hi⟩ := List.mem_filterMap.mp hw
  have hm : w ∈ big := by first | exact List.mem_of_getElem? hi | exact List.getElem?_mem hi
  exact ⟨hm, good_of_word h1⟩
theorem goodIn_app {big a b : List Cond} (ha : GoodIn big a) (hb : GoodIn big b) : GoodIn big (a ++ b) := fun w h => (List.mem_append.mp h).elim (ha w) (hb w)
theorem goodIn_ca {big a b : List Cond} {c : Cond} (ha : GoodIn big (c :: a)) (hb : GoodIn big b) : GoodIn big (c :: (a ++ b)) := fun w h => (List.mem_cons.mp h).elim (fun e => ha w (List.mem_cons.mpr (Or.inl e))) (fun h => (List.mem_append.mp h).elim (fun h => ha w (List.mem_cons.mpr (Or.inr h))) (hb w))
theorem goodIn_sub {big ws : List Cond} (hm : ∀ w ∈ ws, w ∈ big) (h : ws.all goodWord = true) : GoodIn big ws := fun w hw => ⟨hm w hw, good_of_word (List.all_eq_true.mp h w hw)⟩
/-! ===== END ===== -/

/-! ===== BEGIN exceptions that leave a method, and their catching by the caller (launches without stack traces) ===== -/
section VXA
/-! The laws vx_back, vx_callV, vx_callS, vx_callSW, vx_throw0, vx_throwS follow proofs of the library, with one case more: JvmDerived/Free/Laws.lean (Back.of_free), Shelf42/LK1.lean (callV, callS), Shelf/KitTraced.lean (throwNew0V, throwNewS). -/
/-- where a method has thrown q: the class by its name, the cell, what was written, the world -/
def vx_T (XC : String → State → State → Prop) (st : State) (q : Addr) (t : State) (mc ms : Nat) (free : Addr → Prop) : Prop :=
  ∃ (E : String) (ce : Cell) (L : List Loc), XC E st t ∧ t.heap[q]? = some ce ∧ ce.vm = .none ∧ st.vm.findClass E = some ce.cls ∧ st.WarmedH t.vm ∧ st.sameButNew ({ t with vm := st.vm } : State) L mc ms ∧ ∀ z ∈ L, free z.base
def vx_Q (Qc : Array Value → State → Outcome → State → Prop) (XC : String → State → State → Prop) (mc ms : Nat) (free : Addr → Prop) : Array Value → State → Outcome → State → Prop := fun a st o t =>
  (Qc a st o t ∧ ∃ L, FrameEnd st o t L mc ms ∧ ∀ q ∈ L, free q.base) ∨ ∃ q, o = .threw q ∧ vx_T XC st q t mc ms free
/-- a callee that returns or throws -/
def vx_Met (l : Launch) (y : MethodName) (ws : List Cond) (rm : Room) (Pc : Array Value → State → Prop) (Qc : Array Value → State → Outcome → State → Prop) (XC : String → State → State → Prop) (mc ms : Nat) (free : Addr → Prop) : Prop :=
  MetFree l y (headSpec ws rm) Pc (fun _ _ _ _ _ => True) (vx_Q Qc XC mc ms free)
def vx_Post (XC : String → State → State → Prop) (mc ms : Nat) (free : Addr → Prop) : Pt → Array Value → Addr → Pt → Prop := fun A a q B =>
  ∃ (g : JFrame) (mk : MethodId) (t : State) (L : List Loc) (E : String) (ce : Cell), B.U.heap = t.heap ∧ B.U.vm = t.vm ∧ XC E (A.U.calling g mk a) t ∧ t.heap[q]? = some ce ∧ ce.vm = .none ∧ A.U.vm.findClass E = some ce.cls ∧ B.locs = A.locs ++ L ∧ (∀ z ∈ L, free z.base) ∧ B.cells = A.cells + mc ∧ B.slots = A.slots + ms
def vx_Back (l : Launch) (R : Room) (p : Program) (e : Env) (below : List Frame) (s : State) (sargs : Array Value) (y : MethodName) (len W9 : Nat)
    (Pre : Pt → Array Value → Prop) (Post : Pt → Array Value → Option Value → Pt → Prop) (PostX : Pt → Array Value → Addr → Pt → Prop) : Prop :=
  ∀ (m : MethodId) (meth : Method) (c : Code) (A : Pt) (g : JFrame) (ig : Instr) (mk : MethodId) (a : Array Value),
    Stand p l e R s m sargs below meth c A.U A.locs A.cells A.slots → g.method = m → g.locals.size = c.maxLocals → decode c.code g.pc = .ok (ig, len) →
    2 * g.monitorRoom + (g.stack.map fun v => v.category).sum ≤ W9 → A.U.methodNamed? y = some mk → Pre A a →
    (∃ (v : Option Value) (B : Pt), Stand p l e R s m sargs below meth c B.U B.locs B.cells B.slots ∧ Post A a v B ∧
      Steps p.tables e below (doInvoke e (A.U.setTop g) [] mk a).1 (B.U.setTop { g with pc := g.pc + len, stack := v.toList ++ g.stack })) ∨
    (∃ (q : Addr) (B : Pt), Stand p l e R s m sargs below meth c B.U B.locs B.cells B.slots ∧ PostX A a q B ∧
      Steps p.tables e below (doInvoke e (A.U.setTop g) [] mk a).1 ((B.U.setTop g).pushFrame (.throwing q)))
section Payer
variable {l : Launch} {R : Room} {p : Program} {e : Env} {below : List Frame} {s : State} {sargs : Array Value} {y : MethodName} {len W9 : Nat}
theorem vx_back {ws : List Cond} {rm : Room} {Pc : Array Value → State → Prop} {Qc : Array Value → State → Outcome → State → Prop} {XC : String → State → State → Prop} {mc ms : Nat} {free : Addr → Prop} {bytes : ByteArray} {maxL : Nat} {ret : Option FieldType}
    (hM : vx_Met l y ws rm Pc Qc XC mc ms free) (hblind : FrameBlind Pc) (hrc : rm.cells = mc) (hrs : rm.slots = ms)
    (hframes : rm.frames + 1 ≤ R.frames) (hlocals : W9 + (maxL + 11) + rm.locals ≤ R.locals)
    (hws : ∀ w ∈ ws, ∀ a' U, s.WarmedH U.vm → w.before a' U = true) (hcode : Cond.code y bytes maxL ret ∈ ws) (hinit : ∀ a' U, s.WarmedH U.vm → (Cond.initialized y.cls).before a' U = true) :
    vx_Back l R p e below s sargs y len W9 (PreOf R mc ms Pc) (PostOf Qc mc ms free) (vx_Post XC mc ms free) := by
  intro m meth c A g ig mk a X hg hsize hdg hW hn hp
  have h1 : (headSpec ws rm).pre.before a A.U = true := atoms_intro fun w hw => hws w hw _ _ X.warmed
  have h2 : (Cond.code y bytes maxL ret).before a A.U = true := hws _ hcode _ _ X.warmed
  have h3 : (Cond.initialized y.cls).before a A.U = true := hinit _ _ X.warmed
  have h4 : A.cells + (headSpec ws rm).room.cells ≤ R.cells := by rw [show (headSpec ws rm).room.cells = mc from hrc]; exact hp.1
  have h5 : A.slots + (headSpec ws rm).room.slots ≤ R.slots := by rw [show (headSpec ws rm).room.slots = ms from hrs]; exact hp.2.1
  have hPc : Pc a (A.U.calling g mk a) := hblind _ _ _ _ hp.2.2
  obtain ⟨U, Ls, c0, s0⟩ := A
  dsimp only [Pt.U, Pt.locs, Pt.cells, Pt.slots] at h1 h2 h3 h4 h5 X hn hPc ⊢
  obtain ⟨methY, cY, hmY, hcY, -, hlY, -, -, -, -⟩ := Cond.code_spec hn h2
  obtain ⟨kY, hkY, -⟩ := className_of_methodNamed hn
  have hinitY : kY.init = .initialized := Cond.initialized_spec (findClass_of_methodNamed hn) hkY h3
  have h : At U g.method c below := by rw [hg]; exact X.here
  have hlocals9 : W9 + (maxL + 11) + (headSpec ws rm).room.locals ≤ R.locals := hlocals
  have happ : (headSpec ws rm).appliesLoose y e.platform (U.calling g mk a) = true :=
    Spec.appliesLoose_calling (g := g) h hdg hn hkY hinitY
      (X.room_calling (g := g) (R' := (headSpec ws rm).room) hsize hmY hcY hframes (by rw [hlY]; omega) h4 h5) h1
  obtain ⟨mid, hmid⟩ := h.above
  have hfr : (U.setTop g).frames = (.java g :: mid) ++ below := by rw [State.frames_setTop' g h.top, hmid]; rfl
  obtain ⟨o, s₂, hsteps, -, hend, hq⟩ := Steps.callFree hM p X.admits X.cas X.clock (acts := []) hfr happ hPc trivial
  have hq' : vx_Q Qc XC mc ms free a (U.calling g mk a) o s₂ := hq
  rw [State.frames_setTop' g h.top] at hend
  obtain ⟨g₀, hg0⟩ := Option.isSome_iff_exists.mp h.top
  obtain ⟨r, hr⟩ := State.topJava?_eq_some.mp hg0
  have hr' : (({ U with heap := s₂.heap, slotsUsed := s₂.slotsUsed } : State).setVm s₂.vm).frames = .java g₀ :: r := hr
  rcases hq' with ⟨hqc, L, hfe, hL⟩ | ⟨q, rfl, E, ce, L, hx, hce, hcv, hcl, hW₂, hsm, hL⟩
  · obtain ⟨⟨v, rfl⟩, hW₂, e2, q2, q3, q4, q5, q6⟩ := id hfe
    have e3 : s₂ = ({ (U.calling g mk a).setFrames s₂.frames with heap := s₂.heap, slotsUsed := s₂.slotsUsed } : State).setVm s₂.vm := by
      have : s₂ = ({ s₂ with vm := (U.calling g mk a).vm } : State).setVm s₂.vm := rfl
      rw [e2] at this
      exact this
    obtain ⟨c₂, i₂, len₂, hc₂, hd₂, hf₂⟩ := hend
    have hW' : U.WarmedH s₂.vm := hW₂
    have hcc : c₂ = c := by
      have h1 : s₂.code? g.method = U.code? g.method := by
        rw [State.code?_eq, State.code?_eq, hW'.alike.method?]
      exact Option.some.inj (hc₂.symm.trans (h1.trans h.code))
    subst hcc
    have hlen : len₂ = len := by rw [hdg] at hd₂; cases hd₂; rfl
    subst hlen
    have hs₂ : s₂ = (({ U with heap := s₂.heap, slotsUsed := s₂.slotsUsed } : State).setVm s₂.vm).setTop { g with pc := g.pc + len₂, stack := v.toList ++ g.stack } := by
      refine e3.trans ?_
      rw [hf₂, State.calling_eq h.top, State.setFrames_setFrames, State.setTop_of_frames _ hr', hr]
      rfl
    have hsame : U.sameButNew ({ U with heap := s₂.heap, slotsUsed := s₂.slotsUsed } : State) L mc ms := by
      refine ⟨?_, q2, q3, q4, q5, q6⟩
      obtain ⟨t, ht, -⟩ := State.frames_cons hr
      show ({ U with heap := s₂.heap, slotsUsed := s₂.slotsUsed } : State) = { U.setFrames U.frames with heap := s₂.heap, slotsUsed := s₂.slotsUsed }
      rw [State.setFrames_self ht]
    subst hg
    refine Or.inl ⟨v, ⟨(({ U with heap := s₂.heap, slotsUsed := s₂.slotsUsed } : State).setVm s₂.vm), Ls ++ L, c0 + mc, s0 + ms⟩,
      ⟨X.admits, X.cas, X.clock, X.frames, X.room, X.hears, X.method, X.code, (X.here.setHeapUsed s₂.heap s₂.slotsUsed).setVm hW'.alike, X.tail, State.WarmedH.trans X.warmed hW', X.limits, X.bytes, X.same.trans (hsame.setVm s.vm)⟩,
      ⟨g, mk, s₂, L, rfl, rfl, hqc, rfl, hL, rfl, rfl⟩, ?_⟩
    show Steps p.tables e below _ ((({ U with heap := s₂.heap, slotsUsed := s₂.slotsUsed } : State).setVm s₂.vm).setTop { g with pc := g.pc + len₂, stack := v.toList ++ g.stack })
    rw [← hs₂]
    exact hsteps
  · obtain ⟨e2, q2, q3, q4, q5, q6⟩ := id hsm
    have e3 : s₂ = ({ (U.calling g mk a).setFrames s₂.frames with heap := s₂.heap, slotsUsed := s₂.slotsUsed } : State).setVm s₂.vm := by
      have : s₂ = ({ s₂ with vm := (U.calling g mk a).vm } : State).setVm s₂.vm := rfl
      rw [e2] at this
      exact this
    have hf₂ : s₂.frames = .throwing q :: .java g :: U.frames.tail := hend
    have hW' : U.WarmedH s₂.vm := hW₂
    have hs₂ : s₂ = ((({ U with heap := s₂.heap, slotsUsed := s₂.slotsUsed } : State).setVm s₂.vm).setTop g).pushFrame (.throwing q) := by
      refine e3.trans ?_
      rw [hf₂, State.calling_eq h.top, State.setFrames_setFrames, State.pushFrame, State.frames_setTop _ hr', State.setTop_of_frames _ hr', State.setFrames_setFrames, hr]
      rfl
    have hsame : U.sameButNew ({ U with heap := s₂.heap, slotsUsed := s₂.slotsUsed } : State) L mc ms := by
      refine ⟨?_, q2, q3, q4, q5, q6⟩
      obtain ⟨t, ht, -⟩ := State.frames_cons hr
      show ({ U with heap := s₂.heap, slotsUsed := s₂.slotsUsed } : State) = { U.setFrames U.frames with heap := s₂.heap, slotsUsed := s₂.slotsUsed }
      rw [State.setFrames_self ht]
    subst hg
    refine Or.inr ⟨q, ⟨(({ U with heap := s₂.heap, slotsUsed := s₂.slotsUsed } : State).setVm s₂.vm), Ls ++ L, c0 + mc, s0 + ms⟩,
      ⟨X.admits, X.cas, X.clock, X.frames, X.room, X.hears, X.method, X.code, (X.here.setHeapUsed s₂.heap s₂.slotsUsed).setVm hW'.alike, X.tail, State.WarmedH.trans X.warmed hW', X.limits, X.bytes, X.same.trans (hsame.setVm s.vm)⟩,
      ⟨g, mk, s₂, L, E, ce, rfl, rfl, hx, hce, hcv, hcl, rfl, hL, rfl, rfl⟩, ?_⟩
    show Steps p.tables e below _ (((({ U with heap := s₂.heap, slotsUsed := s₂.slotsUsed } : State).setVm s₂.vm).setTop g).pushFrame (.throwing q))
    rw [← hs₂]
    exact hsteps
end Payer
section Calls
variable {p : Program} {l : Launch} {e : Env} {R : Room} {s : State} {m : MethodId} {args : Array Value} {below : List Frame} {meth : Method} {c : Code} {T : State} {locs : List Loc} {cells slots : Nat}
theorem vx_callV (X : Stand p l e R s m args below meth c T locs cells slots) (hexec : p.tables.exec = Jvm.exec) {own C : String} {index : Nat} {y : MethodName} {bytes : ByteArray} {maxL : Nat} {ret : Option FieldType}
    (hown : s.vm.findClass own = some m.cls) (hlink : (Cond.methodLink own index y).before args s = true) (hinst : (Cond.instanceMethod y).before args s = true) (hsel : (Cond.selects C y y).before args s = true)
    (hcode : (Cond.code y bytes maxL ret).before args s = true) (hy : y.cls ≠ "java/lang/invoke/MethodHandle" ∧ y.cls ≠ "java/lang/invoke/VarHandle")
    {W9 : Nat} {Pre : Pt → Array Value → Prop} {Post : Pt → Array Value → Option Value → Pt → Prop} {PostX : Pt → Array Value → Addr → Pt → Prop} (hK : vx_Back l R p e below s args y 3 W9 Pre Post PostX)
    {b : Addr} {cellB : Cell} (hcell : T.heap[b]? = some cellB) (hobj : cellB.vm.isStatics = false) (hcls : s.vm.findClass C = some cellB.cls)
    {g : JFrame} (hg : g.method = m) (hsize : g.locals.size = c.maxLocals) {argsL rest : List Value} (hlen : ∀ sig, parseMethodDescriptor y.desc = some sig → argsL.length = sig.parameters.length)
    (hstack : g.stack = argsL.reverse ++ .ref b :: rest) (hW : 2 * g.monitorRoom + (rest.map fun v => v.category).sum ≤ W9) (hdg : decode c.code g.pc = .ok (.invokevirtual index, 3))
    (hpre : ∀ vm₁, s.WarmedH vm₁ → Pre ⟨T.setVm vm₁, locs, cells, slots⟩ (Value.ref b :: argsL).toArray) :
    (∃ (v : Option Value) (vm₁ : Vm) (B : Pt), s.WarmedH vm₁ ∧ Stand p l e R s m args below meth c B.U B.locs B.cells B.slots ∧ Post ⟨T.setVm vm₁, locs, cells, slots⟩ (Value.ref b :: argsL).toArray v B ∧
      ∀ target, Steps p.tables e below (B.U.setTop { g with pc := g.pc + 3, stack := v.toList ++ rest }) target → Steps p.tables e below (T.setTop g) target) ∨
    (∃ (q : Addr) (vm₁ : Vm) (B : Pt), s.WarmedH vm₁ ∧ Stand p l e R s m args below meth c B.U B.locs B.cells B.slots ∧ PostX ⟨T.setVm vm₁, locs, cells, slots⟩ (Value.ref b :: argsL).toArray q B ∧
      Steps p.tables e below (T.setTop g) ((B.U.setTop { g with stack := rest }).pushFrame (.throwing q))) := by
  obtain ⟨mk, methM, hnamed, hmethM, hstM, habM⟩ := Cond.instanceMethod_spec hinst
  obtain ⟨methM', cM, hmethM', -, -, -, -, -, -, hsigM⟩ := Cond.code_spec hnamed hcode
  cases hmethM.symm.trans hmethM'
  obtain ⟨c2, r2, m2, q1, q2, q3, q4, kP, hkP, hkPi⟩ := Cond.selects_spec hsel
  cases hcls.symm.trans q1
  cases (State.methodFound?_of_named hnamed hy).symm.trans q2
  cases hnamed.symm.trans q3
  have hselP : selectMethod e.platform s.vm cellB.cls mk = .method mk := by rw [Launch.admits_selectMethod X.admits]; exact q4
  obtain ⟨vm₁, X₁, hstep₁⟩ := X.invokevirtual hexec hown hlink hnamed hmethM hstM hkP hkPi hy (a := b) (cell := cellB) hcell
    (fun z h => by rw [h] at hobj; cases hobj) hselP hmethM habM hkP hkPi (g := g) hg (argsL := argsL) (rest := rest) (hlen _ hsigM) hstack hdg
  rcases hK m meth c ⟨T.setVm vm₁, locs, cells, slots⟩ { g with stack := rest } (.invokevirtual index) mk (Value.ref b :: argsL).toArray X₁ hg hsize hdg hW (X₁.named hnamed) (hpre vm₁ X₁.warmed) with ⟨v, B, X', hpost, hsteps⟩ | ⟨q, B, X', hpost, hsteps⟩
  · exact Or.inl ⟨v, vm₁, B, X₁.warmed, X', hpost, fun target h => hstep₁ _ fun acts => by rw [doInvoke_state]; exact hsteps.trans h⟩
  · exact Or.inr ⟨q, vm₁, B, X₁.warmed, X', hpost, hstep₁ _ fun acts => by rw [doInvoke_state]; exact hsteps⟩
theorem vx_callS (X : Stand p l e R s m args below meth c T locs cells slots) (hexec : p.tables.exec = Jvm.exec) {own : String} {index : Nat} {y : MethodName} {bytes : ByteArray} {maxL : Nat} {ret : Option FieldType}
    (hown : s.vm.findClass own = some m.cls) (hlink : (Cond.methodLink own index y).before args s = true) (hstat : (Cond.static y).before args s = true) (hinit : (Cond.initialized y.cls).before args s = true)
    (hcode : (Cond.code y bytes maxL ret).before args s = true) (hy : y.cls ≠ "java/lang/invoke/MethodHandle" ∧ y.cls ≠ "java/lang/invoke/VarHandle")
    {W9 : Nat} {Pre : Pt → Array Value → Prop} {Post : Pt → Array Value → Option Value → Pt → Prop} {PostX : Pt → Array Value → Addr → Pt → Prop} (hK : vx_Back l R p e below s args y 3 W9 Pre Post PostX)
    {g : JFrame} (hg : g.method = m) (hsize : g.locals.size = c.maxLocals) {argsL rest : List Value} (hlen : ∀ sig, parseMethodDescriptor y.desc = some sig → argsL.length = sig.parameters.length)
    (hstack : g.stack = argsL.reverse ++ rest) (hW : 2 * g.monitorRoom + (rest.map fun v => v.category).sum ≤ W9) (hdg : decode c.code g.pc = .ok (.invokestatic index, 3))
    (hpre : ∀ vm₁, s.WarmedH vm₁ → Pre ⟨T.setVm vm₁, locs, cells, slots⟩ argsL.toArray) :
    (∃ (v : Option Value) (vm₁ : Vm) (B : Pt), s.WarmedH vm₁ ∧ Stand p l e R s m args below meth c B.U B.locs B.cells B.slots ∧ Post ⟨T.setVm vm₁, locs, cells, slots⟩ argsL.toArray v B ∧
      ∀ target, Steps p.tables e below (B.U.setTop { g with pc := g.pc + 3, stack := v.toList ++ rest }) target → Steps p.tables e below (T.setTop g) target) ∨
    (∃ (q : Addr) (vm₁ : Vm) (B : Pt), s.WarmedH vm₁ ∧ Stand p l e R s m args below meth c B.U B.locs B.cells B.slots ∧ PostX ⟨T.setVm vm₁, locs, cells, slots⟩ argsL.toArray q B ∧
      Steps p.tables e below (T.setTop g) ((B.U.setTop { g with stack := rest }).pushFrame (.throwing q))) := by
  obtain ⟨mk, hnamed⟩ := Cond.code_named hcode
  obtain ⟨methM, cM, hmethM, -, -, -, -, -, -, hsigM⟩ := Cond.code_spec hnamed hcode
  have hstatic : methM.isStatic = true := Cond.static_spec hnamed hmethM hstat
  obtain ⟨kP, hkP, -⟩ := className_of_methodNamed hnamed
  have hinitP : kP.init = .initialized := Cond.initialized_spec (findClass_of_methodNamed hnamed) hkP hinit
  obtain ⟨vm₁, X₁, hstep₁⟩ := X.invokestatic hexec hown hlink hnamed hmethM hstatic hkP hinitP hy (g := g) hg (argsL := argsL) (rest := rest) (hlen _ hsigM) hstack hdg
  rcases hK m meth c ⟨T.setVm vm₁, locs, cells, slots⟩ { g with stack := rest } (.invokestatic index) mk argsL.toArray X₁ hg hsize hdg hW (X₁.named hnamed) (hpre vm₁ X₁.warmed) with ⟨v, B, X', hpost, hsteps⟩ | ⟨q, B, X', hpost, hsteps⟩
  · exact Or.inl ⟨v, vm₁, B, X₁.warmed, X', hpost, fun target h => hstep₁ _ fun acts => by rw [doInvoke_state]; exact hsteps.trans h⟩
  · exact Or.inr ⟨q, vm₁, B, X₁.warmed, X', hpost, hstep₁ _ fun acts => by rw [doInvoke_state]; exact hsteps⟩
end Calls
theorem vx_cls {s : State} {T : State} {vm₁ : Vm} {E : String} {k : ClassId} (hW : s.WarmedH vm₁) (h : (T.setVm vm₁).vm.findClass E = some k) : s.vm.findClass E = some k := by
  have h1 : vm₁.findClass E = some k := h
  rw [hW.alike.findClass] at h1
  exact h1
/-- the method's frame g, with q thrown over it -/
def vx_W (p : Program) (l : Launch) (e : Env) (R : Room) (s : State) (m : MethodId) (args : Array Value) (below : List Frame) (meth : Method) (c : Code) (H : Heap) (locs : List Loc) (cells slots : Nat) (Q : State → Prop) (g : JFrame) (q : Addr) : Prop :=
  ∀ T : State, T.heap = H → Stand p l e R s m args below meth c T locs cells slots → ∃ t, Steps p.tables e below ((T.setTop g).pushFrame (.throwing q)) t ∧ Q t
def vx_Run (p : Program) (l : Launch) (e : Env) (R : Room) (s : State) (m : MethodId) (args : Array Value) (below : List Frame) (meth : Method) (c : Code) (H : Heap) (locs : List Loc) (cells slots mc ms : Nat) (g : JFrame) (rest : List Value) (Qa : State → Outcome → State → Prop) (XC : String → State → State → Prop) (free : Addr → Prop) : Prop :=
  ∀ T : State, T.heap = H → Stand p l e R s m args below meth c T locs cells slots →
    (∃ (v : Option Value) (st₀ t T' : State) (L : List Loc), st₀.heap = H ∧ Stand p l e R s m args below meth c T' (locs ++ L) (cells + mc) (slots + ms) ∧ (∀ q ∈ L, free q.base) ∧ T'.heap = t.heap ∧ T'.vm = t.vm ∧ Qa st₀ (.returned v) t ∧
      Goes p e below T g T' { g with pc := g.pc + 3, stack := v.toList ++ rest }) ∨
    (∃ (q : Addr) (st₀ t T' : State) (L : List Loc) (E : String) (ce : Cell), st₀.heap = H ∧ Stand p l e R s m args below meth c T' (locs ++ L) (cells + mc) (slots + ms) ∧ (∀ z ∈ L, free z.base) ∧ T'.heap = t.heap ∧ T'.vm = t.vm ∧ XC E st₀ t ∧ t.heap[q]? = some ce ∧ ce.vm = .none ∧ s.vm.findClass E = some ce.cls ∧
      Steps p.tables e below (T.setTop g) ((T'.setTop { g with stack := rest }).pushFrame (.throwing q)))
def vx_X {S : Type} (px : S → Prop) (B : String → S → State → Prop) (A : Nat → Prop) : String → State → State → Prop := fun E st t => ∃ u : S, px u ∧ B E u t ∧ va_F A st t
section Runs
variable {p : Program} {l : Launch} {e : Env} {R : Room} {s : State} {m : MethodId} {args : Array Value} {below : List Frame} {meth : Method} {c : Code} {H : Heap} {locs : List Loc} {cells slots : Nat}
variable {y : MethodName} {bytes cc : ByteArray} {maxL nL mc ms n index : Nat} {ret : Option FieldType} {ws : List Cond} {rm : Room} {Pc : Array Value → State → Prop} {Qc : Array Value → State → Outcome → State → Prop} {XC : String → State → State → Prop} {free : Addr → Prop} {Ts : List Cond} {own C : String} {b : Addr} {As rest : List Value} {g : JFrame}
theorem vx_callBack (cb : CallB R s args own index y bytes maxL ret ws rm mc ms n) (hM : vx_Met l y ws rm Pc Qc XC mc ms free) (hbl : FrameBlind Pc) : vx_Back l R p e below s args y 3 8 (PreOf R mc ms Pc) (PostOf Qc mc ms free) (vx_Post XC mc ms free) := by
  obtain ⟨hrc, hrs, hfr, hlo, hws, hcw, -, hini, -⟩ := cb
  exact vx_back (bytes := bytes) (maxL := maxL) (ret := ret) hM hbl hrc hrs hfr hlo hws hcw (fun a' U hW => word_at hW (Or.inl (by first | rfl | simp [Cond.onTables, Cond.keeps, Cond.steady])) hini)
theorem vx_runV (S : CallFix p m c cc nL s args Ts own) (hM : vx_Met l y ws rm Pc Qc XC mc ms free) (cw : CallW R s args own C index y bytes maxL ret ws rm mc ms n) (hp : PreV s H C b Pc As)
    (hg : g.method = m) (hn : As.length = n) (hsize : g.locals.size = nL) (hstack : g.stack = As.reverse ++ .ref b :: rest) (hW : 2 * g.monitorRoom + (rest.map fun v => v.category).sum ≤ 8) (hdg : decode cc g.pc = .ok (.invokevirtual index, 3)) (hf : cells + mc ≤ R.cells ∧ slots + ms ≤ R.slots) :
    vx_Run p l e R s m args below meth c H locs cells slots mc ms g rest (Qc (Value.ref b :: As).toArray) XC free := by
  have hK : vx_Back l R p e below s args y 3 8 (PreOf R mc ms Pc) (PostOf Qc mc ms free) (vx_Post XC mc ms free) := vx_callBack cw.1 hM hp.1
  obtain ⟨⟨-, -, -, -, -, -, hcode, -, hy, hlen, hl⟩, hin, hse⟩ := cw
  obtain ⟨hx, hb, hml, ho, -⟩ := S
  obtain ⟨-, ⟨cellB, hcB, hoB, hclB⟩, hPc⟩ := hp
  intro T hT X
  rcases vx_callV X hx (C := C) (bytes := bytes) (maxL := maxL) (ret := ret) ho hl hin hse hcode hy hK (by rw [hT]; exact hcB) hoB hclB hg (hsize.trans hml.symm) (argsL := As) (rest := rest) (fun sig h => hn.trans (hlen sig h)) hstack hW (by rw [hb]; exact hdg)
    (fun vm₁ hW₁ => ⟨hf.1, hf.2, hPc (T.setVm vm₁) hT hW₁⟩) with ⟨v, vm₁, ⟨U', l2, c2, s2⟩, hW₁, X', ⟨g', mk, t, L, e1, e2, hq, h1, hL, h2, h3⟩, st⟩ | ⟨q, vm₁, ⟨U', l2, c2, s2⟩, hW₁, X', ⟨g', mk, t, L, E, ce, e1, e2, hq, hce, hcv, hcl, h1, hL, h2, h3⟩, st⟩
  · dsimp only [Pt.U, Pt.locs, Pt.cells, Pt.slots] at X' e1 e2 h1 h2 h3 st
    subst h1; subst h2; subst h3
    exact Or.inl ⟨v, (T.setVm vm₁).calling g' mk (Value.ref b :: As).toArray, t, U', L, hT, X', hL, e1, e2, hq, st⟩
  · dsimp only [Pt.U, Pt.locs, Pt.cells, Pt.slots] at X' e1 e2 h1 h2 h3 st hcl
    subst h1; subst h2; subst h3
    exact Or.inr ⟨q, (T.setVm vm₁).calling g' mk (Value.ref b :: As).toArray, t, U', L, E, ce, hT, X', hL, e1, e2, hq, hce, hcv, vx_cls hW₁ hcl, st⟩
theorem vx_runS (S : CallFix p m c cc nL s args Ts own) (hM : vx_Met l y ws rm Pc Qc XC mc ms free) (cw : CallB R s args own index y bytes maxL ret ws rm mc ms n ∧ (Cond.static y).before args s = true) (hp : PreS s H Pc As)
    (hg : g.method = m) (hn : As.length = n) (hsize : g.locals.size = nL) (hstack : g.stack = As.reverse ++ rest) (hW : 2 * g.monitorRoom + (rest.map fun v => v.category).sum ≤ 8) (hdg : decode cc g.pc = .ok (.invokestatic index, 3)) (hf : cells + mc ≤ R.cells ∧ slots + ms ≤ R.slots) :
    vx_Run p l e R s m args below meth c H locs cells slots mc ms g rest (Qc As.toArray) XC free := by
  have hK : vx_Back l R p e below s args y 3 8 (PreOf R mc ms Pc) (PostOf Qc mc ms free) (vx_Post XC mc ms free) := vx_callBack cw.1 hM hp.1
  obtain ⟨⟨-, -, -, -, -, -, hcode, hini, hy, hlen, hl⟩, hstt⟩ := cw
  obtain ⟨hx, hb, hml, ho, -⟩ := S
  intro T hT X
  rcases vx_callS X hx (bytes := bytes) (maxL := maxL) (ret := ret) ho hl hstt hini hcode hy hK hg (hsize.trans hml.symm) (argsL := As) (rest := rest) (fun sig h => hn.trans (hlen sig h)) hstack hW (by rw [hb]; exact hdg)
    (fun vm₁ hW₁ => ⟨hf.1, hf.2, hp.2 (T.setVm vm₁) hT hW₁⟩) with ⟨v, vm₁, ⟨U', l2, c2, s2⟩, hW₁, X', ⟨g', mk, t, L, e1, e2, hq, h1, hL, h2, h3⟩, st⟩ | ⟨q, vm₁, ⟨U', l2, c2, s2⟩, hW₁, X', ⟨g', mk, t, L, E, ce, e1, e2, hq, hce, hcv, hcl, h1, hL, h2, h3⟩, st⟩
  · dsimp only [Pt.U, Pt.locs, Pt.cells, Pt.slots] at X' e1 e2 h1 h2 h3 st
    subst h1; subst h2; subst h3
    exact Or.inl ⟨v, (T.setVm vm₁).calling g' mk As.toArray, t, U', L, hT, X', hL, e1, e2, hq, st⟩
  · dsimp only [Pt.U, Pt.locs, Pt.cells, Pt.slots] at X' e1 e2 h1 h2 h3 st hcl
    subst h1; subst h2; subst h3
    exact Or.inr ⟨q, (T.setVm vm₁).calling g' mk As.toArray, t, U', L, E, ce, hT, X', hL, e1, e2, hq, hce, hcv, vx_cls hW₁ hcl, st⟩
end Runs
section Rows
variable {p : Program} {l : Launch} {e : Env} {R : Room} {s : State} {m : MethodId} {args : Array Value} {below : List Frame} {meth : Method} {c : Code} {H : Heap} {locs : List Loc} {cells slots : Nat} {Q : State → Prop}
variable {mc ms : Nat} {free : Addr → Prop} {A0 A1 : Nat → Prop} {H0 : Heap} {a : Array Value} {pc : Nat} {ls : Array Slot} {st0 rest : List Value}
theorem vx_keep {st₀ t T' : State} {L : List Loc} (h0 : st₀.heap = H) (e1 : T'.heap = t.heap) (hS : va_S A0 H0 H locs) (hA : ∀ q, q < H.size → A1 q → A0 q) (hf : ∀ q, free q → A0 q) (hL : ∀ q ∈ L, free q.base) (hF : va_F A1 st₀ t) :
    H.size ≤ T'.heap.size ∧ (∀ q : Nat, q < H.size → ¬ A1 q → T'.heap[q]? = H[q]?) ∧ va_S A0 H0 T'.heap (locs ++ L) := by
  obtain ⟨hz, hk⟩ := hF
  rw [h0] at hz hk
  exact ⟨by rw [e1]; exact hz, fun q h1 h2 => by rw [e1]; exact hk q h1 h2,
    ⟨Nat.le_trans hS.1 (by rw [e1]; exact hz), fun q h1 h2 => by rw [e1, hk q (Nat.lt_of_lt_of_le h1 hS.1) (fun z => h2 (hA q (Nat.lt_of_lt_of_le h1 hS.1) z))]; exact hS.2.1 q h1 h2, fun q hq => by
      rcases List.mem_append.mp hq with h | h
      · exact hS.2.2 q h
      · exact hf _ (hL q h)⟩⟩
theorem vx_calli {S SX : Type} {post : Int32 → S → Prop} {px : SX → Prop} {B : S → State → Prop} {BX : String → SX → State → Prop} {AX : Nat → Prop} (hr : vx_Run p l e R s m args below meth c H locs cells slots mc ms (F0 m pc ls st0) rest (va_Qi post B A1 a) (vx_X px BX AX) free) (hS : va_S A0 H0 H locs) (hA : ∀ q, q < H.size → A1 q → A0 q) (hf : ∀ q, free q → A0 q) (hAX : ∀ q, q < H.size → AX q → A0 q)
    (kx : ∀ (E : String) (ce : Cell) (q9 : Addr) (u : SX) (t : State) (H1 : Heap) (locs1 : List Loc), t.heap = H1 → s.vm.Alike t.vm → px u → BX E u t → H.size ≤ H1.size → (∀ q : Nat, q < H.size → ¬ AX q → H1[q]? = H[q]?) → va_S A0 H0 H1 locs1 → H1[q9]? = some ce → ce.vm = .none → s.vm.findClass E = some ce.cls → vx_W p l e R s m args below meth c H1 locs1 (cells + mc) (slots + ms) Q (F0 m pc ls rest) q9)
    (kk : ∀ (r : Int32) (u : S) (t : State) (H1 : Heap) (locs1 : List Loc), t.heap = H1 → s.vm.Alike t.vm → post r u → B u t → H.size ≤ H1.size → (∀ q : Nat, q < H.size → ¬ A1 q → H1[q]? = H[q]?) → va_S A0 H0 H1 locs1 → W p l e R s m args below meth c H1 locs1 (cells + mc) (slots + ms) Q (F0 m (pc + 3) ls (.int r :: rest))) : W p l e R s m args below meth c H locs cells slots Q (F0 m pc ls st0) := by
  intro T hT X
  rcases hr T hT X with ⟨v, st₀, t, T', L, h0, X', hL, e1, e2, ⟨⟨r, u, hv, hp, hb⟩, hF⟩, st⟩ | ⟨q, st₀, t, T', L, E, ce, h0, X', hL, e1, e2, ⟨u, hp, hb, hF⟩, hce, hcv, hcl, st⟩
  · cases hv
    obtain ⟨k1, k2, k3⟩ := vx_keep h0 e1 hS hA hf hL hF
    obtain ⟨t2, a1, b1⟩ := kk r u t T'.heap (locs ++ L) e1.symm (by rw [← e2]; exact X'.warmed.alike) hp hb k1 k2 k3 T' rfl X'
    exact ⟨t2, st t2 a1, b1⟩
  · obtain ⟨k1, k2, k3⟩ := vx_keep h0 e1 hS hAX hf hL hF
    obtain ⟨t2, a1, b1⟩ := kx E ce q u t T'.heap (locs ++ L) e1.symm (by rw [← e2]; exact X'.warmed.alike) hp hb k1 k2 k3 (by rw [e1]; exact hce) hcv hcl T' rfl X'
    exact ⟨t2, st.trans a1, b1⟩
theorem vx_calll {S SX : Type} {post : Int64 → S → Prop} {px : SX → Prop} {B : S → State → Prop} {BX : String → SX → State → Prop} {AX : Nat → Prop} (hr : vx_Run p l e R s m args below meth c H locs cells slots mc ms (F0 m pc ls st0) rest (va_Ql post B A1 a) (vx_X px BX AX) free) (hS : va_S A0 H0 H locs) (hA : ∀ q, q < H.size → A1 q → A0 q) (hf : ∀ q, free q → A0 q) (hAX : ∀ q, q < H.size → AX q → A0 q)
    (kx : ∀ (E : String) (ce : Cell) (q9 : Addr) (u : SX) (t : State) (H1 : Heap) (locs1 : List Loc), t.heap = H1 → s.vm.Alike t.vm → px u → BX E u t → H.size ≤ H1.size → (∀ q : Nat, q < H.size → ¬ AX q → H1[q]? = H[q]?) → va_S A0 H0 H1 locs1 → H1[q9]? = some ce → ce.vm = .none → s.vm.findClass E = some ce.cls → vx_W p l e R s m args below meth c H1 locs1 (cells + mc) (slots + ms) Q (F0 m pc ls rest) q9)
    (kk : ∀ (r : Int64) (u : S) (t : State) (H1 : Heap) (locs1 : List Loc), t.heap = H1 → s.vm.Alike t.vm → post r u → B u t → H.size ≤ H1.size → (∀ q : Nat, q < H.size → ¬ A1 q → H1[q]? = H[q]?) → va_S A0 H0 H1 locs1 → W p l e R s m args below meth c H1 locs1 (cells + mc) (slots + ms) Q (F0 m (pc + 3) ls (.long r :: rest))) : W p l e R s m args below meth c H locs cells slots Q (F0 m pc ls st0) := by
  intro T hT X
  rcases hr T hT X with ⟨v, st₀, t, T', L, h0, X', hL, e1, e2, ⟨⟨r, u, hv, hp, hb⟩, hF⟩, st⟩ | ⟨q, st₀, t, T', L, E, ce, h0, X', hL, e1, e2, ⟨u, hp, hb, hF⟩, hce, hcv, hcl, st⟩
  · cases hv
    obtain ⟨k1, k2, k3⟩ := vx_keep h0 e1 hS hA hf hL hF
    obtain ⟨t2, a1, b1⟩ := kk r u t T'.heap (locs ++ L) e1.symm (by rw [← e2]; exact X'.warmed.alike) hp hb k1 k2 k3 T' rfl X'
    exact ⟨t2, st t2 a1, b1⟩
  · obtain ⟨k1, k2, k3⟩ := vx_keep h0 e1 hS hAX hf hL hF
    obtain ⟨t2, a1, b1⟩ := kx E ce q u t T'.heap (locs ++ L) e1.symm (by rw [← e2]; exact X'.warmed.alike) hp hb k1 k2 k3 (by rw [e1]; exact hce) hcv hcl T' rfl X'
    exact ⟨t2, st.trans a1, b1⟩
theorem vx_callf {S SX : Type} {post : UInt32 → S → Prop} {px : SX → Prop} {B : S → State → Prop} {BX : String → SX → State → Prop} {AX : Nat → Prop} (hr : vx_Run p l e R s m args below meth c H locs cells slots mc ms (F0 m pc ls st0) rest (va_Qf post B A1 a) (vx_X px BX AX) free) (hS : va_S A0 H0 H locs) (hA : ∀ q, q < H.size → A1 q → A0 q) (hf : ∀ q, free q → A0 q) (hAX : ∀ q, q < H.size → AX q → A0 q)
    (kx : ∀ (E : String) (ce : Cell) (q9 : Addr) (u : SX) (t : State) (H1 : Heap) (locs1 : List Loc), t.heap = H1 → s.vm.Alike t.vm → px u → BX E u t → H.size ≤ H1.size → (∀ q : Nat, q < H.size → ¬ AX q → H1[q]? = H[q]?) → va_S A0 H0 H1 locs1 → H1[q9]? = some ce → ce.vm = .none → s.vm.findClass E = some ce.cls → vx_W p l e R s m args below meth c H1 locs1 (cells + mc) (slots + ms) Q (F0 m pc ls rest) q9)
    (kk : ∀ (r : UInt32) (u : S) (t : State) (H1 : Heap) (locs1 : List Loc), t.heap = H1 → s.vm.Alike t.vm → post r u → B u t → H.size ≤ H1.size → (∀ q : Nat, q < H.size → ¬ A1 q → H1[q]? = H[q]?) → va_S A0 H0 H1 locs1 → W p l e R s m args below meth c H1 locs1 (cells + mc) (slots + ms) Q (F0 m (pc + 3) ls (.float r :: rest))) : W p l e R s m args below meth c H locs cells slots Q (F0 m pc ls st0) := by
  intro T hT X
  rcases hr T hT X with ⟨v, st₀, t, T', L, h0, X', hL, e1, e2, ⟨⟨r, u, hv, hp, hb⟩, hF⟩, st⟩ | ⟨q, st₀, t, T', L, E, ce, h0, X', hL, e1, e2, ⟨u, hp, hb, hF⟩, hce, hcv, hcl, st⟩
  · cases hv
    obtain ⟨k1, k2, k3⟩ := vx_keep h0 e1 hS hA hf hL hF
    obtain ⟨t2, a1, b1⟩ := kk r u t T'.heap (locs ++ L) e1.symm (by rw [← e2]; exact X'.warmed.alike) hp hb k1 k2 k3 T' rfl X'
    exact ⟨t2, st t2 a1, b1⟩
  · obtain ⟨k1, k2, k3⟩ := vx_keep h0 e1 hS hAX hf hL hF
    obtain ⟨t2, a1, b1⟩ := kx E ce q u t T'.heap (locs ++ L) e1.symm (by rw [← e2]; exact X'.warmed.alike) hp hb k1 k2 k3 (by rw [e1]; exact hce) hcv hcl T' rfl X'
    exact ⟨t2, st.trans a1, b1⟩
theorem vx_calld {S SX : Type} {post : UInt64 → S → Prop} {px : SX → Prop} {B : S → State → Prop} {BX : String → SX → State → Prop} {AX : Nat → Prop} (hr : vx_Run p l e R s m args below meth c H locs cells slots mc ms (F0 m pc ls st0) rest (va_Qd post B A1 a) (vx_X px BX AX) free) (hS : va_S A0 H0 H locs) (hA : ∀ q, q < H.size → A1 q → A0 q) (hf : ∀ q, free q → A0 q) (hAX : ∀ q, q < H.size → AX q → A0 q)
    (kx : ∀ (E : String) (ce : Cell) (q9 : Addr) (u : SX) (t : State) (H1 : Heap) (locs1 : List Loc), t.heap = H1 → s.vm.Alike t.vm → px u → BX E u t → H.size ≤ H1.size → (∀ q : Nat, q < H.size → ¬ AX q → H1[q]? = H[q]?) → va_S A0 H0 H1 locs1 → H1[q9]? = some ce → ce.vm = .none → s.vm.findClass E = some ce.cls → vx_W p l e R s m args below meth c H1 locs1 (cells + mc) (slots + ms) Q (F0 m pc ls rest) q9)
    (kk : ∀ (r : UInt64) (u : S) (t : State) (H1 : Heap) (locs1 : List Loc), t.heap = H1 → s.vm.Alike t.vm → post r u → B u t → H.size ≤ H1.size → (∀ q : Nat, q < H.size → ¬ A1 q → H1[q]? = H[q]?) → va_S A0 H0 H1 locs1 → W p l e R s m args below meth c H1 locs1 (cells + mc) (slots + ms) Q (F0 m (pc + 3) ls (.double r :: rest))) : W p l e R s m args below meth c H locs cells slots Q (F0 m pc ls st0) := by
  intro T hT X
  rcases hr T hT X with ⟨v, st₀, t, T', L, h0, X', hL, e1, e2, ⟨⟨r, u, hv, hp, hb⟩, hF⟩, st⟩ | ⟨q, st₀, t, T', L, E, ce, h0, X', hL, e1, e2, ⟨u, hp, hb, hF⟩, hce, hcv, hcl, st⟩
  · cases hv
    obtain ⟨k1, k2, k3⟩ := vx_keep h0 e1 hS hA hf hL hF
    obtain ⟨t2, a1, b1⟩ := kk r u t T'.heap (locs ++ L) e1.symm (by rw [← e2]; exact X'.warmed.alike) hp hb k1 k2 k3 T' rfl X'
    exact ⟨t2, st t2 a1, b1⟩
  · obtain ⟨k1, k2, k3⟩ := vx_keep h0 e1 hS hAX hf hL hF
    obtain ⟨t2, a1, b1⟩ := kx E ce q u t T'.heap (locs ++ L) e1.symm (by rw [← e2]; exact X'.warmed.alike) hp hb k1 k2 k3 (by rw [e1]; exact hce) hcv hcl T' rfl X'
    exact ⟨t2, st.trans a1, b1⟩
theorem vx_callv {S SX : Type} {post : S → Prop} {px : SX → Prop} {B : S → State → Prop} {BX : String → SX → State → Prop} {AX : Nat → Prop} (hr : vx_Run p l e R s m args below meth c H locs cells slots mc ms (F0 m pc ls st0) rest (va_Qv post B A1 a) (vx_X px BX AX) free) (hS : va_S A0 H0 H locs) (hA : ∀ q, q < H.size → A1 q → A0 q) (hf : ∀ q, free q → A0 q) (hAX : ∀ q, q < H.size → AX q → A0 q)
    (kx : ∀ (E : String) (ce : Cell) (q9 : Addr) (u : SX) (t : State) (H1 : Heap) (locs1 : List Loc), t.heap = H1 → s.vm.Alike t.vm → px u → BX E u t → H.size ≤ H1.size → (∀ q : Nat, q < H.size → ¬ AX q → H1[q]? = H[q]?) → va_S A0 H0 H1 locs1 → H1[q9]? = some ce → ce.vm = .none → s.vm.findClass E = some ce.cls → vx_W p l e R s m args below meth c H1 locs1 (cells + mc) (slots + ms) Q (F0 m pc ls rest) q9)
    (kk : ∀ (u : S) (t : State) (H1 : Heap) (locs1 : List Loc), t.heap = H1 → s.vm.Alike t.vm → post u → B u t → H.size ≤ H1.size → (∀ q : Nat, q < H.size → ¬ A1 q → H1[q]? = H[q]?) → va_S A0 H0 H1 locs1 → W p l e R s m args below meth c H1 locs1 (cells + mc) (slots + ms) Q (F0 m (pc + 3) ls (rest))) : W p l e R s m args below meth c H locs cells slots Q (F0 m pc ls st0) := by
  intro T hT X
  rcases hr T hT X with ⟨v, st₀, t, T', L, h0, X', hL, e1, e2, ⟨⟨u, hv, hp, hb⟩, hF⟩, st⟩ | ⟨q, st₀, t, T', L, E, ce, h0, X', hL, e1, e2, ⟨u, hp, hb, hF⟩, hce, hcv, hcl, st⟩
  · cases hv
    obtain ⟨k1, k2, k3⟩ := vx_keep h0 e1 hS hA hf hL hF
    obtain ⟨t2, a1, b1⟩ := kk u t T'.heap (locs ++ L) e1.symm (by rw [← e2]; exact X'.warmed.alike) hp hb k1 k2 k3 T' rfl X'
    exact ⟨t2, st t2 a1, b1⟩
  · obtain ⟨k1, k2, k3⟩ := vx_keep h0 e1 hS hAX hf hL hF
    obtain ⟨t2, a1, b1⟩ := kx E ce q u t T'.heap (locs ++ L) e1.symm (by rw [← e2]; exact X'.warmed.alike) hp hb k1 k2 k3 (by rw [e1]; exact hce) hcv hcl T' rfl X'
    exact ⟨t2, st.trans a1, b1⟩
/-- caught by the row x of this method's table; the rows ahead don't take it -/
theorem vx_catch {own name : String} {E : String} {ce : Cell} {q : Addr} (hown : s.vm.findClass own = some m.cls) (pre : List ExceptionTableEntry) (x : ExceptionTableEntry) (suf : List ExceptionTableEntry) (hsplit : c.exceptionTable.toList = pre ++ x :: suf)
    (hpass : ∀ z ∈ pre, covers z pc = false ∨ (z.catchType ≠ 0 ∧ ∃ nm : String, (Cond.classLink own z.catchType nm).before args s = true ∧ va_Nc E nm s)) (hx : covers x pc = true) (h0 : x.catchType ≠ 0)
    (hlink : (Cond.classLink own x.catchType name).before args s = true) (hcast : (Cond.castable E name).before args s = true) (hcell : H[q]? = some ce) (hv : ce.vm = .none) (hcl : s.vm.findClass E = some ce.cls)
    (kk : W p l e R s m args below meth c H locs cells slots Q (F0 m x.handlerPc ls [.ref q])) : vx_W p l e R s m args below meth c H locs cells slots Q (F0 m pc ls rest) q := by
  intro T hT X
  have hpl : e.platform.magicAccessors = ({} : Platform).magicAccessors := by rw [X.admits.platform]
  obtain ⟨c3, c4, hc3, hc4, hasg⟩ := Cond.castable_spec hcast
  cases Option.some.inj (hc3.symm.trans hcl)
  obtain ⟨c5, hc5, hcl5⟩ := Cond.classLink_spec hown hlink e.platform hpl
  cases Option.some.inj (hc4.symm.trans hc5)
  obtain ⟨vm', X', st⟩ := X.thenCaughtThrough q (g := F0 m pc ls rest) rfl (Steps.refl _) (by rw [hT]; exact hcell) (by rw [hv]; rfl) (by obtain ⟨k9, h9, -⟩ := Vm.findClass_spec hcl; exact ⟨k9, h9⟩) pre x suf hsplit
    (fun z hz => by
      rcases hpass z hz with h | ⟨hz0, nm, hl1, hn1⟩
      · exact Or.inl h
      · obtain ⟨c6, hc6, hcl6⟩ := Cond.classLink_spec hown hl1 e.platform hpl
        obtain ⟨a8, b8, h1, h2, h3⟩ := hn1
        cases Option.some.inj (h1.symm.trans hcl)
        cases Option.some.inj (h2.symm.trans hc6)
        exact Or.inr ⟨hz0, _, hcl6, h3⟩) hx (Or.inr ⟨h0, c4, hcl5, hasg⟩)
  obtain ⟨t, a1, b1⟩ := kk (T.setVm vm') hT X'
  exact ⟨t, st.trans a1, b1⟩
end Rows
section Ends
variable {p : Program} {l : Launch} {e : Env} {R : Room} {s : State} {m : MethodId} {args : Array Value} {below : List Frame} {meth : Method} {c : Code} {H : Heap} {locs : List Loc} {cells slots : Nat} {Q : State → Prop}
variable {mc ms : Nat} {free : Addr → Prop} {A0 A1 : Nat → Prop} {H0 : Heap} {a : Array Value} {ls : Array Slot} {st0 rest : List Value}
variable {Qc : Array Value → State → Outcome → State → Prop} {XC : String → State → State → Prop}
/-- what a body that may throw owes at its end -/
def vx_MQ (below : List Frame) (Qc : Array Value → State → Outcome → State → Prop) (XC : String → State → State → Prop) (a : Array Value) (s : State) (mc ms : Nat) (free : Addr → Prop) : State → Prop := fun t =>
  ∃ o, t.status = .running ∧ Ended t below o ∧ vx_Q Qc XC mc ms free a s o t
theorem vx_ret {g : JFrame} {mc ms : Nat} (k : W p l e R s m args below meth c H locs cells slots (MQ below Qc args s mc ms free) g) : W p l e R s m args below meth c H locs cells slots (vx_MQ below Qc XC args s mc ms free) g := by
  intro T hT X
  obtain ⟨t, a1, o, b1, b2, b3, b4⟩ := k T hT X
  exact ⟨t, a1, o, b1, b2, Or.inl ⟨b3, b4⟩⟩
/-- not caught here: it goes on to the caller -/
theorem vx_widen {g : JFrame} {q : Addr} {k n : Nat} (h1 : cells ≤ k) (h2 : slots ≤ n) (kk : vx_W p l e R s m args below meth c H locs k n Q g q) : vx_W p l e R s m args below meth c H locs cells slots Q g q := fun T hT X => kk T hT (stand_widen X h1 h2)
theorem vx_out {pc : Nat} {E : String} {ce : Cell} {q : Addr} {mc ms : Nat} (hout : ∀ x ∈ c.exceptionTable.toList, covers x pc = false) (hlocks : meth.locks = false) (hcell : H[q]? = some ce) (hv : ce.vm = .none) (hcl : s.vm.findClass E = some ce.cls)
    (hx : ∀ t : State, t.heap = H → s.vm.Alike t.vm → XC E s t) (hf : ∀ z ∈ locs, free z.base) (hc : cells ≤ mc) (hs : slots ≤ ms) :
    vx_W p l e R s m args below meth c H locs cells slots (vx_MQ below Qc XC args s mc ms free) (F0 m pc ls rest) q := by
  intro T hT X
  obtain ⟨st1, hrun, hend, hW, hsm⟩ := X.leaveThrown q (g := F0 m pc ls rest) rfl rfl rfl hout hlocks
  have hcell9 : (T.setFrames (.throwing q :: below)).heap[q]? = some ce := by
    show T.heap[q]? = some ce
    rw [hT]; exact hcell
  exact ⟨_, st1, .threw q, hrun, hend, Or.inr ⟨q, rfl, E, ce, locs, hx _ hT hW.alike, hcell9, hv, hcl, hW, hsm.mono hc hs, hf⟩⟩
theorem vx_frame {U : State} {k n : Nat} (h : s.sameButNew ({ U with vm := s.vm } : State) locs k n) : s.heap.size ≤ U.heap.size ∧ ∀ q : Nat, q < s.heap.size → (∀ z ∈ locs, z.base ≠ q) → U.heap[q]? = s.heap[q]? := by
  obtain ⟨-, h2, -, -, -, h6⟩ := h
  refine ⟨h2, fun q hq hz => ?_⟩
  obtain ⟨c9, e1, e2, e3, e4⟩ := h6 q _ (Array.getElem?_eq_getElem hq)
  have hs : c9.slots = (s.heap[q]).slots := Array.ext_getElem? fun i => e4 i fun hm => hz _ hm rfl
  have h9 : c9 = s.heap[q] := by
    rw [hs] at e2
    exact e2
  have e5 : U.heap[q]? = some c9 := e1
  rw [e5, h9, Array.getElem?_eq_getElem hq]
/-- the words of a throw but the four that speak of the heap -/
def vx_no (w : Cond) : Bool := decide (w ≠ .isRef (.static Bundle.tN "UNASSIGNED_STACK" Bundle.steD)) && decide (w ≠ .isRef (.static Bundle.tN "SUPPRESSED_SENTINEL" Bundle.listD)) && decide (w ≠ .laysStatic Bundle.tN "UNASSIGNED_STACK" Bundle.steD) && decide (w ≠ .laysStatic Bundle.tN "SUPPRESSED_SENTINEL" Bundle.listD)
def vx_at0 (own : String) (ic : Nat) (X : String) (names : List String) : List Cond := (Bundle.ownAtoms0 own ic X names).filter vx_no
def vx_atS (own : String) (ic : Nat) (X : String) (names : List String) : List Cond := (Bundle.ownAtoms own ic X names).filter vx_no
/-- a word that the tables alone decide, or a good one -/
def vx_ot (w : Cond) : Bool := w.onTables || goodWord w
theorem vx_ot_at {args a' : Array Value} {s U : State} {w : Cond} (hW : s.WarmedH U.vm) (hvm : s.vm = U.vm) (hg : vx_ot w = true) (h : w.before args s = true) : w.before a' U = true := by
  simp only [vx_ot, Bool.or_eq_true] at hg
  rcases hg with hg | hg
  · exact va_tabs hg hvm h
  · exact word_at hW (good_of_word hg) h
/-- a list's words: the good ones out of the method's own list, the others by premises of their own -/
theorem vx_hat {args : Array Value} {s : State} {L B : List Cond} (h1 : ∀ w ∈ L.filter goodWord, w.before args s = true) (h2 : ∀ w ∈ L.filter (fun w => !goodWord w), w ∈ B) (h3 : ∀ w ∈ B, w.before args s = true) : ∀ w ∈ L, w.before args s = true := by
  intro w hw
  by_cases g : goodWord w = true
  · exact h1 w (List.mem_filter.mpr ⟨hw, g⟩)
  · refine h3 w (h2 w (List.mem_filter.mpr ⟨hw, ?_⟩))
    show (!goodWord w) = true
    cases hgw : goodWord w
    · rfl
    · exact absurd hgw g
theorem vx_c {args : Array Value} {s : State} {w : Cond} {B : List Cond} (h : w.before args s = true) (t : ∀ w ∈ B, w.before args s = true) : ∀ w' ∈ w :: B, w'.before args s = true := fun w' h' => (List.mem_cons.mp h').elim (fun e => by rw [e]; exact h) (t w')
theorem vx_n {args : Array Value} {s : State} : ∀ w ∈ ([] : List Cond), w.before args s = true := fun _ h => nomatch h
theorem vx_own {args : Array Value} {s : State} {L : List Cond} (h1 : ∀ w ∈ L.filter vx_no, w.before args s = true)
    (hU : (Cond.isRef (.static Bundle.tN "UNASSIGNED_STACK" Bundle.steD)).before args s = true) (hN : (Cond.isRef (.static Bundle.tN "SUPPRESSED_SENTINEL" Bundle.listD)).before args s = true)
    (lU : (Cond.laysStatic Bundle.tN "UNASSIGNED_STACK" Bundle.steD).before args s = true) (lN : (Cond.laysStatic Bundle.tN "SUPPRESSED_SENTINEL" Bundle.listD).before args s = true) : ∀ w ∈ L, w.before args s = true := by
  intro w hw
  by_cases e1 : w = .isRef (.static Bundle.tN "UNASSIGNED_STACK" Bundle.steD)
  · rw [e1]; exact hU
  · by_cases e2 : w = .isRef (.static Bundle.tN "SUPPRESSED_SENTINEL" Bundle.listD)
    · rw [e2]; exact hN
    · by_cases e3 : w = .laysStatic Bundle.tN "UNASSIGNED_STACK" Bundle.steD
      · rw [e3]; exact lU
      · by_cases e4 : w = .laysStatic Bundle.tN "SUPPRESSED_SENTINEL" Bundle.listD
        · rw [e4]; exact lN
        · exact h1 w (List.mem_filter.mpr ⟨hw, by unfold vx_no; rw [decide_eq_true e1, decide_eq_true e2, decide_eq_true e3, decide_eq_true e4]; rfl⟩)
/-- where a static field lies, its class's statics cell in H -/
def vx_L (C n d : String) (A : Nat → Prop) (U : State) (H : Heap) : Prop := ∃ (c : ClassId) (k : Class) (i : Nat) (f : Field) (a : Nat) (cell : Cell), U.vm.findClass C = some c ∧ U.fieldFound? C n d = some (c, k, i, f) ∧ f.isStatic = true ∧ k.statics = some a ∧ H[a]? = some cell ∧ cell.vm.isStatics = true ∧ cell.cls = c ∧ f.slot < cell.slots.size ∧ k.staticTypes[f.slot]? = some f.type ∧ ¬ A a
theorem vx_L.moved {C n d : String} {A : Nat → Prop} {u U : State} {H : Heap} (hvm : u.vm.Alike U.vm) (h : vx_L C n d A u H) : vx_L C n d A U H := by
  obtain ⟨c, k, i, f, a, cell, h1, h2, h3, h4, h5, h6, h7, h8, h9, h10⟩ := h
  obtain ⟨k', hi', he⟩ := State.fieldFound?_setVm hvm h2
  exact ⟨c, k', i, f, a, cell, by rw [hvm.findClass]; exact h1, hi', h3, by rw [he]; exact h4, h5, h6, h7, h8, by rw [he]; exact h9, h10⟩
theorem vx_L.kept {C n d : String} {A : Nat → Prop} {U : State} {H H1 : Heap} (h : vx_L C n d A U H) (hq : ∀ a : Nat, a < H.size → ¬ A a → H1[a]? = H[a]?) : vx_L C n d A U H1 := by
  obtain ⟨c, k, i, f, a, cell, h1, h2, h3, h4, h5, h6, h7, h8, h9, h10⟩ := h
  exact ⟨c, k, i, f, a, cell, h1, h2, h3, h4, by rw [hq a (Array.getElem?_eq_some_iff.mp h5).1 h10]; exact h5, h6, h7, h8, h9, h10⟩
theorem vx_L.narrow {C n d : String} {A B : Nat → Prop} {U : State} {H : Heap} (h : vx_L C n d A U H) (hAB : ∀ q, B q → A q) : vx_L C n d B U H := by
  obtain ⟨c, k, i, f, a, cell, h1, h2, h3, h4, h5, h6, h7, h8, h9, h10⟩ := h
  exact ⟨c, k, i, f, a, cell, h1, h2, h3, h4, h5, h6, h7, h8, h9, fun z => h10 (hAB _ z)⟩
theorem vx_L.word {C n d : String} {A : Nat → Prop} {s : State} {args : Array Value} (h : vx_L C n d A s s.heap) : (Cond.laysStatic C n d).before args s = true := by
  obtain ⟨c, k, i, f, a, cell, h1, h2, h3, h4, h5, h6, h7, h8, h9, -⟩ := h
  show (Cond.laysStatic C n d).holds args s none s [] = true
  exact Cond.laysStatic_of h1 h2 h3 h4 h5 h6 h7 h8 h9
/-- .. and what it holds: null or some reference -/
def vx_Zq (C n d : String) (A : Nat → Prop) (U : State) (H : Heap) : Prop := va_Zq C n d A U H ∧ vx_L C n d A U H
theorem vx_Zq.moved {C n d : String} {A : Nat → Prop} {u U : State} {H : Heap} (hvm : u.vm.Alike U.vm) (h : vx_Zq C n d A u H) : vx_Zq C n d A U H := ⟨va_Zq.moved hvm h.1, vx_L.moved hvm h.2⟩
theorem vx_Zq.kept {C n d : String} {A : Nat → Prop} {U : State} {H H1 : Heap} (h : vx_Zq C n d A U H) (hq : ∀ a : Nat, a < H.size → ¬ A a → H1[a]? = H[a]?) : vx_Zq C n d A U H1 := ⟨va_Zq.kept h.1 hq, vx_L.kept h.2 hq⟩
theorem vx_Zq.narrow {C n d : String} {A B : Nat → Prop} {U : State} {H : Heap} (h : vx_Zq C n d A U H) (hAB : ∀ q, B q → A q) : vx_Zq C n d B U H := ⟨va_Zq.narrow h.1 hAB, vx_L.narrow h.2 hAB⟩
theorem vx_Zqof {args : Array Value} {s : State} {C n d : String} {A : Nat → Prop} (hl : (Cond.laysStatic C n d).before args s = true) (hini : (Cond.initialized C).before args s = true) (h : (Cond.isRef (.static C n d)).before args s = true) (hA : ∀ a : Nat, a < s.heap.size → ¬ A a) : vx_Zq C n d A s s.heap := by
  refine ⟨va_Zqof hl hini h hA, ?_⟩
  obtain ⟨c, k, i, f, a, cell, h1, h2, h3, h4, h5, h6, h7, h8, h9⟩ := Cond.laysStatic_spec hl
  exact ⟨c, k, i, f, a, cell, h1, h2, h3, h4, h5, h6, h7, h8, h9, hA a (Array.getElem?_eq_some_iff.mp h5).1⟩
theorem vx_isRef {C n d : String} {v : Value} {A : Nat → Prop} {s : State} {args : Array Value} (h : va_Z C n d v A s s.heap) (hv : v.isRef = true) : (Cond.isRef (.static C n d)).before args s = true := by
  obtain ⟨cf, kf, fi, f, a, cell, h1, h2, h3, h4, h5, h6, h7, -⟩ := h
  have he : (Term.static C n d).eval args s none [] s = some v := by
    simp [Term.eval, State.fieldNamed?, h1, h2, h4, h5, h6, h7]
  simp only [Cond.before, Cond.holds, Cond.value, he]
  cases v <;> simp_all [Value.isRef]
theorem vx_isRefq {C n d : String} {A : Nat → Prop} {s : State} {args : Array Value} (h : va_Zq C n d A s s.heap) : (Cond.isRef (.static C n d)).before args s = true := by
  rcases h with h | ⟨t, h⟩
  · exact vx_isRef h rfl
  · exact vx_isRef h rfl
/-- the same frame, seen from here: as if the method were called anew in this heap -/
theorem vx_rebase {T : State} (X : Stand p l e R s m args below meth c T locs cells slots) {R' : Room} (hf : R'.frames ≤ R.frames) (hl : R'.locals ≤ R.locals) (hc : cells + R'.cells ≤ R.cells) (hs : slots + R'.slots ≤ R.slots) :
    Stand p l e R' ((T.setVm s.vm).setFrames (.invoking m args :: below)) m args below meth c T [] 0 0 := by
  have htop : (T.setVm s.vm).topJava?.isSome := X.here.top
  have hF : ((T.setVm s.vm).setFrames (.invoking m args :: below)).frames = .invoking m args :: below := State.frames_setFrames _ (State.cur_lt_of_top htop)
  obtain ⟨g₀, hg0⟩ := Option.isSome_iff_exists.mp htop
  obtain ⟨r, hr⟩ := State.topJava?_eq_some.mp hg0
  have hl9 : e.platform.stackLimits (T.setVm s.vm).me = e.platform.stackLimits s.me := X.limits
  have hb9 : (T.setVm s.vm).me.stackBytes = s.me.stackBytes := X.bytes
  refine ⟨X.admits, X.cas, X.clock, hF, ?_, X.hears, X.method, X.code, X.here, X.tail, X.warmed, ?_, ?_, ?_⟩
  · have h := X.room
    have hU : ((T.setVm s.vm).setFrames (.invoking m args :: below)).localsInUse = s.localsInUse := by
      rw [State.localsInUse_invoking hF (meth := meth) (c := c) X.method X.code, State.localsInUse_invoking X.frames X.method X.code]
    simp only [State.hasRoom, Bool.and_eq_true, decide_eq_true_eq] at h ⊢
    obtain ⟨⟨⟨⟨h1, h2, h3, h4, h5, h6⟩, h7⟩, h8⟩, h9⟩ := h
    rw [X.frames, List.length_cons] at h2 h3
    have q1 := X.heapSize
    have q2 := X.used
    simp only [hF, hU, List.length_cons, State.stackLimits_setFrames, State.stackBytes_setFrames, hl9, hb9]
    refine ⟨⟨⟨⟨by omega, by omega, by omega, by omega, by omega, h6⟩, ?_⟩, ?_⟩, X.book⟩
    · show T.heap.size + R'.cells ≤ e.platform.maxCells
      omega
    · show T.slotsUsed + R'.slots ≤ e.platform.maxSlots
      omega
  · rw [State.stackLimits_setFrames]; rfl
  · rw [State.stackBytes_setFrames]; rfl
  · refine ⟨?_, Nat.le_refl _, Nat.le_refl _, ?_, ?_, fun a c9 h9 => ⟨c9, h9, rfl, rfl, fun _ _ => rfl⟩⟩
    · obtain ⟨t, ht, -⟩ := State.frames_cons hr
      show T.setVm s.vm = { ((T.setVm s.vm).setFrames (.invoking m args :: below)).setFrames (T.setVm s.vm).frames with heap := T.heap, slotsUsed := T.slotsUsed }
      rw [State.setFrames_setFrames, State.setFrames_self ht]
      rfl
    · show T.slotsUsed = T.slotsUsed + ((T.heap.toList.drop T.heap.size).map (·.slots.size)).sum
      rw [List.drop_eq_nil_of_le (Nat.le_of_eq Array.length_toList)]
      rfl
    · show ((T.heap.toList.drop T.heap.size).map (·.slots.size)).sum ≤ 0
      rw [List.drop_eq_nil_of_le (Nat.le_of_eq Array.length_toList)]
      exact Nat.le_refl _
/-- 'throw new E()': new; dup; invokespecial; athrow -/
theorem vx_throw0 {cc : ByteArray} {pc : Nat} (hexec : p.tables.exec = Jvm.exec) (hb : c.code = cc) (hl : l.stackTraces = false) {own cls : String} {names : List String} {ik ic mc ms : Nat} {A : Nat → Prop}
    (hown : s.vm.findClass own = some m.cls) (hcls : Bundle.fit cls = true) (hnames : ∀ n ∈ names, Bundle.fit n = true)
    (hk : (Cond.classLink own ik cls).before args s = true) (hini : (Cond.initialized cls).before args s = true) (hat : ∀ w ∈ vx_at0 own ic cls names, w.before args s = true)
    (hgood : ∀ w ∈ Cond.classLink own ik cls :: Cond.initialized cls :: vx_at0 own ic cls names, vx_ot w = true)
    (hU : vx_Zq Bundle.tN "UNASSIGNED_STACK" Bundle.steD A s s.heap) (hN : vx_Zq Bundle.tN "SUPPRESSED_SENTINEL" Bundle.listD A s s.heap) (hS : va_S A s.heap H locs) (hsize : ls.size = c.maxLocals)
    (d0 : decode cc pc = .ok (.new ik, 3)) (d3 : decode cc (pc + 3) = .ok (.dup, 1)) (d4 : decode cc (pc + 4) = .ok (.invokespecial ic, 3)) (d7 : decode cc (pc + 7) = .ok (.athrow, 1))
    (hout : ∀ x ∈ c.exceptionTable.toList, covers x (pc + 7) = false)
    (hRframes : names.length + 3 < R.frames) (hRlocals : (rest.map fun v => v.category).sum + (13 * (names.length + 1) + 42) ≤ R.locals) (hRcells : cells + 1 ≤ R.cells) (hRslots : slots + 6 ≤ R.slots) (hlocks : meth.locks = false)
    (hx : ∀ t : State, s.vm.Alike t.vm → H.size ≤ t.heap.size → (∀ q : Nat, q < H.size → t.heap[q]? = H[q]?) → XC cls s t)
    (hf : ∀ z ∈ locs, free z.base) (hc : cells + 1 ≤ mc) (hs : slots + 6 ≤ ms) :
    W p l e R s m args below meth c H locs cells slots (vx_MQ below Qc XC args s mc ms free) (F0 m pc ls rest) := by
  intro T hT X
  have htr : e.platform.stackTraces = false := (show e.platform.stackTraces = l.stackTraces by rw [X.admits.platform]).trans hl
  have Y := vx_rebase X (R' := { frames := R.frames, locals := R.locals, cells := 1, slots := 6 }) (Nat.le_refl _) (Nat.le_refl _) hRcells hRslots
  obtain ⟨s', hA⟩ : ∃ z, z = (T.setVm s.vm).setFrames (.invoking m args :: below) := ⟨_, rfl⟩
  rw [← hA] at Y
  have hvm : s'.vm = s.vm := by rw [hA]; rfl
  have hhp : s'.heap = H := by rw [hA]; exact hT
  have hW0 : s.WarmedH s'.vm := by rw [hvm]; exact State.WarmedH.refl s
  have hat' : ∀ w ∈ vx_at0 own ic cls names, w.before args s' = true := fun w hw => vx_ot_at hW0 hvm.symm (hgood w (List.mem_cons_of_mem _ (List.mem_cons_of_mem _ hw))) (hat w hw)
  have hk' : (Cond.classLink own ik cls).before args s' = true := vx_ot_at hW0 hvm.symm (hgood _ List.mem_cons_self) hk
  have hini' : (Cond.initialized cls).before args s' = true := vx_ot_at hW0 hvm.symm (hgood _ (List.mem_cons_of_mem _ List.mem_cons_self)) hini
  have hU' : vx_Zq Bundle.tN "UNASSIGNED_STACK" Bundle.steD A s' s'.heap := by rw [hhp]; exact vx_Zq.moved hW0.alike (hU.kept hS.2.1)
  have hN' : vx_Zq Bundle.tN "SUPPRESSED_SENTINEL" Bundle.listD A s' s'.heap := by rw [hhp]; exact vx_Zq.moved hW0.alike (hN.kept hS.2.1)
  have h : ∀ w ∈ Bundle.ownAtoms0 own ic cls names, w.before args s' = true := vx_own hat' (vx_isRefq hU'.1) (vx_isRefq hN'.1) hU'.2.word hN'.2.word
  have hown' : s'.vm.findClass own = some m.cls := by rw [hvm]; exact hown
  have hins : (Cond.instantiable cls 6).before args s' = true := h _ (by simp [Bundle.ownAtoms0])
  obtain ⟨vm₁, cX, kX, hfX, hkX, -, -, X₁, st1⟩ := Y.newCold hexec (own := own) (C := cls) (index := ik) (n := 6) hown' hk' hins hini'
    (g := F0 m pc ls rest) rfl (by rw [hb]; exact d0) (Nat.le_refl _) (Nat.le_refl _)
  generalize hT1 : (T.setVm vm₁).pushCell { cls := cX, slots := kX.instanceTypes.map defaultValue, vm := .none } = T1 at X₁ st1
  have hcat : (Value.ref T.heap.size).category = 1 := rfl
  have hcellA : T1.heap[T.heap.size]? = some (freshCell cX kX) := by rw [← hT1]; exact State.heap_pushCell_size _ _
  have d3' : decode c.code (pc + 3) = .ok (.dup, 1) := by rw [hb]; exact d3
  obtain ⟨U, hsteps, hrun, hend, hW, hsame, ce, hce, hO⟩ := X₁.ctorThrow0 hexec htr (own := own) (cls := cls) (names := names) (ic := ic) hown' hcls hnames h (fun x hx => nomatch hx) hfX hkX hcellA (by rw [hhp, hT]; exact Nat.le_refl _)
    (g := { method := m, pc := pc + 4, locals := ls, stack := .ref T.heap.size :: .ref T.heap.size :: rest, locked := none }) rfl hsize rfl rfl (rest := rest) rfl
    (by rw [hb]; exact d4) (by rw [hb]; exact d7) hout hRframes (by simp only [List.map_cons, List.sum_cons, hcat]; omega) hlocks
  obtain ⟨f1, f2⟩ := vx_frame hsame
  rw [hhp] at f1 f2
  have hWs : s.WarmedH U.vm := State.WarmedH.trans hW0 hW
  have hcl : s.vm.findClass cls = some ce.cls := by
    have h9 := hO.cls
    rw [hvm] at h9
    exact h9
  have hall : s.sameButNew ({ U with vm := s.vm } : State) locs mc ms := by
    subst hA
    obtain ⟨e1, e2⟩ := hsame
    rw [State.setFrames_setFrames] at e1
    have h2 : (T.setVm s.vm).sameButNew ({ U with vm := s.vm } : State) [] (0 + 1) (0 + 6) := ⟨e1, e2⟩
    have h3 := X.same.trans h2
    rw [List.append_nil] at h3
    exact h3.mono hc hs
  refine ⟨U, ?_, .threw T.heap.size, hrun, hend, Or.inr ⟨T.heap.size, rfl, cls, ce, locs, hx U hWs.alike f1 (fun q hq => f2 q hq (fun z hz => nomatch hz)), hce, hO.vm, hcl, hWs, hall, hf⟩⟩
  refine st1 _ ?_
  show Steps p.tables e below (T1.setTop { method := m, pc := pc + 3, locals := ls, stack := .ref T.heap.size :: rest, locked := none }) _
  jvm_step X₁.here [X₁.here.top, hexec, d3', Value.category]
  exact hsteps
/-- 'throw new E("text")': new; dup; ldc; invokespecial; athrow -/
theorem vx_throwS {cc : ByteArray} {pc : Nat} (hexec : p.tables.exec = Jvm.exec) (hb : c.code = cc) (hl : l.stackTraces = false) {own cls text : String} {names : List String} {ik is ic mc ms sa : Nat} {A : Nat → Prop}
    (hown : s.vm.findClass own = some m.cls) (hcls : Bundle.fit cls = true) (hnames : ∀ n ∈ names, Bundle.fit n = true)
    (hk : (Cond.classLink own ik cls).before args s = true) (hini : (Cond.initialized cls).before args s = true) (hstr : vk_R own is text sa s) (hat : ∀ w ∈ vx_atS own ic cls names, w.before args s = true)
    (hgood : ∀ w ∈ Cond.classLink own ik cls :: Cond.initialized cls :: vx_atS own ic cls names, vx_ot w = true)
    (hU : vx_Zq Bundle.tN "UNASSIGNED_STACK" Bundle.steD A s s.heap) (hN : vx_Zq Bundle.tN "SUPPRESSED_SENTINEL" Bundle.listD A s s.heap) (hS : va_S A s.heap H locs) (hsize : ls.size = c.maxLocals)
    (d0 : decode cc pc = .ok (.new ik, 3)) (d3 : decode cc (pc + 3) = .ok (.dup, 1)) (d4 : decode cc (pc + 4) = .ok (.ldc is, 2)) (d6 : decode cc (pc + 6) = .ok (.invokespecial ic, 3)) (d9 : decode cc (pc + 9) = .ok (.athrow, 1))
    (hout : ∀ x ∈ c.exceptionTable.toList, covers x (pc + 9) = false)
    (hRframes : names.length + 3 < R.frames) (hRlocals : (rest.map fun v => v.category).sum + (13 * (names.length + 1) + 43) ≤ R.locals) (hRcells : cells + 1 ≤ R.cells) (hRslots : slots + 6 ≤ R.slots) (hlocks : meth.locks = false)
    (hx : ∀ t : State, s.vm.Alike t.vm → H.size ≤ t.heap.size → (∀ q : Nat, q < H.size → t.heap[q]? = H[q]?) → XC cls s t)
    (hf : ∀ z ∈ locs, free z.base) (hc : cells + 1 ≤ mc) (hs : slots + 6 ≤ ms) :
    W p l e R s m args below meth c H locs cells slots (vx_MQ below Qc XC args s mc ms free) (F0 m pc ls rest) := by
  intro T hT X
  have htr : e.platform.stackTraces = false := (show e.platform.stackTraces = l.stackTraces by rw [X.admits.platform]).trans hl
  have Y := vx_rebase X (R' := { frames := R.frames, locals := R.locals, cells := 1, slots := 6 }) (Nat.le_refl _) (Nat.le_refl _) hRcells hRslots
  obtain ⟨s', hA⟩ : ∃ z, z = (T.setVm s.vm).setFrames (.invoking m args :: below) := ⟨_, rfl⟩
  rw [← hA] at Y
  have hvm : s'.vm = s.vm := by rw [hA]; rfl
  have hhp : s'.heap = H := by rw [hA]; exact hT
  have hW0 : s.WarmedH s'.vm := by rw [hvm]; exact State.WarmedH.refl s
  have hat' : ∀ w ∈ vx_atS own ic cls names, w.before args s' = true := fun w hw => vx_ot_at hW0 hvm.symm (hgood w (List.mem_cons_of_mem _ (List.mem_cons_of_mem _ hw))) (hat w hw)
  have hk' : (Cond.classLink own ik cls).before args s' = true := vx_ot_at hW0 hvm.symm (hgood _ List.mem_cons_self) hk
  have hini' : (Cond.initialized cls).before args s' = true := vx_ot_at hW0 hvm.symm (hgood _ (List.mem_cons_of_mem _ List.mem_cons_self)) hini
  have hU' : vx_Zq Bundle.tN "UNASSIGNED_STACK" Bundle.steD A s' s'.heap := by rw [hhp]; exact vx_Zq.moved hW0.alike (hU.kept hS.2.1)
  have hN' : vx_Zq Bundle.tN "SUPPRESSED_SENTINEL" Bundle.listD A s' s'.heap := by rw [hhp]; exact vx_Zq.moved hW0.alike (hN.kept hS.2.1)
  have h : ∀ w ∈ Bundle.ownAtoms own ic cls names, w.before args s' = true := vx_own hat' (vx_isRefq hU'.1) (vx_isRefq hN'.1) hU'.2.word hN'.2.word
  have hown' : s'.vm.findClass own = some m.cls := by rw [hvm]; exact hown
  have hins : (Cond.instantiable cls 6).before args s' = true := h _ (by simp [Bundle.ownAtoms])
  obtain ⟨vm₁, cX, kX, hfX, hkX, -, -, X₁, st1⟩ := Y.newCold hexec (own := own) (C := cls) (index := ik) (n := 6) hown' hk' hins hini'
    (g := F0 m pc ls rest) rfl (by rw [hb]; exact d0) (Nat.le_refl _) (Nat.le_refl _)
  generalize hT1 : (T.setVm vm₁).pushCell { cls := cX, slots := kX.instanceTypes.map defaultValue, vm := .none } = T1 at X₁ st1
  have hcat : (Value.ref T.heap.size).category = 1 := rfl
  have hcellA : T1.heap[T.heap.size]? = some (freshCell cX kX) := by rw [← hT1]; exact State.heap_pushCell_size _ _
  have d3' : decode c.code (pc + 3) = .ok (.dup, 1) := by rw [hb]; exact d3
  have d4' : decode c.code (pc + 4) = .ok (.ldc is, 2) := by rw [hb]; exact d4
  have hstr' : vk_R own is text sa s' := vk_R.warm hW0 hstr
  obtain ⟨U, hsteps, hrun, hend, hW, hsame, ce, hce, hO⟩ := X₁.ctorThrowS hexec htr (own := own) (cls := cls) (names := names) (ic := ic) hown' hcls hnames h (fun x hx => nomatch hx) hfX hkX hcellA (by rw [hhp, hT]; exact Nat.le_refl _) (msg := .ref sa) rfl
    (g := { method := m, pc := pc + 6, locals := ls, stack := .ref sa :: .ref T.heap.size :: .ref T.heap.size :: rest, locked := none }) rfl hsize rfl rfl (rest := rest) rfl
    (by rw [hb]; exact d6) (by rw [hb]; exact d9) hout hRframes (by simp only [List.map_cons, List.sum_cons, hcat]; omega) hlocks
  obtain ⟨f1, f2⟩ := vx_frame hsame
  rw [hhp] at f1 f2
  have hWs : s.WarmedH U.vm := State.WarmedH.trans hW0 hW
  have hcl : s.vm.findClass cls = some ce.cls := by
    have h9 := hO.cls
    rw [hvm] at h9
    exact h9
  have hall : s.sameButNew ({ U with vm := s.vm } : State) locs mc ms := by
    subst hA
    obtain ⟨e1, e2⟩ := hsame
    rw [State.setFrames_setFrames] at e1
    have h2 : (T.setVm s.vm).sameButNew ({ U with vm := s.vm } : State) [] (0 + 1) (0 + 6) := ⟨e1, e2⟩
    have h3 := X.same.trans h2
    rw [List.append_nil] at h3
    exact h3.mono hc hs
  refine ⟨U, ?_, .threw T.heap.size, hrun, hend, Or.inr ⟨T.heap.size, rfl, cls, ce, locs, hx U hWs.alike f1 (fun q hq => f2 q hq (fun z hz => nomatch hz)), hce, hO.vm, hcl, hWs, hall, hf⟩⟩
  refine st1 _ ?_
  show Steps p.tables e below (T1.setTop { method := m, pc := pc + 3, locals := ls, stack := .ref T.heap.size :: rest, locked := none }) _
  jvm_step X₁.here [X₁.here.top, hexec, d3', Value.category]
  exact X₁.ldcString hexec (own := own) (text := text) (index := is) (a := sa) hown' hstr'.1 hstr'.2
    (g := { method := m, pc := pc + 4, locals := ls, stack := .ref T.heap.size :: .ref T.heap.size :: rest, locked := none }) rfl d4' _ hsteps
/-- 'throw new E("text")', the text by a wide index -/
theorem vx_throwSW {cc : ByteArray} {pc : Nat} (hexec : p.tables.exec = Jvm.exec) (hb : c.code = cc) (hl : l.stackTraces = false) {own cls text : String} {names : List String} {ik is ic mc ms sa : Nat} {A : Nat → Prop}
    (hown : s.vm.findClass own = some m.cls) (hcls : Bundle.fit cls = true) (hnames : ∀ n ∈ names, Bundle.fit n = true)
    (hk : (Cond.classLink own ik cls).before args s = true) (hini : (Cond.initialized cls).before args s = true) (hstr : vk_R own is text sa s) (hat : ∀ w ∈ vx_atS own ic cls names, w.before args s = true)
    (hgood : ∀ w ∈ Cond.classLink own ik cls :: Cond.initialized cls :: vx_atS own ic cls names, vx_ot w = true)
    (hU : vx_Zq Bundle.tN "UNASSIGNED_STACK" Bundle.steD A s s.heap) (hN : vx_Zq Bundle.tN "SUPPRESSED_SENTINEL" Bundle.listD A s s.heap) (hS : va_S A s.heap H locs) (hsize : ls.size = c.maxLocals)
    (d0 : decode cc pc = .ok (.new ik, 3)) (d3 : decode cc (pc + 3) = .ok (.dup, 1)) (d4 : decode cc (pc + 4) = .ok (.ldc_w is, 3)) (d7 : decode cc (pc + 7) = .ok (.invokespecial ic, 3)) (d10 : decode cc (pc + 10) = .ok (.athrow, 1))
    (hout : ∀ x ∈ c.exceptionTable.toList, covers x (pc + 10) = false)
    (hRframes : names.length + 3 < R.frames) (hRlocals : (rest.map fun v => v.category).sum + (13 * (names.length + 1) + 43) ≤ R.locals) (hRcells : cells + 1 ≤ R.cells) (hRslots : slots + 6 ≤ R.slots) (hlocks : meth.locks = false)
    (hx : ∀ t : State, s.vm.Alike t.vm → H.size ≤ t.heap.size → (∀ q : Nat, q < H.size → t.heap[q]? = H[q]?) → XC cls s t)
    (hf : ∀ z ∈ locs, free z.base) (hc : cells + 1 ≤ mc) (hs : slots + 6 ≤ ms) :
    W p l e R s m args below meth c H locs cells slots (vx_MQ below Qc XC args s mc ms free) (F0 m pc ls rest) := by
  intro T hT X
  have htr : e.platform.stackTraces = false := (show e.platform.stackTraces = l.stackTraces by rw [X.admits.platform]).trans hl
  have Y := vx_rebase X (R' := { frames := R.frames, locals := R.locals, cells := 1, slots := 6 }) (Nat.le_refl _) (Nat.le_refl _) hRcells hRslots
  obtain ⟨s', hA⟩ : ∃ z, z = (T.setVm s.vm).setFrames (.invoking m args :: below) := ⟨_, rfl⟩
  rw [← hA] at Y
  have hvm : s'.vm = s.vm := by rw [hA]; rfl
  have hhp : s'.heap = H := by rw [hA]; exact hT
  have hW0 : s.WarmedH s'.vm := by rw [hvm]; exact State.WarmedH.refl s
  have hat' : ∀ w ∈ vx_atS own ic cls names, w.before args s' = true := fun w hw => vx_ot_at hW0 hvm.symm (hgood w (List.mem_cons_of_mem _ (List.mem_cons_of_mem _ hw))) (hat w hw)
  have hk' : (Cond.classLink own ik cls).before args s' = true := vx_ot_at hW0 hvm.symm (hgood _ List.mem_cons_self) hk
  have hini' : (Cond.initialized cls).before args s' = true := vx_ot_at hW0 hvm.symm (hgood _ (List.mem_cons_of_mem _ List.mem_cons_self)) hini
  have hU' : vx_Zq Bundle.tN "UNASSIGNED_STACK" Bundle.steD A s' s'.heap := by rw [hhp]; exact vx_Zq.moved hW0.alike (hU.kept hS.2.1)
  have hN' : vx_Zq Bundle.tN "SUPPRESSED_SENTINEL" Bundle.listD A s' s'.heap := by rw [hhp]; exact vx_Zq.moved hW0.alike (hN.kept hS.2.1)
  have h : ∀ w ∈ Bundle.ownAtoms own ic cls names, w.before args s' = true := vx_own hat' (vx_isRefq hU'.1) (vx_isRefq hN'.1) hU'.2.word hN'.2.word
  have hown' : s'.vm.findClass own = some m.cls := by rw [hvm]; exact hown
  have hins : (Cond.instantiable cls 6).before args s' = true := h _ (by simp [Bundle.ownAtoms])
  obtain ⟨vm₁, cX, kX, hfX, hkX, -, -, X₁, st1⟩ := Y.newCold hexec (own := own) (C := cls) (index := ik) (n := 6) hown' hk' hins hini'
    (g := F0 m pc ls rest) rfl (by rw [hb]; exact d0) (Nat.le_refl _) (Nat.le_refl _)
  generalize hT1 : (T.setVm vm₁).pushCell { cls := cX, slots := kX.instanceTypes.map defaultValue, vm := .none } = T1 at X₁ st1
  have hcat : (Value.ref T.heap.size).category = 1 := rfl
  have hcellA : T1.heap[T.heap.size]? = some (freshCell cX kX) := by rw [← hT1]; exact State.heap_pushCell_size _ _
  have d3' : decode c.code (pc + 3) = .ok (.dup, 1) := by rw [hb]; exact d3
  have d4' : decode c.code (pc + 4) = .ok (.ldc_w is, 3) := by rw [hb]; exact d4
  have hstr' : vk_R own is text sa s' := vk_R.warm hW0 hstr
  obtain ⟨U, hsteps, hrun, hend, hW, hsame, ce, hce, hO⟩ := X₁.ctorThrowS hexec htr (own := own) (cls := cls) (names := names) (ic := ic) hown' hcls hnames h (fun x hx => nomatch hx) hfX hkX hcellA (by rw [hhp, hT]; exact Nat.le_refl _) (msg := .ref sa) rfl
    (g := { method := m, pc := pc + 7, locals := ls, stack := .ref sa :: .ref T.heap.size :: .ref T.heap.size :: rest, locked := none }) rfl hsize rfl rfl (rest := rest) rfl
    (by rw [hb]; exact d7) (by rw [hb]; exact d10) hout hRframes (by simp only [List.map_cons, List.sum_cons, hcat]; omega) hlocks
  obtain ⟨f1, f2⟩ := vx_frame hsame
  rw [hhp] at f1 f2
  have hWs : s.WarmedH U.vm := State.WarmedH.trans hW0 hW
  have hcl : s.vm.findClass cls = some ce.cls := by
    have h9 := hO.cls
    rw [hvm] at h9
    exact h9
  have hall : s.sameButNew ({ U with vm := s.vm } : State) locs mc ms := by
    subst hA
    obtain ⟨e1, e2⟩ := hsame
    rw [State.setFrames_setFrames] at e1
    have h2 : (T.setVm s.vm).sameButNew ({ U with vm := s.vm } : State) [] (0 + 1) (0 + 6) := ⟨e1, e2⟩
    have h3 := X.same.trans h2
    rw [List.append_nil] at h3
    exact h3.mono hc hs
  refine ⟨U, ?_, .threw T.heap.size, hrun, hend, Or.inr ⟨T.heap.size, rfl, cls, ce, locs, hx U hWs.alike f1 (fun q hq => f2 q hq (fun z hz => nomatch hz)), hce, hO.vm, hcl, hWs, hall, hf⟩⟩
  refine st1 _ ?_
  show Steps p.tables e below (T1.setTop { method := m, pc := pc + 3, locals := ls, stack := .ref T.heap.size :: rest, locked := none }) _
  jvm_step X₁.here [X₁.here.top, hexec, d3', Value.category]
  exact X₁.ldcStringW hexec (own := own) (text := text) (index := is) (a := sa) hown' hstr'.1 hstr'.2
    (g := { method := m, pc := pc + 4, locals := ls, stack := .ref T.heap.size :: .ref T.heap.size :: rest, locked := none }) rfl d4' _ hsteps
end Ends
section Bodies
variable {l : Launch}
theorem vx_ofW {y : MethodName} {ws ws' : List Cond} {rm : Room} {Pc : Array Value → State → Prop} {Qc : Array Value → State → Outcome → State → Prop} {XC : String → State → State → Prop} {mc ms : Nat} {free : Addr → Prop} {cc : ByteArray} {maxL : Nat} {ret : Option FieldType}
    (hy : plainName y.cls = true) (hw : ws = Cond.code y cc maxL ret :: ws')
    (body : ∀ p e s m args below meth c s₁, BodyLoose p l y (headSpec ws rm) cc maxL ret e s m args below meth c s₁ → c.maxLocals = maxL → (∀ x ∈ c.exceptionTable.toList, False) → Pc args s →
      W p l e (headSpec ws rm).room s m args below meth c s.heap [] 0 0 (vx_MQ below Qc XC args s mc ms free) (entryFrame m args maxL)) : vx_Met l y ws rm Pc Qc XC mc ms free := by
  refine MetFree.of_bodyS (code := cc) (maxLocals := maxL) (ret := ret) hy ?_ ?_
  · intro args s m h hn
    obtain ⟨meth, c, h1, h2, h3, h4, h5, h6, -, -⟩ := Cond.code_spec hn (atoms_spec (ws := ws) h _ (by rw [hw]; exact List.mem_cons_self))
    exact ⟨meth, c, h1, h2, h3, h4, h5, h6⟩
  · intro p e s m args below meth c s₁ B hml hP _
    have hh0 : s₁.heap = s.heap := by rw [B.state]; rfl
    have ht : ∀ x ∈ c.exceptionTable.toList, False := by
      obtain ⟨meth9, c9, h1, h2, -, -, -, -, h7, -⟩ := Cond.code_spec B.named (atoms_spec (ws := ws) B.pre _ (by rw [hw]; exact List.mem_cons_self))
      cases Option.some.inj (h1.symm.trans B.method)
      cases Option.some.inj (h2.symm.trans (Stand.of_body B).code)
      intro x hx
      rw [Array.isEmpty_iff.mp h7] at hx
      cases hx
    obtain ⟨t, a1, o, b1, b2, b3⟩ := body p e s m args below meth c s₁ B hml ht hP s₁ hh0 (Stand.of_body B)
    exact ⟨t, o, a1, b1, b2, b3⟩
/-- the table of a body with handlers -/
theorem vx_table {p : Program} {x y : MethodName} {S : Spec} {cc bytes : ByteArray} {maxL maxL' : Nat} {ret ret' : Option FieldType} {e : Env} {s s₁ : State} {m : MethodId} {args : Array Value} {below : List Frame} {meth : Method} {c : Code} {hh : List (Nat × Nat × Nat × Nat)}
    (B : BodyLoose p l y S cc maxL ret e s m args below meth c s₁) (h : (Cond.codeWith y bytes maxL' ret' hh).before args s = true) : c.exceptionTable.toList = tableOf hh := by
  obtain ⟨m9, meth9, c9, hn9, h1, h2, -, -, h6, -⟩ := Cond.codeWith_spec h
  cases Option.some.inj (hn9.symm.trans B.named)
  cases Option.some.inj (h1.symm.trans B.method)
  cases Option.some.inj (h2.symm.trans (Stand.of_body B).code)
  rw [← h6, table_eq]
end Bodies
end VXA
/-! ===== END ===== -/
/-! ===== BEGIN a static call of a method with an exception table ===== -/
section VXS
variable {p : Program} {l : Launch} {e : Env} {R : Room} {s : State} {m : MethodId} {args : Array Value} {below : List Frame} {meth : Method} {c : Code} {T : State} {H : Heap} {locs : List Loc} {cells slots : Nat}
abbrev vx_CSW (R : Room) (s : State) (args : Array Value) (own : String) (index : Nat) (y : MethodName) (bytes : ByteArray) (maxL : Nat) (ret : Option FieldType) (hh : List (Nat × Nat × Nat × Nat)) (ws : List Cond) (rm : Room) (mc ms n : Nat) : Prop :=
  (rm.cells = mc ∧ rm.slots = ms ∧ rm.frames + 1 ≤ R.frames ∧ 8 + (maxL + 11) + rm.locals ≤ R.locals ∧ (∀ w ∈ ws, ∀ (a' : Array Value) (U : State), s.WarmedH U.vm → w.before a' U = true) ∧ Cond.codeWith y bytes maxL ret hh ∈ ws) ∧
  (Cond.codeWith y bytes maxL ret hh).before args s = true ∧ (Cond.initialized y.cls).before args s = true ∧ (y.cls ≠ "java/lang/invoke/MethodHandle" ∧ y.cls ≠ "java/lang/invoke/VarHandle") ∧
  (∀ sig, parseMethodDescriptor y.desc = some sig → n = sig.parameters.length) ∧ (Cond.methodLink own index y).before args s = true ∧ (Cond.static y).before args s = true
theorem vx_cwSW {own : String} {index maxL mc ms : Nat} {y : MethodName} {bytes : ByteArray} {ret : Option FieldType} {hh : List (Nat × Nat × Nat × Nat)} {Ts ws ws' : List Cond} {rm : Room} (n : Nat) (ht : ∀ w ∈ Ts, w.before args s = true) (hT : GoodIn Ts (va_wsS own index y ws)) (hw : ws = Cond.codeWith y bytes maxL ret hh :: ws') (hrc : rm.cells = mc) (hrs : rm.slots = ms)
    (hd : y.cls ≠ "java/lang/invoke/MethodHandle" ∧ y.cls ≠ "java/lang/invoke/VarHandle" ∧ (parseMethodDescriptor y.desc).map (fun d => d.parameters.length) = some n) (hR : rm.frames + 1 ≤ R.frames ∧ 8 + (maxL + 11) + rm.locals ≤ R.locals) :
    vx_CSW R s args own index y bytes maxL ret hh ws rm mc ms n := by
  have ok : ∀ w ∈ va_wsS own index y ws, w.before args s = true := fun w h => ht w (hT w h).1
  have hG : GoodIn Ts ws := fun w h => hT w (by unfold va_wsS; exact List.mem_append_right _ h)
  have hc : Cond.codeWith y bytes maxL ret hh ∈ ws := by rw [hw]; exact List.mem_cons_self
  refine ⟨⟨hrc, hrs, hR.1, hR.2, pay_in ht hG, hc⟩, ht _ (hG _ hc).1, ok _ (by simp [va_wsS]), ⟨hd.1, hd.2.1⟩, fun sig h => ?_, ok _ (by simp [va_wsS]), ok _ (by simp [va_wsS])⟩
  have h2 := hd.2.2
  rw [h] at h2
  exact (Option.some.inj h2).symm
theorem vx_callSW (X : Stand p l e R s m args below meth c T locs cells slots) (hexec : p.tables.exec = Jvm.exec) {own : String} {index : Nat} {y : MethodName} {bytes : ByteArray} {maxL : Nat} {ret : Option FieldType} {hh : List (Nat × Nat × Nat × Nat)}
    (hown : s.vm.findClass own = some m.cls) (hlink : (Cond.methodLink own index y).before args s = true) (hstat : (Cond.static y).before args s = true) (hinit : (Cond.initialized y.cls).before args s = true)
    (hcode : (Cond.codeWith y bytes maxL ret hh).before args s = true) (hy : y.cls ≠ "java/lang/invoke/MethodHandle" ∧ y.cls ≠ "java/lang/invoke/VarHandle")
    {W9 : Nat} {Pre : Pt → Array Value → Prop} {Post : Pt → Array Value → Option Value → Pt → Prop} (hK : Back l R p e below s args y 3 W9 Pre Post)
    {g : JFrame} (hg : g.method = m) (hsize : g.locals.size = c.maxLocals) {argsL rest : List Value} (hlen : ∀ sig, parseMethodDescriptor y.desc = some sig → argsL.length = sig.parameters.length)
    (hstack : g.stack = argsL.reverse ++ rest) (hW : 2 * g.monitorRoom + (rest.map fun v => v.category).sum ≤ W9) (hdg : decode c.code g.pc = .ok (.invokestatic index, 3))
    (hpre : ∀ vm₁, s.WarmedH vm₁ → Pre ⟨T.setVm vm₁, locs, cells, slots⟩ argsL.toArray) :
    ∃ (v : Option Value) (vm₁ : Vm) (B : Pt), s.WarmedH vm₁ ∧ Stand p l e R s m args below meth c B.U B.locs B.cells B.slots ∧ Post ⟨T.setVm vm₁, locs, cells, slots⟩ argsL.toArray v B ∧
      ∀ target, Steps p.tables e below (B.U.setTop { g with pc := g.pc + 3, stack := v.toList ++ rest }) target → Steps p.tables e below (T.setTop g) target := by
  obtain ⟨mk, methM, cM, hnamed, hmethM, -, -, -, -, -, -, hsigM⟩ := Cond.codeWith_spec hcode
  have hstatic : methM.isStatic = true := Cond.static_spec hnamed hmethM hstat
  obtain ⟨kP, hkP, -⟩ := className_of_methodNamed hnamed
  have hinitP : kP.init = .initialized := Cond.initialized_spec (findClass_of_methodNamed hnamed) hkP hinit
  obtain ⟨vm₁, X₁, hstep₁⟩ := X.invokestatic hexec hown hlink hnamed hmethM hstatic hkP hinitP hy (g := g) hg (argsL := argsL) (rest := rest) (hlen _ hsigM) hstack hdg
  obtain ⟨v, B, X', hpost, hsteps⟩ := hK m meth c ⟨T.setVm vm₁, locs, cells, slots⟩ { g with stack := rest } (.invokestatic index) mk argsL.toArray X₁ hg hsize hdg hW (X₁.named hnamed) (hpre vm₁ X₁.warmed)
  exact ⟨v, vm₁, B, X₁.warmed, X', hpost, fun target h => hstep₁ _ fun acts => by rw [doInvoke_state]; exact hsteps.trans h⟩
theorem vx_runSW {y : MethodName} {bytes cc : ByteArray} {maxL nL mc ms n index : Nat} {ret : Option FieldType} {hh : List (Nat × Nat × Nat × Nat)} {ws : List Cond} {rm : Room} {Pc : Array Value → State → Prop} {Qc : Array Value → State → Outcome → State → Prop} {free : Addr → Prop} {Ts : List Cond} {own : String} {As rest : List Value} {g : JFrame}
    (S : CallFix p m c cc nL s args Ts own) (hM : Met l y ws rm Pc Qc mc ms free) (cw : vx_CSW R s args own index y bytes maxL ret hh ws rm mc ms n) (hp : PreS s H Pc As)
    (hg : g.method = m) (hn : As.length = n) (hsize : g.locals.size = nL) (hstack : g.stack = As.reverse ++ rest) (hW : 2 * g.monitorRoom + (rest.map fun v => v.category).sum ≤ 8) (hdg : decode cc g.pc = .ok (.invokestatic index, 3)) (hf : cells + mc ≤ R.cells ∧ slots + ms ≤ R.slots) :
    va_Run p l e R s m args below meth c H locs cells slots mc ms g rest (Qc As.toArray) (free) := by
  obtain ⟨⟨hrc, hrs, hfr, hlo, hws, hcw⟩, hcode, hini, hy, hlen, hl, hstt⟩ := cw
  have hK : Back l R p e below s args y 3 8 (PreOf R mc ms Pc) (PostOf Qc mc ms free) := va_backW (hh := hh) (bytes := bytes) (maxL := maxL) (ret := ret) hM hp.1 hrc hrs hfr hlo hws hcw (fun a' U hW => word_at hW (Or.inl (by first | rfl | simp [Cond.onTables, Cond.keeps, Cond.steady])) hini)
  obtain ⟨hx, hb, hml, ho, -⟩ := S
  intro T hT X
  obtain ⟨v, vm₁, ⟨U', l2, c2, s2⟩, hW₁, X', ⟨g', mk, t, L, e1, e2, hq, h1, hL, h2, h3⟩, st⟩ := vx_callSW X hx (hh := hh) (bytes := bytes) (maxL := maxL) (ret := ret) ho hl hstt hini hcode hy hK hg (hsize.trans hml.symm) (argsL := As) (rest := rest) (fun sig h => hn.trans (hlen sig h)) hstack hW (by rw [hb]; exact hdg)
    (fun vm₁ hW₁ => ⟨hf.1, hf.2, hp.2 (T.setVm vm₁) hT hW₁⟩)
  dsimp only [Pt.U, Pt.locs, Pt.cells, Pt.slots] at X' e1 e2 h1 h2 h3 st
  subst h1; subst h2; subst h3
  exact ⟨v, (T.setVm vm₁).calling g' mk As.toArray, t, U', L, hT, X', hL, e1, e2, hq, st⟩
/-- not caught here, past rows that name other classes: it goes on to the caller -/
theorem vx_outP {p : Program} {l : Launch} {e : Env} {R : Room} {s : State} {m : MethodId} {args : Array Value} {below : List Frame} {meth : Method} {c : Code} {H : Heap} {locs : List Loc} {cells slots : Nat} {free : Addr → Prop} {ls : Array Slot} {rest : List Value} {Qc : Array Value → State → Outcome → State → Prop} {XC : String → State → State → Prop}
    {pc : Nat} {own E : String} {ce : Cell} {q : Addr} {mc ms : Nat} (hown : s.vm.findClass own = some m.cls) (hlocks : meth.locks = false)
    (hpass : ∀ z ∈ c.exceptionTable.toList, covers z pc = false ∨ (z.catchType ≠ 0 ∧ ∃ nm : String, (Cond.classLink own z.catchType nm).before args s = true ∧ va_Nc E nm s)) (hcell : H[q]? = some ce) (hv : ce.vm = .none) (hcl : s.vm.findClass E = some ce.cls)
    (hx : ∀ t : State, t.heap = H → s.vm.Alike t.vm → XC E s t) (hf : ∀ z ∈ locs, free z.base) (hc : cells ≤ mc) (hs : slots ≤ ms) :
    vx_W p l e R s m args below meth c H locs cells slots (vx_MQ below Qc XC args s mc ms free) (F0 m pc ls rest) q := by
  intro T hT X
  have hpl : e.platform.magicAccessors = ({} : Platform).magicAccessors := by rw [X.admits.platform]
  obtain ⟨vm', hW', X', st⟩ := X.outThrough hlocks q (g := F0 m pc ls rest) rfl rfl rfl (cell := ce) (by rw [hT]; exact hcell) (by rw [hv]; rfl)
    (by obtain ⟨k9, h9, -⟩ := Vm.findClass_spec hcl; exact ⟨k9, h9⟩) (fun z hz => by
      rcases hpass z hz with h | ⟨hz0, nm, hl1, hn1⟩
      · exact Or.inl h
      · obtain ⟨c6, hc6, hcl6⟩ := Cond.classLink_spec hown hl1 e.platform hpl
        obtain ⟨a8, b8, h1, h2, h3⟩ := hn1
        cases Option.some.inj (h1.symm.trans hcl)
        cases Option.some.inj (h2.symm.trans hc6)
        exact Or.inr ⟨hz0, _, hcl6, h3⟩)
  obtain ⟨g₀, hfr⟩ := X'.frames_eq
  have hcell9 : ((T.setVm vm').setFrames (.throwing q :: below)).heap[q]? = some ce := by
    show T.heap[q]? = some ce
    rw [hT]; exact hcell
  have hend : Ended ((T.setVm vm').setFrames (.throwing q :: below)) below (.threw q) := State.frames_setFrames _ (State.cur_lt_of_frames hfr)
  refine ⟨(T.setVm vm').setFrames (.throwing q :: below), ?_, .threw q, X'.here.running, hend, Or.inr ⟨q, rfl, E, ce, locs, hx _ hT (X'.ends _).1.alike, hcell9, hv, hcl, (X'.ends _).1, (X'.ends _).2.mono hc hs, hf⟩⟩
  rw [X.pushThrowing_eq]
  exact st
/-- a thing of a world lies in the heap -/
theorem vx_lt {D : va_G} {cl : List vw_C} {ws : va_W} {H1 : Heap} (h : va_P D cl ws H1) {k : Nat} {q : Nat × va_E} (hk : ws[k]? = some q) : q.1 < H1.size := (h k q hk).lt
end VXS
/-! ===== END ===== -/
/-! ===== BEGIN methods with a table of their own: called by a name, returning or throwing ===== -/
section VXH
/-! vx_backW, vx_callVX, vx_callSX, vx_callVW, vx_runVW, vx_runVX, vx_runSX, vx_ofWH follow the same proofs as their sisters above (Free/Laws.lean, Shelf42/LK1.lean); vx_outP calls Shelf42/NT130.lean (outThrough). -/
section
variable {l : Launch} {R : Room} {p : Program} {e : Env} {below : List Frame} {s : State} {sargs : Array Value} {y : MethodName} {len W9 : Nat}
theorem vx_backW {ws : List Cond} {rm : Room} {Pc : Array Value → State → Prop} {Qc : Array Value → State → Outcome → State → Prop} {XC : String → State → State → Prop} {mc ms : Nat} {free : Addr → Prop} {bytes : ByteArray} {maxL : Nat} {ret : Option FieldType} {hh : List (Nat × Nat × Nat × Nat)}
    (hM : vx_Met l y ws rm Pc Qc XC mc ms free) (hblind : FrameBlind Pc) (hrc : rm.cells = mc) (hrs : rm.slots = ms)
    (hframes : rm.frames + 1 ≤ R.frames) (hlocals : W9 + (maxL + 11) + rm.locals ≤ R.locals)
    (hws : ∀ w ∈ ws, ∀ a' U, s.WarmedH U.vm → w.before a' U = true) (hcode : Cond.codeWith y bytes maxL ret hh ∈ ws) (hinit : ∀ a' U, s.WarmedH U.vm → (Cond.initialized y.cls).before a' U = true) :
    vx_Back l R p e below s sargs y len W9 (PreOf R mc ms Pc) (PostOf Qc mc ms free) (vx_Post XC mc ms free) := by
  intro m meth c A g ig mk a X hg hsize hdg hW hn hp
  have h1 : (headSpec ws rm).pre.before a A.U = true := atoms_intro fun w hw => hws w hw _ _ X.warmed
  have h2 : (Cond.codeWith y bytes maxL ret hh).before a A.U = true := hws _ hcode _ _ X.warmed
  have h3 : (Cond.initialized y.cls).before a A.U = true := hinit _ _ X.warmed
  have h4 : A.cells + (headSpec ws rm).room.cells ≤ R.cells := by rw [show (headSpec ws rm).room.cells = mc from hrc]; exact hp.1
  have h5 : A.slots + (headSpec ws rm).room.slots ≤ R.slots := by rw [show (headSpec ws rm).room.slots = ms from hrs]; exact hp.2.1
  have hPc : Pc a (A.U.calling g mk a) := hblind _ _ _ _ hp.2.2
  obtain ⟨U, Ls, c0, s0⟩ := A
  dsimp only [Pt.U, Pt.locs, Pt.cells, Pt.slots] at h1 h2 h3 h4 h5 X hn hPc ⊢
  obtain ⟨m9, methY, cY, hn9, hmY, hcY, -, hlY, -⟩ := Cond.codeWith_spec h2
  cases Option.some.inj (hn9.symm.trans hn)
  obtain ⟨kY, hkY, -⟩ := className_of_methodNamed hn
  have hinitY : kY.init = .initialized := Cond.initialized_spec (findClass_of_methodNamed hn) hkY h3
  have h : At U g.method c below := by rw [hg]; exact X.here
  have hlocals9 : W9 + (maxL + 11) + (headSpec ws rm).room.locals ≤ R.locals := hlocals
  have happ : (headSpec ws rm).appliesLoose y e.platform (U.calling g mk a) = true :=
    Spec.appliesLoose_calling (g := g) h hdg hn hkY hinitY
      (X.room_calling (g := g) (R' := (headSpec ws rm).room) hsize hmY hcY hframes (by rw [hlY]; omega) h4 h5) h1
  obtain ⟨mid, hmid⟩ := h.above
  have hfr : (U.setTop g).frames = (.java g :: mid) ++ below := by rw [State.frames_setTop' g h.top, hmid]; rfl
  obtain ⟨o, s₂, hsteps, -, hend, hq⟩ := Steps.callFree hM p X.admits X.cas X.clock (acts := []) hfr happ hPc trivial
  have hq' : vx_Q Qc XC mc ms free a (U.calling g mk a) o s₂ := hq
  rw [State.frames_setTop' g h.top] at hend
  obtain ⟨g₀, hg0⟩ := Option.isSome_iff_exists.mp h.top
  obtain ⟨r, hr⟩ := State.topJava?_eq_some.mp hg0
  have hr' : (({ U with heap := s₂.heap, slotsUsed := s₂.slotsUsed } : State).setVm s₂.vm).frames = .java g₀ :: r := hr
  rcases hq' with ⟨hqc, L, hfe, hL⟩ | ⟨q, rfl, E, ce, L, hx, hce, hcv, hcl, hW₂, hsm, hL⟩
  · obtain ⟨⟨v, rfl⟩, hW₂, e2, q2, q3, q4, q5, q6⟩ := id hfe
    have e3 : s₂ = ({ (U.calling g mk a).setFrames s₂.frames with heap := s₂.heap, slotsUsed := s₂.slotsUsed } : State).setVm s₂.vm := by
      have : s₂ = ({ s₂ with vm := (U.calling g mk a).vm } : State).setVm s₂.vm := rfl
      rw [e2] at this
      exact this
    obtain ⟨c₂, i₂, len₂, hc₂, hd₂, hf₂⟩ := hend
    have hW' : U.WarmedH s₂.vm := hW₂
    have hcc : c₂ = c := by
      have h1 : s₂.code? g.method = U.code? g.method := by
        rw [State.code?_eq, State.code?_eq, hW'.alike.method?]
      exact Option.some.inj (hc₂.symm.trans (h1.trans h.code))
    subst hcc
    have hlen : len₂ = len := by rw [hdg] at hd₂; cases hd₂; rfl
    subst hlen
    have hs₂ : s₂ = (({ U with heap := s₂.heap, slotsUsed := s₂.slotsUsed } : State).setVm s₂.vm).setTop { g with pc := g.pc + len₂, stack := v.toList ++ g.stack } := by
      refine e3.trans ?_
      rw [hf₂, State.calling_eq h.top, State.setFrames_setFrames, State.setTop_of_frames _ hr', hr]
      rfl
    have hsame : U.sameButNew ({ U with heap := s₂.heap, slotsUsed := s₂.slotsUsed } : State) L mc ms := by
      refine ⟨?_, q2, q3, q4, q5, q6⟩
      obtain ⟨t, ht, -⟩ := State.frames_cons hr
      show ({ U with heap := s₂.heap, slotsUsed := s₂.slotsUsed } : State) = { U.setFrames U.frames with heap := s₂.heap, slotsUsed := s₂.slotsUsed }
      rw [State.setFrames_self ht]
    subst hg
    refine Or.inl ⟨v, ⟨(({ U with heap := s₂.heap, slotsUsed := s₂.slotsUsed } : State).setVm s₂.vm), Ls ++ L, c0 + mc, s0 + ms⟩,
      ⟨X.admits, X.cas, X.clock, X.frames, X.room, X.hears, X.method, X.code, (X.here.setHeapUsed s₂.heap s₂.slotsUsed).setVm hW'.alike, X.tail, State.WarmedH.trans X.warmed hW', X.limits, X.bytes, X.same.trans (hsame.setVm s.vm)⟩,
      ⟨g, mk, s₂, L, rfl, rfl, hqc, rfl, hL, rfl, rfl⟩, ?_⟩
    show Steps p.tables e below _ ((({ U with heap := s₂.heap, slotsUsed := s₂.slotsUsed } : State).setVm s₂.vm).setTop { g with pc := g.pc + len₂, stack := v.toList ++ g.stack })
    rw [← hs₂]
    exact hsteps
  · obtain ⟨e2, q2, q3, q4, q5, q6⟩ := id hsm
    have e3 : s₂ = ({ (U.calling g mk a).setFrames s₂.frames with heap := s₂.heap, slotsUsed := s₂.slotsUsed } : State).setVm s₂.vm := by
      have : s₂ = ({ s₂ with vm := (U.calling g mk a).vm } : State).setVm s₂.vm := rfl
      rw [e2] at this
      exact this
    have hf₂ : s₂.frames = .throwing q :: .java g :: U.frames.tail := hend
    have hW' : U.WarmedH s₂.vm := hW₂
    have hs₂ : s₂ = ((({ U with heap := s₂.heap, slotsUsed := s₂.slotsUsed } : State).setVm s₂.vm).setTop g).pushFrame (.throwing q) := by
      refine e3.trans ?_
      rw [hf₂, State.calling_eq h.top, State.setFrames_setFrames, State.pushFrame, State.frames_setTop _ hr', State.setTop_of_frames _ hr', State.setFrames_setFrames, hr]
      rfl
    have hsame : U.sameButNew ({ U with heap := s₂.heap, slotsUsed := s₂.slotsUsed } : State) L mc ms := by
      refine ⟨?_, q2, q3, q4, q5, q6⟩
      obtain ⟨t, ht, -⟩ := State.frames_cons hr
      show ({ U with heap := s₂.heap, slotsUsed := s₂.slotsUsed } : State) = { U.setFrames U.frames with heap := s₂.heap, slotsUsed := s₂.slotsUsed }
      rw [State.setFrames_self ht]
    subst hg
    refine Or.inr ⟨q, ⟨(({ U with heap := s₂.heap, slotsUsed := s₂.slotsUsed } : State).setVm s₂.vm), Ls ++ L, c0 + mc, s0 + ms⟩,
      ⟨X.admits, X.cas, X.clock, X.frames, X.room, X.hears, X.method, X.code, (X.here.setHeapUsed s₂.heap s₂.slotsUsed).setVm hW'.alike, X.tail, State.WarmedH.trans X.warmed hW', X.limits, X.bytes, X.same.trans (hsame.setVm s.vm)⟩,
      ⟨g, mk, s₂, L, E, ce, rfl, rfl, hx, hce, hcv, hcl, rfl, hL, rfl, rfl⟩, ?_⟩
    show Steps p.tables e below _ (((({ U with heap := s₂.heap, slotsUsed := s₂.slotsUsed } : State).setVm s₂.vm).setTop g).pushFrame (.throwing q))
    rw [← hs₂]
    exact hsteps
end
variable {p : Program} {l : Launch} {e : Env} {R : Room} {s : State} {m : MethodId} {args : Array Value} {below : List Frame} {meth : Method} {c : Code} {T : State} {H : Heap} {locs : List Loc} {cells slots : Nat}
theorem vx_callVX (X : Stand p l e R s m args below meth c T locs cells slots) (hexec : p.tables.exec = Jvm.exec) {own C : String} {index : Nat} {y : MethodName} {bytes : ByteArray} {maxL : Nat} {ret : Option FieldType} {hh : List (Nat × Nat × Nat × Nat)}
    (hown : s.vm.findClass own = some m.cls) (hlink : (Cond.methodLink own index y).before args s = true) (hinst : (Cond.instanceMethod y).before args s = true) (hsel : (Cond.selects C y y).before args s = true)
    (hcode : (Cond.codeWith y bytes maxL ret hh).before args s = true) (hy : y.cls ≠ "java/lang/invoke/MethodHandle" ∧ y.cls ≠ "java/lang/invoke/VarHandle")
    {W9 : Nat} {Pre : Pt → Array Value → Prop} {Post : Pt → Array Value → Option Value → Pt → Prop} {PostX : Pt → Array Value → Addr → Pt → Prop} (hK : vx_Back l R p e below s args y 3 W9 Pre Post PostX)
    {b : Addr} {cellB : Cell} (hcell : T.heap[b]? = some cellB) (hobj : cellB.vm.isStatics = false) (hcls : s.vm.findClass C = some cellB.cls)
    {g : JFrame} (hg : g.method = m) (hsize : g.locals.size = c.maxLocals) {argsL rest : List Value} (hlen : ∀ sig, parseMethodDescriptor y.desc = some sig → argsL.length = sig.parameters.length)
    (hstack : g.stack = argsL.reverse ++ .ref b :: rest) (hW : 2 * g.monitorRoom + (rest.map fun v => v.category).sum ≤ W9) (hdg : decode c.code g.pc = .ok (.invokevirtual index, 3))
    (hpre : ∀ vm₁, s.WarmedH vm₁ → Pre ⟨T.setVm vm₁, locs, cells, slots⟩ (Value.ref b :: argsL).toArray) :
    (∃ (v : Option Value) (vm₁ : Vm) (B : Pt), s.WarmedH vm₁ ∧ Stand p l e R s m args below meth c B.U B.locs B.cells B.slots ∧ Post ⟨T.setVm vm₁, locs, cells, slots⟩ (Value.ref b :: argsL).toArray v B ∧
      ∀ target, Steps p.tables e below (B.U.setTop { g with pc := g.pc + 3, stack := v.toList ++ rest }) target → Steps p.tables e below (T.setTop g) target) ∨
    (∃ (q : Addr) (vm₁ : Vm) (B : Pt), s.WarmedH vm₁ ∧ Stand p l e R s m args below meth c B.U B.locs B.cells B.slots ∧ PostX ⟨T.setVm vm₁, locs, cells, slots⟩ (Value.ref b :: argsL).toArray q B ∧
      Steps p.tables e below (T.setTop g) ((B.U.setTop { g with stack := rest }).pushFrame (.throwing q))) := by
  obtain ⟨mk, methM, hnamed, hmethM, hstM, habM⟩ := Cond.instanceMethod_spec hinst
  obtain ⟨m8, methM', cM, hn8, hmethM', -, -, -, -, -, -, hsigM⟩ := Cond.codeWith_spec hcode
  cases Option.some.inj (hn8.symm.trans hnamed)
  cases hmethM.symm.trans hmethM'
  obtain ⟨c2, r2, m2, q1, q2, q3, q4, kP, hkP, hkPi⟩ := Cond.selects_spec hsel
  cases hcls.symm.trans q1
  cases (State.methodFound?_of_named hnamed hy).symm.trans q2
  cases hnamed.symm.trans q3
  have hselP : selectMethod e.platform s.vm cellB.cls mk = .method mk := by rw [Launch.admits_selectMethod X.admits]; exact q4
  obtain ⟨vm₁, X₁, hstep₁⟩ := X.invokevirtual hexec hown hlink hnamed hmethM hstM hkP hkPi hy (a := b) (cell := cellB) hcell
    (fun z h => by rw [h] at hobj; cases hobj) hselP hmethM habM hkP hkPi (g := g) hg (argsL := argsL) (rest := rest) (hlen _ hsigM) hstack hdg
  rcases hK m meth c ⟨T.setVm vm₁, locs, cells, slots⟩ { g with stack := rest } (.invokevirtual index) mk (Value.ref b :: argsL).toArray X₁ hg hsize hdg hW (X₁.named hnamed) (hpre vm₁ X₁.warmed) with ⟨v, B, X', hpost, hsteps⟩ | ⟨q, B, X', hpost, hsteps⟩
  · exact Or.inl ⟨v, vm₁, B, X₁.warmed, X', hpost, fun target h => hstep₁ _ fun acts => by rw [doInvoke_state]; exact hsteps.trans h⟩
  · exact Or.inr ⟨q, vm₁, B, X₁.warmed, X', hpost, hstep₁ _ fun acts => by rw [doInvoke_state]; exact hsteps⟩
theorem vx_callSX (X : Stand p l e R s m args below meth c T locs cells slots) (hexec : p.tables.exec = Jvm.exec) {own : String} {index : Nat} {y : MethodName} {bytes : ByteArray} {maxL : Nat} {ret : Option FieldType} {hh : List (Nat × Nat × Nat × Nat)}
    (hown : s.vm.findClass own = some m.cls) (hlink : (Cond.methodLink own index y).before args s = true) (hstat : (Cond.static y).before args s = true) (hinit : (Cond.initialized y.cls).before args s = true)
    (hcode : (Cond.codeWith y bytes maxL ret hh).before args s = true) (hy : y.cls ≠ "java/lang/invoke/MethodHandle" ∧ y.cls ≠ "java/lang/invoke/VarHandle")
    {W9 : Nat} {Pre : Pt → Array Value → Prop} {Post : Pt → Array Value → Option Value → Pt → Prop} {PostX : Pt → Array Value → Addr → Pt → Prop} (hK : vx_Back l R p e below s args y 3 W9 Pre Post PostX)
    {g : JFrame} (hg : g.method = m) (hsize : g.locals.size = c.maxLocals) {argsL rest : List Value} (hlen : ∀ sig, parseMethodDescriptor y.desc = some sig → argsL.length = sig.parameters.length)
    (hstack : g.stack = argsL.reverse ++ rest) (hW : 2 * g.monitorRoom + (rest.map fun v => v.category).sum ≤ W9) (hdg : decode c.code g.pc = .ok (.invokestatic index, 3))
    (hpre : ∀ vm₁, s.WarmedH vm₁ → Pre ⟨T.setVm vm₁, locs, cells, slots⟩ argsL.toArray) :
    (∃ (v : Option Value) (vm₁ : Vm) (B : Pt), s.WarmedH vm₁ ∧ Stand p l e R s m args below meth c B.U B.locs B.cells B.slots ∧ Post ⟨T.setVm vm₁, locs, cells, slots⟩ argsL.toArray v B ∧
      ∀ target, Steps p.tables e below (B.U.setTop { g with pc := g.pc + 3, stack := v.toList ++ rest }) target → Steps p.tables e below (T.setTop g) target) ∨
    (∃ (q : Addr) (vm₁ : Vm) (B : Pt), s.WarmedH vm₁ ∧ Stand p l e R s m args below meth c B.U B.locs B.cells B.slots ∧ PostX ⟨T.setVm vm₁, locs, cells, slots⟩ argsL.toArray q B ∧
      Steps p.tables e below (T.setTop g) ((B.U.setTop { g with stack := rest }).pushFrame (.throwing q))) := by
  obtain ⟨mk, methM, cM, hnamed, hmethM, -, -, -, -, -, -, hsigM⟩ := Cond.codeWith_spec hcode
  have hstatic : methM.isStatic = true := Cond.static_spec hnamed hmethM hstat
  obtain ⟨kP, hkP, -⟩ := className_of_methodNamed hnamed
  have hinitP : kP.init = .initialized := Cond.initialized_spec (findClass_of_methodNamed hnamed) hkP hinit
  obtain ⟨vm₁, X₁, hstep₁⟩ := X.invokestatic hexec hown hlink hnamed hmethM hstatic hkP hinitP hy (g := g) hg (argsL := argsL) (rest := rest) (hlen _ hsigM) hstack hdg
  rcases hK m meth c ⟨T.setVm vm₁, locs, cells, slots⟩ { g with stack := rest } (.invokestatic index) mk argsL.toArray X₁ hg hsize hdg hW (X₁.named hnamed) (hpre vm₁ X₁.warmed) with ⟨v, B, X', hpost, hsteps⟩ | ⟨q, B, X', hpost, hsteps⟩
  · exact Or.inl ⟨v, vm₁, B, X₁.warmed, X', hpost, fun target h => hstep₁ _ fun acts => by rw [doInvoke_state]; exact hsteps.trans h⟩
  · exact Or.inr ⟨q, vm₁, B, X₁.warmed, X', hpost, hstep₁ _ fun acts => by rw [doInvoke_state]; exact hsteps⟩
theorem vx_callVW (X : Stand p l e R s m args below meth c T locs cells slots) (hexec : p.tables.exec = Jvm.exec) {own C : String} {index : Nat} {y : MethodName} {bytes : ByteArray} {maxL : Nat} {ret : Option FieldType} {hh : List (Nat × Nat × Nat × Nat)}
    (hown : s.vm.findClass own = some m.cls) (hlink : (Cond.methodLink own index y).before args s = true) (hinst : (Cond.instanceMethod y).before args s = true) (hsel : (Cond.selects C y y).before args s = true)
    (hcode : (Cond.codeWith y bytes maxL ret hh).before args s = true) (hy : y.cls ≠ "java/lang/invoke/MethodHandle" ∧ y.cls ≠ "java/lang/invoke/VarHandle")
    {W9 : Nat} {Pre : Pt → Array Value → Prop} {Post : Pt → Array Value → Option Value → Pt → Prop} (hK : Back l R p e below s args y 3 W9 Pre Post)
    {b : Addr} {cellB : Cell} (hcell : T.heap[b]? = some cellB) (hobj : cellB.vm.isStatics = false) (hcls : s.vm.findClass C = some cellB.cls)
    {g : JFrame} (hg : g.method = m) (hsize : g.locals.size = c.maxLocals) {argsL rest : List Value} (hlen : ∀ sig, parseMethodDescriptor y.desc = some sig → argsL.length = sig.parameters.length)
    (hstack : g.stack = argsL.reverse ++ .ref b :: rest) (hW : 2 * g.monitorRoom + (rest.map fun v => v.category).sum ≤ W9) (hdg : decode c.code g.pc = .ok (.invokevirtual index, 3))
    (hpre : ∀ vm₁, s.WarmedH vm₁ → Pre ⟨T.setVm vm₁, locs, cells, slots⟩ (Value.ref b :: argsL).toArray) :
    ∃ (v : Option Value) (vm₁ : Vm) (B : Pt), s.WarmedH vm₁ ∧ Stand p l e R s m args below meth c B.U B.locs B.cells B.slots ∧ Post ⟨T.setVm vm₁, locs, cells, slots⟩ (Value.ref b :: argsL).toArray v B ∧
      ∀ target, Steps p.tables e below (B.U.setTop { g with pc := g.pc + 3, stack := v.toList ++ rest }) target → Steps p.tables e below (T.setTop g) target := by
  obtain ⟨mk, methM, hnamed, hmethM, hstM, habM⟩ := Cond.instanceMethod_spec hinst
  obtain ⟨m8, methM', cM, hn8, hmethM', -, -, -, -, -, -, hsigM⟩ := Cond.codeWith_spec hcode
  cases Option.some.inj (hn8.symm.trans hnamed)
  cases hmethM.symm.trans hmethM'
  obtain ⟨c2, r2, m2, q1, q2, q3, q4, kP, hkP, hkPi⟩ := Cond.selects_spec hsel
  cases hcls.symm.trans q1
  cases (State.methodFound?_of_named hnamed hy).symm.trans q2
  cases hnamed.symm.trans q3
  have hselP : selectMethod e.platform s.vm cellB.cls mk = .method mk := by rw [Launch.admits_selectMethod X.admits]; exact q4
  obtain ⟨vm₁, X₁, hstep₁⟩ := X.invokevirtual hexec hown hlink hnamed hmethM hstM hkP hkPi hy (a := b) (cell := cellB) hcell
    (fun z h => by rw [h] at hobj; cases hobj) hselP hmethM habM hkP hkPi (g := g) hg (argsL := argsL) (rest := rest) (hlen _ hsigM) hstack hdg
  obtain ⟨v, B, X', hpost, hsteps⟩ := hK m meth c ⟨T.setVm vm₁, locs, cells, slots⟩ { g with stack := rest } (.invokevirtual index) mk (Value.ref b :: argsL).toArray X₁ hg hsize hdg hW (X₁.named hnamed) (hpre vm₁ X₁.warmed)
  exact ⟨v, vm₁, B, X₁.warmed, X', hpost, fun target h => hstep₁ _ fun acts => by rw [doInvoke_state]; exact hsteps.trans h⟩
abbrev vx_CVW (R : Room) (s : State) (args : Array Value) (own C : String) (index : Nat) (y : MethodName) (bytes : ByteArray) (maxL : Nat) (ret : Option FieldType) (hh : List (Nat × Nat × Nat × Nat)) (ws : List Cond) (rm : Room) (mc ms n : Nat) : Prop :=
  (rm.cells = mc ∧ rm.slots = ms ∧ rm.frames + 1 ≤ R.frames ∧ 8 + (maxL + 11) + rm.locals ≤ R.locals ∧ (∀ w ∈ ws, ∀ (a' : Array Value) (U : State), s.WarmedH U.vm → w.before a' U = true) ∧ Cond.codeWith y bytes maxL ret hh ∈ ws) ∧
  (Cond.codeWith y bytes maxL ret hh).before args s = true ∧ (Cond.initialized y.cls).before args s = true ∧ (y.cls ≠ "java/lang/invoke/MethodHandle" ∧ y.cls ≠ "java/lang/invoke/VarHandle") ∧
  (∀ sig, parseMethodDescriptor y.desc = some sig → n = sig.parameters.length) ∧ (Cond.methodLink own index y).before args s = true ∧ (Cond.instanceMethod y).before args s = true ∧ (Cond.selects C y y).before args s = true
theorem vx_cwVW {own C : String} {index maxL mc ms : Nat} {y : MethodName} {bytes : ByteArray} {ret : Option FieldType} {hh : List (Nat × Nat × Nat × Nat)} {Ts ws ws' : List Cond} {rm : Room} (n : Nat) (ht : ∀ w ∈ Ts, w.before args s = true) (hT : GoodIn Ts (wsV own index C y ws)) (hw : ws = Cond.codeWith y bytes maxL ret hh :: ws') (hrc : rm.cells = mc) (hrs : rm.slots = ms)
    (hd : y.cls = C ∧ y.cls ≠ "java/lang/invoke/MethodHandle" ∧ y.cls ≠ "java/lang/invoke/VarHandle" ∧ (parseMethodDescriptor y.desc).map (fun d => d.parameters.length) = some n) (hR : rm.frames + 1 ≤ R.frames ∧ 8 + (maxL + 11) + rm.locals ≤ R.locals) :
    vx_CVW R s args own C index y bytes maxL ret hh ws rm mc ms n := by
  obtain ⟨hC, hd⟩ := hd
  subst hC
  have ok : ∀ w ∈ wsV own index y.cls y ws, w.before args s = true := fun w h => ht w (hT w h).1
  have hG : GoodIn Ts ws := fun w h => hT w (by unfold wsV; exact List.mem_append_right _ h)
  have hc : Cond.codeWith y bytes maxL ret hh ∈ ws := by rw [hw]; exact List.mem_cons_self
  refine ⟨⟨hrc, hrs, hR.1, hR.2, pay_in ht hG, hc⟩, ht _ (hG _ hc).1, ok _ (by simp [wsV]), ⟨hd.1, hd.2.1⟩, fun sig h => ?_, ok _ (by simp [wsV]), ok _ (by simp [wsV]), ok _ (by simp [wsV])⟩
  have h2 := hd.2.2
  rw [h] at h2
  exact (Option.some.inj h2).symm
theorem vx_runVW {y : MethodName} {bytes cc : ByteArray} {maxL nL mc ms n index : Nat} {ret : Option FieldType} {hh : List (Nat × Nat × Nat × Nat)} {ws : List Cond} {rm : Room} {Pc : Array Value → State → Prop} {Qc : Array Value → State → Outcome → State → Prop} {free : Addr → Prop} {Ts : List Cond} {own C : String} {b : Addr} {As rest : List Value} {g : JFrame}
    (S : CallFix p m c cc nL s args Ts own) (hM : Met l y ws rm Pc Qc mc ms free) (cw : vx_CVW R s args own C index y bytes maxL ret hh ws rm mc ms n) (hp : PreV s H C b Pc As)
    (hg : g.method = m) (hn : As.length = n) (hsize : g.locals.size = nL) (hstack : g.stack = As.reverse ++ .ref b :: rest) (hW : 2 * g.monitorRoom + (rest.map fun v => v.category).sum ≤ 8) (hdg : decode cc g.pc = .ok (.invokevirtual index, 3)) (hf : cells + mc ≤ R.cells ∧ slots + ms ≤ R.slots) :
    va_Run p l e R s m args below meth c H locs cells slots mc ms g rest (Qc (Value.ref b :: As).toArray) free := by
  obtain ⟨⟨hrc, hrs, hfr, hlo, hws, hcw⟩, hcode, hini, hy, hlen, hl, hin, hse⟩ := cw
  have hK : Back l R p e below s args y 3 8 (PreOf R mc ms Pc) (PostOf Qc mc ms free) := va_backW (hh := hh) (bytes := bytes) (maxL := maxL) (ret := ret) hM hp.1 hrc hrs hfr hlo hws hcw (fun a' U hW => word_at hW (Or.inl (by first | rfl | simp [Cond.onTables, Cond.keeps, Cond.steady])) hini)
  obtain ⟨hx, hb, hml, ho, -⟩ := S
  obtain ⟨-, ⟨cellB, hcB, hoB, hclB⟩, hPc⟩ := hp
  intro T hT X
  obtain ⟨v, vm₁, ⟨U', l2, c2, s2⟩, hW₁, X', ⟨g', mk, t, L, e1, e2, hq, h1, hL, h2, h3⟩, st⟩ := vx_callVW X hx (C := C) (hh := hh) (bytes := bytes) (maxL := maxL) (ret := ret) ho hl hin hse hcode hy hK (by rw [hT]; exact hcB) hoB hclB hg (hsize.trans hml.symm) (argsL := As) (rest := rest) (fun sig h => hn.trans (hlen sig h)) hstack hW (by rw [hb]; exact hdg)
    (fun vm₁ hW₁ => ⟨hf.1, hf.2, hPc (T.setVm vm₁) hT hW₁⟩)
  dsimp only [Pt.U, Pt.locs, Pt.cells, Pt.slots] at X' e1 e2 h1 h2 h3 st
  subst h1; subst h2; subst h3
  exact ⟨v, (T.setVm vm₁).calling g' mk (Value.ref b :: As).toArray, t, U', L, hT, X', hL, e1, e2, hq, st⟩
section
variable {y : MethodName} {bytes cc : ByteArray} {maxL nL mc ms n index : Nat} {ret : Option FieldType} {ws : List Cond} {rm : Room} {Pc : Array Value → State → Prop} {Qc : Array Value → State → Outcome → State → Prop} {XC : String → State → State → Prop} {free : Addr → Prop} {Ts : List Cond} {own C : String} {b : Addr} {As rest : List Value} {g : JFrame}
theorem vx_runVX {hh : List (Nat × Nat × Nat × Nat)} (S : CallFix p m c cc nL s args Ts own) (hM : vx_Met l y ws rm Pc Qc XC mc ms free) (cw : vx_CVW R s args own C index y bytes maxL ret hh ws rm mc ms n) (hp : PreV s H C b Pc As)
    (hg : g.method = m) (hn : As.length = n) (hsize : g.locals.size = nL) (hstack : g.stack = As.reverse ++ .ref b :: rest) (hW : 2 * g.monitorRoom + (rest.map fun v => v.category).sum ≤ 8) (hdg : decode cc g.pc = .ok (.invokevirtual index, 3)) (hf : cells + mc ≤ R.cells ∧ slots + ms ≤ R.slots) :
    vx_Run p l e R s m args below meth c H locs cells slots mc ms g rest (Qc (Value.ref b :: As).toArray) XC free := by
  obtain ⟨⟨hrc, hrs, hfr, hlo, hws, hcw⟩, hcode, hini, hy, hlen, hl, hin, hse⟩ := cw
  have hK : vx_Back l R p e below s args y 3 8 (PreOf R mc ms Pc) (PostOf Qc mc ms free) (vx_Post XC mc ms free) := vx_backW (hh := hh) (bytes := bytes) (maxL := maxL) (ret := ret) hM hp.1 hrc hrs hfr hlo hws hcw (fun a' U hW => word_at hW (Or.inl (by first | rfl | simp [Cond.onTables, Cond.keeps, Cond.steady])) hini)
  obtain ⟨hx, hb, hml, ho, -⟩ := S
  obtain ⟨-, ⟨cellB, hcB, hoB, hclB⟩, hPc⟩ := hp
  intro T hT X
  rcases vx_callVX X hx (C := C) (hh := hh) (bytes := bytes) (maxL := maxL) (ret := ret) ho hl hin hse hcode hy hK (by rw [hT]; exact hcB) hoB hclB hg (hsize.trans hml.symm) (argsL := As) (rest := rest) (fun sig h => hn.trans (hlen sig h)) hstack hW (by rw [hb]; exact hdg)
    (fun vm₁ hW₁ => ⟨hf.1, hf.2, hPc (T.setVm vm₁) hT hW₁⟩) with ⟨v, vm₁, ⟨U', l2, c2, s2⟩, hW₁, X', ⟨g', mk, t, L, e1, e2, hq, h1, hL, h2, h3⟩, st⟩ | ⟨q, vm₁, ⟨U', l2, c2, s2⟩, hW₁, X', ⟨g', mk, t, L, E, ce, e1, e2, hq, hce, hcv, hcl, h1, hL, h2, h3⟩, st⟩
  · dsimp only [Pt.U, Pt.locs, Pt.cells, Pt.slots] at X' e1 e2 h1 h2 h3 st
    subst h1; subst h2; subst h3
    exact Or.inl ⟨v, (T.setVm vm₁).calling g' mk (Value.ref b :: As).toArray, t, U', L, hT, X', hL, e1, e2, hq, st⟩
  · dsimp only [Pt.U, Pt.locs, Pt.cells, Pt.slots] at X' e1 e2 h1 h2 h3 st hcl
    subst h1; subst h2; subst h3
    exact Or.inr ⟨q, (T.setVm vm₁).calling g' mk (Value.ref b :: As).toArray, t, U', L, E, ce, hT, X', hL, e1, e2, hq, hce, hcv, vx_cls hW₁ hcl, st⟩
theorem vx_runSX {hh : List (Nat × Nat × Nat × Nat)} (S : CallFix p m c cc nL s args Ts own) (hM : vx_Met l y ws rm Pc Qc XC mc ms free) (cw : vx_CSW R s args own index y bytes maxL ret hh ws rm mc ms n) (hp : PreS s H Pc As)
    (hg : g.method = m) (hn : As.length = n) (hsize : g.locals.size = nL) (hstack : g.stack = As.reverse ++ rest) (hW : 2 * g.monitorRoom + (rest.map fun v => v.category).sum ≤ 8) (hdg : decode cc g.pc = .ok (.invokestatic index, 3)) (hf : cells + mc ≤ R.cells ∧ slots + ms ≤ R.slots) :
    vx_Run p l e R s m args below meth c H locs cells slots mc ms g rest (Qc As.toArray) XC free := by
  obtain ⟨⟨hrc, hrs, hfr, hlo, hws, hcw⟩, hcode, hini, hy, hlen, hl, hstt⟩ := cw
  have hK : vx_Back l R p e below s args y 3 8 (PreOf R mc ms Pc) (PostOf Qc mc ms free) (vx_Post XC mc ms free) := vx_backW (hh := hh) (bytes := bytes) (maxL := maxL) (ret := ret) hM hp.1 hrc hrs hfr hlo hws hcw (fun a' U hW => word_at hW (Or.inl (by first | rfl | simp [Cond.onTables, Cond.keeps, Cond.steady])) hini)
  obtain ⟨hx, hb, hml, ho, -⟩ := S
  intro T hT X
  rcases vx_callSX X hx (hh := hh) (bytes := bytes) (maxL := maxL) (ret := ret) ho hl hstt hini hcode hy hK hg (hsize.trans hml.symm) (argsL := As) (rest := rest) (fun sig h => hn.trans (hlen sig h)) hstack hW (by rw [hb]; exact hdg)
    (fun vm₁ hW₁ => ⟨hf.1, hf.2, hp.2 (T.setVm vm₁) hT hW₁⟩) with ⟨v, vm₁, ⟨U', l2, c2, s2⟩, hW₁, X', ⟨g', mk, t, L, e1, e2, hq, h1, hL, h2, h3⟩, st⟩ | ⟨q, vm₁, ⟨U', l2, c2, s2⟩, hW₁, X', ⟨g', mk, t, L, E, ce, e1, e2, hq, hce, hcv, hcl, h1, hL, h2, h3⟩, st⟩
  · dsimp only [Pt.U, Pt.locs, Pt.cells, Pt.slots] at X' e1 e2 h1 h2 h3 st
    subst h1; subst h2; subst h3
    exact Or.inl ⟨v, (T.setVm vm₁).calling g' mk As.toArray, t, U', L, hT, X', hL, e1, e2, hq, st⟩
  · dsimp only [Pt.U, Pt.locs, Pt.cells, Pt.slots] at X' e1 e2 h1 h2 h3 st hcl
    subst h1; subst h2; subst h3
    exact Or.inr ⟨q, (T.setVm vm₁).calling g' mk As.toArray, t, U', L, E, ce, hT, X', hL, e1, e2, hq, hce, hcv, vx_cls hW₁ hcl, st⟩
end
end VXH
theorem vx_ofWH {l : Launch} {y : MethodName} {ws ws' : List Cond} {rm : Room} {Pc : Array Value → State → Prop} {Qc : Array Value → State → Outcome → State → Prop} {XC : String → State → State → Prop} {mc ms : Nat} {free : Addr → Prop} {cc : ByteArray} {maxL : Nat} {ret : Option FieldType} {hh : List (Nat × Nat × Nat × Nat)}
    (hy : plainName y.cls = true) (hw : ws = Cond.codeWith y cc maxL ret hh :: ws')
    (body : ∀ p e s m args below meth c s₁, BodyLoose p l y (headSpec ws rm) cc maxL ret e s m args below meth c s₁ → c.maxLocals = maxL → Pc args s →
      W p l e (headSpec ws rm).room s m args below meth c s.heap [] 0 0 (vx_MQ below Qc XC args s mc ms free) (entryFrame m args maxL)) : vx_Met l y ws rm Pc Qc XC mc ms free := by
  refine MetFree.of_bodyS (code := cc) (maxLocals := maxL) (ret := ret) hy ?_ ?_
  · intro args s m h hn
    obtain ⟨m9, meth, c, hn9, h1, h2, h3, h4, -, h5, h6, -⟩ := Cond.codeWith_spec (atoms_spec (ws := ws) h _ (by rw [hw]; exact List.mem_cons_self))
    cases hn.symm.trans hn9
    exact ⟨meth, c, h1, h2, h3, h4, h5, h6⟩
  · intro p e s m args below meth c s₁ B hml hP _
    have hh0 : s₁.heap = s.heap := by rw [B.state]; rfl
    obtain ⟨t, a1, o, b1, b2, b3⟩ := body p e s m args below meth c s₁ B hml hP s₁ hh0 (Stand.of_body B)
    exact ⟨t, o, a1, b1, b2, b3⟩
/-! ===== END ===== -/
end
section
def RX0 : String := "Icehighway$Load"
def TX0 : u_T := fun k => match k with
  | 0 => ("Icehighway$Load", "goods", "I", true)
  | 1 => ("Icehighway$Load", "kilos", "I", true)
  | _ => ("Icehighway$Load", "isBack", "Z", false)
def tyX0 : Nat → FieldType := fun k => match k with
  | 0 => .int
  | 1 => .int
  | _ => .boolean
abbrev wsX00 : List Cond := u_ws RX0 TX0 3
theorem nmX0 : ∀ a, a < 3 → ∀ b, b < 3 → a ≠ b → (TX0 a).2.1 ≠ (TX0 b).2.1 := by decide +kernel
theorem tyX0_ok : ∀ k, k < 3 → parseFieldDescriptor (TX0 k).2.2.1 = some (tyX0 k) := by decide +kernel
abbrev cX0_init : ByteArray := prog_2_method_1_code
def yX0_init : MethodName := ⟨RX0, "<init>", "(II)V"⟩
def RX1 : String := "Icehighway$Piece"
def TX1 : u_T := fun k => match k with
  | 0 => ("Icehighway$Piece", "kind", "I", true)
  | 1 => ("Icehighway$Piece", "metres", "I", true)
  | 2 => ("Icehighway$Piece", "depth", "I", true)
  | 3 => ("Icehighway$Piece", "black", "I", false)
  | 4 => ("Icehighway$Piece", "white", "I", false)
  | 5 => ("Icehighway$Piece", "water", "I", false)
  | 6 => ("Icehighway$Piece", "snow", "I", false)
  | 7 => ("Icehighway$Piece", "crack", "I", false)
  | 8 => ("Icehighway$Piece", "openness", "I", false)
  | 9 => ("Icehighway$Piece", "speedLimit", "I", false)
  | 10 => ("Icehighway$Piece", "known", "D", false)
  | 11 => ("Icehighway$Piece", "onToMine", "I", false)
  | 12 => ("Icehighway$Piece", "onToBase", "I", false)
  | 13 => ("Icehighway$Piece", "weightOn", "I", false)
  | 14 => ("Icehighway$Piece", "lastToMine", "I", false)
  | _ => ("Icehighway$Piece", "lastToBase", "I", false)
def tyX1 : Nat → FieldType := fun k => match k with
  | 0 => .int
  | 1 => .int
  | 2 => .int
  | 3 => .int
  | 4 => .int
  | 5 => .int
  | 6 => .int
  | 7 => .int
  | 8 => .int
  | 9 => .int
  | 10 => .double
  | 11 => .int
  | 12 => .int
  | 13 => .int
  | 14 => .int
  | _ => .int
abbrev wsX10 : List Cond := u_ws RX1 TX1 16
theorem nmX1 : ∀ a, a < 16 → ∀ b, b < 16 → a ≠ b → (TX1 a).2.1 ≠ (TX1 b).2.1 := by decide +kernel
theorem tyX1_ok : ∀ k, k < 16 → parseFieldDescriptor (TX1 k).2.2.1 = some (tyX1 k) := by decide +kernel
abbrev cX1_init : ByteArray := prog_3_method_1_code
def yX1_init : MethodName := ⟨RX1, "<init>", "(III)V"⟩
abbrev cX1_isWaterPiece : ByteArray := prog_3_method_2_code
def yX1_isWaterPiece : MethodName := ⟨RX1, "isWaterPiece", "()Z"⟩
abbrev cX1_hasIce : ByteArray := prog_3_method_3_code
def yX1_hasIce : MethodName := ⟨RX1, "hasIce", "()Z"⟩
abbrev cX1_realThickness : ByteArray := prog_3_method_4_code
def yX1_realThickness : MethodName := ⟨RX1, "realThickness", "()D"⟩
abbrev cX1_thicknessAs : ByteArray := prog_3_method_5_code
def yX1_thicknessAs : MethodName := ⟨RX1, "thicknessAs", "(Z)D"⟩
abbrev cX1_bearsAs : ByteArray := prog_3_method_6_code
def yX1_bearsAs : MethodName := ⟨RX1, "bearsAs", "(Z)I"⟩
abbrev cX1_freeze : ByteArray := prog_3_method_7_code
def yX1_freeze : MethodName := ⟨RX1, "freeze", "(I)V"⟩
abbrev cX1_growth : ByteArray := prog_3_method_8_code
def yX1_growth : MethodName := ⟨RX1, "growth", "(I)I"⟩
abbrev cX1_thaw : ByteArray := prog_3_method_9_code
def yX1_thaw : MethodName := ⟨RX1, "thaw", "(I)V"⟩
abbrev cX1_speedOf : ByteArray := prog_3_method_10_code
def yX1_speedOf : MethodName := ⟨RX1, "speedOf", "(LIcehighway$Vehicle;)I"⟩
abbrev cX1_minutesOf : ByteArray := prog_3_method_11_code
def yX1_minutesOf : MethodName := ⟨RX1, "minutesOf", "(LIcehighway$Vehicle;)I"⟩
abbrev cX1_countOn : ByteArray := prog_3_method_12_code
def yX1_countOn : MethodName := ⟨RX1, "countOn", "(Z)I"⟩
abbrev cX1_lastComing : ByteArray := prog_3_method_13_code
def yX1_lastComing : MethodName := ⟨RX1, "lastComing", "(Z)I"⟩
abbrev cX1_noteComing : ByteArray := prog_3_method_14_code
def yX1_noteComing : MethodName := ⟨RX1, "noteComing", "(ZI)V"⟩
abbrev cX1_takeOn : ByteArray := prog_3_method_15_code
def yX1_takeOn : MethodName := ⟨RX1, "takeOn", "(LIcehighway$Vehicle;)V"⟩
abbrev cX1_letOff : ByteArray := prog_3_method_16_code
def yX1_letOff : MethodName := ⟨RX1, "letOff", "(LIcehighway$Vehicle;)V"⟩
abbrev cX1_breakUp : ByteArray := prog_3_method_17_code
def yX1_breakUp : MethodName := ⟨RX1, "breakUp", "()V"⟩
def RX2 : String := "Icehighway$Vehicle"
def TX2 : u_T := fun k => match k with
  | 0 => ("Icehighway$Vehicle", "empty", "I", true)
  | 1 => ("Icehighway$Vehicle", "carries", "I", true)
  | 2 => ("Icehighway$Vehicle", "ownSpeed", "I", true)
  | 3 => ("Icehighway$Vehicle", "where", "I", false)
  | 4 => ("Icehighway$Vehicle", "between", "I", false)
  | 5 => ("Icehighway$Vehicle", "isToMine", "Z", false)
  | 6 => ("Icehighway$Vehicle", "overAt", "I", false)
  | _ => ("Icehighway$Vehicle", "cargo", "LIcehighway$Load;", false)
def tyX2 : Nat → FieldType := fun k => match k with
  | 0 => .int
  | 1 => .int
  | 2 => .int
  | 3 => .int
  | 4 => .int
  | 5 => .boolean
  | 6 => .int
  | _ => .object "Icehighway$Load"
abbrev wsX20 : List Cond := u_ws RX2 TX2 8
theorem nmX2 : ∀ a, a < 8 → ∀ b, b < 8 → a ≠ b → (TX2 a).2.1 ≠ (TX2 b).2.1 := by decide +kernel
theorem tyX2_ok : ∀ k, k < 8 → parseFieldDescriptor (TX2 k).2.2.1 = some (tyX2 k) := by decide +kernel
abbrev cX2_init : ByteArray := prog_4_method_1_code
def yX2_init : MethodName := ⟨RX2, "<init>", "(III)V"⟩
abbrev cX2_weight : ByteArray := prog_4_method_2_code
def yX2_weight : MethodName := ⟨RX2, "weight", "()I"⟩
def RX3 : String := "Icehighway"
def TX3 : u_T := fun k => match k with
  | 0 => ("Icehighway", "pieces", "Ljava/util/List;", true)
  | 1 => ("Icehighway", "vehicles", "Ljava/util/List;", true)
  | 2 => ("Icehighway", "entered", "Ljava/util/List;", true)
  | 3 => ("Icehighway", "taken", "[I", true)
  | 4 => ("Icehighway", "brought", "[I", true)
  | 5 => ("Icehighway", "ordered", "[I", true)
  | 6 => ("Icehighway", "now", "I", false)
  | 7 => ("Icehighway", "cold", "I", false)
  | _ => ("Icehighway", "gapMinutes", "I", false)
def tyX3 : Nat → FieldType := fun k => match k with
  | 0 => .object "java/util/List"
  | 1 => .object "java/util/List"
  | 2 => .object "java/util/List"
  | 3 => .array .int
  | 4 => .array .int
  | 5 => .array .int
  | 6 => .int
  | 7 => .int
  | _ => .int
abbrev wsX30 : List Cond := u_ws RX3 TX3 9
theorem nmX3 : ∀ a, a < 9 → ∀ b, b < 9 → a ≠ b → (TX3 a).2.1 ≠ (TX3 b).2.1 := by decide +kernel
theorem tyX3_ok : ∀ k, k < 9 → parseFieldDescriptor (TX3 k).2.2.1 = some (tyX3 k) := by decide +kernel
abbrev cX3_init : ByteArray := prog_1_method_1_code
def yX3_init : MethodName := ⟨RX3, "<init>", "()V"⟩
abbrev cX3_piece : ByteArray := prog_1_method_2_code
def yX3_piece : MethodName := ⟨RX3, "piece", "(III)I"⟩
abbrev cX3_weather : ByteArray := prog_1_method_3_code
def yX3_weather : MethodName := ⟨RX3, "weather", "(I)I"⟩
abbrev cX3_snow : ByteArray := prog_1_method_4_code
def yX3_snow : MethodName := ⟨RX3, "snow", "(I)I"⟩
abbrev cX3_plough : ByteArray := prog_1_method_5_code
def yX3_plough : MethodName := ⟨RX3, "plough", "(I)I"⟩
abbrev cX3_flood : ByteArray := prog_1_method_6_code
def yX3_flood : MethodName := ⟨RX3, "flood", "(II)I"⟩
abbrev cX3_drill : ByteArray := prog_1_method_7_code
def yX3_drill : MethodName := ⟨RX3, "drill", "(I)D"⟩
abbrev cX3_open : ByteArray := prog_1_method_8_code
def yX3_open : MethodName := ⟨RX3, "open", "(II)I"⟩
abbrev cX3_limit : ByteArray := prog_1_method_9_code
def yX3_limit : MethodName := ⟨RX3, "limit", "(II)I"⟩
abbrev cX3_gap : ByteArray := prog_1_method_10_code
def yX3_gap : MethodName := ⟨RX3, "gap", "(I)I"⟩
abbrev cX3_vehicle : ByteArray := prog_1_method_11_code
def yX3_vehicle : MethodName := ⟨RX3, "vehicle", "(III)I"⟩
abbrev cX3_load : ByteArray := prog_1_method_12_code
def yX3_load : MethodName := ⟨RX3, "load", "(III)I"⟩
abbrev cX3_go : ByteArray := prog_1_method_13_code
def yX3_go : MethodName := ⟨RX3, "go", "(I)Z"⟩
abbrev cX3_turn : ByteArray := prog_1_method_14_code
def yX3_turn : MethodName := ⟨RX3, "turn", "(I)Z"⟩
abbrev cX3_order : ByteArray := prog_1_method_15_code
def yX3_order : MethodName := ⟨RX3, "order", "(II)I"⟩
abbrev cX3_pass : ByteArray := prog_1_method_16_code
def yX3_pass : MethodName := ⟨RX3, "pass", "(I)I"⟩
abbrev cX3_minute : ByteArray := prog_1_method_17_code
def yX3_minute : MethodName := ⟨RX3, "minute", "()I"⟩
abbrev cX3_told : ByteArray := prog_1_method_18_code
def yX3_told : MethodName := ⟨RX3, "told", "(II)I"⟩
abbrev cX3_thickness : ByteArray := prog_1_method_19_code
def yX3_thickness : MethodName := ⟨RX3, "thickness", "(IZ)D"⟩
abbrev cX3_bears : ByteArray := prog_1_method_20_code
def yX3_bears : MethodName := ⟨RX3, "bears", "(IZ)I"⟩
abbrev cX3_ofVehicle : ByteArray := prog_1_method_21_code
def yX3_ofVehicle : MethodName := ⟨RX3, "ofVehicle", "(II)I"⟩
abbrev cX3_why : ByteArray := prog_1_method_22_code
def yX3_why : MethodName := ⟨RX3, "why", "(I)I"⟩
abbrev cX3_speed : ByteArray := prog_1_method_23_code
def yX3_speed : MethodName := ⟨RX3, "speed", "(II)I"⟩
abbrev cX3_minutes : ByteArray := prog_1_method_24_code
def yX3_minutes : MethodName := ⟨RX3, "minutes", "(II)I"⟩
abbrev cX3_minutesAnew : ByteArray := prog_1_method_25_code
def yX3_minutesAnew : MethodName := ⟨RX3, "minutesAnew", "(II)I"⟩
abbrev cX3_kilos : ByteArray := prog_1_method_26_code
def yX3_kilos : MethodName := ⟨RX3, "kilos", "(II)I"⟩
abbrev cX3_kilosAnew : ByteArray := prog_1_method_27_code
def yX3_kilosAnew : MethodName := ⟨RX3, "kilosAnew", "(I)I"⟩
abbrev cX3_bill : ByteArray := prog_1_method_28_code
def yX3_bill : MethodName := ⟨RX3, "bill", "()J"⟩
abbrev cX3_needRange : ByteArray := prog_1_method_29_code
def yX3_needRange : MethodName := ⟨RX3, "needRange", "(III)V"⟩
abbrev cX3_needGoods : ByteArray := prog_1_method_30_code
def yX3_needGoods : MethodName := ⟨RX3, "needGoods", "(I)V"⟩
abbrev cX3_pieceNumbered : ByteArray := prog_1_method_31_code
def yX3_pieceNumbered : MethodName := ⟨RX3, "pieceNumbered", "(I)LIcehighway$Piece;"⟩
abbrev cX3_vehicleNumbered : ByteArray := prog_1_method_32_code
def yX3_vehicleNumbered : MethodName := ⟨RX3, "vehicleNumbered", "(I)LIcehighway$Vehicle;"⟩
abbrev cX3_kilosInVehicles : ByteArray := prog_1_method_33_code
def yX3_kilosInVehicles : MethodName := ⟨RX3, "kilosInVehicles", "(IZ)I"⟩
abbrev cX3_kilosMissing : ByteArray := prog_1_method_34_code
def yX3_kilosMissing : MethodName := ⟨RX3, "kilosMissing", "(I)I"⟩
abbrev cX3_unload : ByteArray := prog_1_method_35_code
def yX3_unload : MethodName := ⟨RX3, "unload", "(LIcehighway$Vehicle;)V"⟩
abbrev cX3_passOneMinute : ByteArray := prog_1_method_36_code
def yX3_passOneMinute : MethodName := ⟨RX3, "passOneMinute", "()V"⟩
abbrev cX3_endDay : ByteArray := prog_1_method_37_code
def yX3_endDay : MethodName := ⟨RX3, "endDay", "()V"⟩
abbrev cX3_moveOn : ByteArray := prog_1_method_38_code
def yX3_moveOn : MethodName := ⟨RX3, "moveOn", "(LIcehighway$Vehicle;)V"⟩
abbrev cX3_leave : ByteArray := prog_1_method_39_code
def yX3_leave : MethodName := ⟨RX3, "leave", "(LIcehighway$Vehicle;)V"⟩
abbrev cX3_stopAtEnd : ByteArray := prog_1_method_40_code
def yX3_stopAtEnd : MethodName := ⟨RX3, "stopAtEnd", "(LIcehighway$Vehicle;)V"⟩
abbrev cX3_comeOnto : ByteArray := prog_1_method_41_code
def yX3_comeOnto : MethodName := ⟨RX3, "comeOnto", "(LIcehighway$Vehicle;)V"⟩
abbrev cX3_pieceAhead : ByteArray := prog_1_method_42_code
def yX3_pieceAhead : MethodName := ⟨RX3, "pieceAhead", "(LIcehighway$Vehicle;)LIcehighway$Piece;"⟩
abbrev cX3_whatIsAgainst : ByteArray := prog_1_method_43_code
def yX3_whatIsAgainst : MethodName := ⟨RX3, "whatIsAgainst", "(LIcehighway$Vehicle;)I"⟩
def RX4 : String := "IcehighwayModel"
def TX4 : u_T := fun k => match k with
  | 0 => ("IcehighwayModel", "minute", "I", false)
  | 1 => ("IcehighwayModel", "cold", "I", false)
  | 2 => ("IcehighwayModel", "gap", "I", false)
  | 3 => ("IcehighwayModel", "pieces", "I", false)
  | 4 => ("IcehighwayModel", "kind", "[I", true)
  | 5 => ("IcehighwayModel", "metres", "[I", true)
  | 6 => ("IcehighwayModel", "depth", "[I", true)
  | 7 => ("IcehighwayModel", "black", "[I", true)
  | 8 => ("IcehighwayModel", "white", "[I", true)
  | 9 => ("IcehighwayModel", "water", "[I", true)
  | 10 => ("IcehighwayModel", "snow", "[I", true)
  | 11 => ("IcehighwayModel", "crack", "[I", true)
  | 12 => ("IcehighwayModel", "open", "[I", true)
  | 13 => ("IcehighwayModel", "limit", "[I", true)
  | 14 => ("IcehighwayModel", "known", "[D", true)
  | 15 => ("IcehighwayModel", "came", "[I", true)
  | 16 => ("IcehighwayModel", "vehicles", "I", false)
  | 17 => ("IcehighwayModel", "empty", "[I", true)
  | 18 => ("IcehighwayModel", "carries", "[I", true)
  | 19 => ("IcehighwayModel", "fast", "[I", true)
  | 20 => ("IcehighwayModel", "where", "[I", true)
  | 21 => ("IcehighwayModel", "at", "[I", true)
  | 22 => ("IcehighwayModel", "toMine", "[Z", true)
  | 23 => ("IcehighwayModel", "over", "[I", true)
  | 24 => ("IcehighwayModel", "load", "[I", true)
  | 25 => ("IcehighwayModel", "goods", "[I", true)
  | 26 => ("IcehighwayModel", "taken", "[I", true)
  | 27 => ("IcehighwayModel", "brought", "[I", true)
  | 28 => ("IcehighwayModel", "ordered", "[I", true)
  | _ => ("IcehighwayModel", "thrown", "I", false)
def tyX4 : Nat → FieldType := fun k => match k with
  | 0 => .int
  | 1 => .int
  | 2 => .int
  | 3 => .int
  | 4 => .array .int
  | 5 => .array .int
  | 6 => .array .int
  | 7 => .array .int
  | 8 => .array .int
  | 9 => .array .int
  | 10 => .array .int
  | 11 => .array .int
  | 12 => .array .int
  | 13 => .array .int
  | 14 => .array .double
  | 15 => .array .int
  | 16 => .int
  | 17 => .array .int
  | 18 => .array .int
  | 19 => .array .int
  | 20 => .array .int
  | 21 => .array .int
  | 22 => .array .boolean
  | 23 => .array .int
  | 24 => .array .int
  | 25 => .array .int
  | 26 => .array .int
  | 27 => .array .int
  | 28 => .array .int
  | _ => .int
abbrev wsX40 : List Cond := u_ws RX4 TX4 30
theorem nmX4 : ∀ a, a < 30 → ∀ b, b < 30 → a ≠ b → (TX4 a).2.1 ≠ (TX4 b).2.1 := by decide +kernel
theorem tyX4_ok : ∀ k, k < 30 → parseFieldDescriptor (TX4 k).2.2.1 = some (tyX4 k) := by decide +kernel
abbrev cX4_init : ByteArray := prog_6_method_1_code
def yX4_init : MethodName := ⟨RX4, "<init>", "()V"⟩
abbrev cX4_thrown : ByteArray := prog_6_method_2_code
def yX4_thrown : MethodName := ⟨RX4, "thrown", "()I"⟩
abbrev cX4_fails : ByteArray := prog_6_method_3_code
def yX4_fails : MethodName := ⟨RX4, "fails", "(I)Z"⟩
abbrev cX4_isIn : ByteArray := prog_6_method_4_code
def yX4_isIn : MethodName := ⟨RX4, "isIn", "(III)Z"⟩
abbrev cX4_isPiece : ByteArray := prog_6_method_5_code
def yX4_isPiece : MethodName := ⟨RX4, "isPiece", "(I)Z"⟩
abbrev cX4_isVehicle : ByteArray := prog_6_method_6_code
def yX4_isVehicle : MethodName := ⟨RX4, "isVehicle", "(I)Z"⟩
abbrev cX4_isGoods : ByteArray := prog_6_method_7_code
def yX4_isGoods : MethodName := ⟨RX4, "isGoods", "(I)Z"⟩
abbrev cX4_isWater : ByteArray := prog_6_method_8_code
def yX4_isWater : MethodName := ⟨RX4, "isWater", "(I)Z"⟩
abbrev cX4_piece : ByteArray := prog_6_method_9_code
def yX4_piece : MethodName := ⟨RX4, "piece", "(III)I"⟩
abbrev cX4_weather : ByteArray := prog_6_method_10_code
def yX4_weather : MethodName := ⟨RX4, "weather", "(I)I"⟩
abbrev cX4_snow : ByteArray := prog_6_method_11_code
def yX4_snow : MethodName := ⟨RX4, "snow", "(I)I"⟩
abbrev cX4_plough : ByteArray := prog_6_method_12_code
def yX4_plough : MethodName := ⟨RX4, "plough", "(I)I"⟩
abbrev cX4_flood : ByteArray := prog_6_method_13_code
def yX4_flood : MethodName := ⟨RX4, "flood", "(II)I"⟩
abbrev cX4_thick : ByteArray := prog_6_method_14_code
def yX4_thick : MethodName := ⟨RX4, "thick", "(I)D"⟩
abbrev cX4_drill : ByteArray := prog_6_method_15_code
def yX4_drill : MethodName := ⟨RX4, "drill", "(I)D"⟩
abbrev cX4_open : ByteArray := prog_6_method_16_code
def yX4_open : MethodName := ⟨RX4, "open", "(II)I"⟩
abbrev cX4_limit : ByteArray := prog_6_method_17_code
def yX4_limit : MethodName := ⟨RX4, "limit", "(II)I"⟩
abbrev cX4_gap : ByteArray := prog_6_method_18_code
def yX4_gap : MethodName := ⟨RX4, "gap", "(I)I"⟩
abbrev cX4_vehicle : ByteArray := prog_6_method_19_code
def yX4_vehicle : MethodName := ⟨RX4, "vehicle", "(III)I"⟩
abbrev cX4_weight : ByteArray := prog_6_method_20_code
def yX4_weight : MethodName := ⟨RX4, "weight", "(I)I"⟩
abbrev cX4_load : ByteArray := prog_6_method_21_code
def yX4_load : MethodName := ⟨RX4, "load", "(III)I"⟩
abbrev cX4_unloads : ByteArray := prog_6_method_22_code
def yX4_unloads : MethodName := ⟨RX4, "unloads", "(IZ)V"⟩
abbrev cX4_go : ByteArray := prog_6_method_23_code
def yX4_go : MethodName := ⟨RX4, "go", "(I)Z"⟩
abbrev cX4_isThere : ByteArray := prog_6_method_24_code
def yX4_isThere : MethodName := ⟨RX4, "isThere", "(I)Z"⟩
abbrev cX4_arrives : ByteArray := prog_6_method_25_code
def yX4_arrives : MethodName := ⟨RX4, "arrives", "(I)V"⟩
abbrev cX4_turn : ByteArray := prog_6_method_26_code
def yX4_turn : MethodName := ⟨RX4, "turn", "(I)Z"⟩
abbrev cX4_order : ByteArray := prog_6_method_27_code
def yX4_order : MethodName := ⟨RX4, "order", "(II)I"⟩
abbrev cX4_freezes : ByteArray := prog_6_method_28_code
def yX4_freezes : MethodName := ⟨RX4, "freezes", "(I)V"⟩
abbrev cX4_thaws : ByteArray := prog_6_method_29_code
def yX4_thaws : MethodName := ⟨RX4, "thaws", "(I)V"⟩
abbrev cX4_ends : ByteArray := prog_6_method_30_code
def yX4_ends : MethodName := ⟨RX4, "ends", "()V"⟩
abbrev cX4_bearsBy : ByteArray := prog_6_method_31_code
def yX4_bearsBy : MethodName := ⟨RX4, "bearsBy", "(ID)I"⟩
abbrev cX4_speedOn : ByteArray := prog_6_method_32_code
def yX4_speedOn : MethodName := ⟨RX4, "speedOn", "(II)I"⟩
abbrev cX4_minutesOn : ByteArray := prog_6_method_33_code
def yX4_minutesOn : MethodName := ⟨RX4, "minutesOn", "(II)I"⟩
abbrev cX4_weights : ByteArray := prog_6_method_34_code
def yX4_weights : MethodName := ⟨RX4, "weights", "(I)I"⟩
abbrev cX4_isMet : ByteArray := prog_6_method_35_code
def yX4_isMet : MethodName := ⟨RX4, "isMet", "(II)Z"⟩
abbrev cX4_nextPiece : ByteArray := prog_6_method_36_code
def yX4_nextPiece : MethodName := ⟨RX4, "nextPiece", "(I)I"⟩
abbrev cX4_against : ByteArray := prog_6_method_37_code
def yX4_against : MethodName := ⟨RX4, "against", "(I)I"⟩
abbrev cX4_leaves : ByteArray := prog_6_method_38_code
def yX4_leaves : MethodName := ⟨RX4, "leaves", "(I)V"⟩
abbrev cX4_comes : ByteArray := prog_6_method_39_code
def yX4_comes : MethodName := ⟨RX4, "comes", "(I)V"⟩
abbrev cX4_passes : ByteArray := prog_6_method_40_code
def yX4_passes : MethodName := ⟨RX4, "passes", "()V"⟩
abbrev cX4_pass : ByteArray := prog_6_method_41_code
def yX4_pass : MethodName := ⟨RX4, "pass", "(I)I"⟩
abbrev cX4_minute : ByteArray := prog_6_method_42_code
def yX4_minute : MethodName := ⟨RX4, "minute", "()I"⟩
abbrev cX4_told : ByteArray := prog_6_method_43_code
def yX4_told : MethodName := ⟨RX4, "told", "(II)I"⟩
abbrev cX4_many : ByteArray := prog_6_method_44_code
def yX4_many : MethodName := ⟨RX4, "many", "(I)I"⟩
abbrev cX4_thickness : ByteArray := prog_6_method_45_code
def yX4_thickness : MethodName := ⟨RX4, "thickness", "(IZ)D"⟩
abbrev cX4_bears : ByteArray := prog_6_method_46_code
def yX4_bears : MethodName := ⟨RX4, "bears", "(IZ)I"⟩
abbrev cX4_ofVehicle : ByteArray := prog_6_method_47_code
def yX4_ofVehicle : MethodName := ⟨RX4, "ofVehicle", "(II)I"⟩
abbrev cX4_why : ByteArray := prog_6_method_48_code
def yX4_why : MethodName := ⟨RX4, "why", "(I)I"⟩
abbrev cX4_speed : ByteArray := prog_6_method_49_code
def yX4_speed : MethodName := ⟨RX4, "speed", "(II)I"⟩
abbrev cX4_minutes : ByteArray := prog_6_method_50_code
def yX4_minutes : MethodName := ⟨RX4, "minutes", "(II)I"⟩
abbrev cX4_minutesAnew : ByteArray := prog_6_method_51_code
def yX4_minutesAnew : MethodName := ⟨RX4, "minutesAnew", "(II)I"⟩
abbrev cX4_carried : ByteArray := prog_6_method_52_code
def yX4_carried : MethodName := ⟨RX4, "carried", "(IZ)I"⟩
abbrev cX4_missing : ByteArray := prog_6_method_53_code
def yX4_missing : MethodName := ⟨RX4, "missing", "(I)I"⟩
abbrev cX4_kilos : ByteArray := prog_6_method_54_code
def yX4_kilos : MethodName := ⟨RX4, "kilos", "(II)I"⟩
abbrev cX4_kilosAnew : ByteArray := prog_6_method_55_code
def yX4_kilosAnew : MethodName := ⟨RX4, "kilosAnew", "(I)I"⟩
abbrev cX4_bill : ByteArray := prog_6_method_56_code
def yX4_bill : MethodName := ⟨RX4, "bill", "()J"⟩
def RJx145de : String := "java/io/Serializable"
def TJx145de : u_T := fun k => match k with
  | _ => ("", "", "", false)
def tyJx145de : Nat → FieldType := fun k => match k with
  | _ => .int
abbrev wsJx145de0 : List Cond := u_ws RJx145de TJx145de 0
theorem nmJx145de : ∀ a, a < 0 → ∀ b, b < 0 → a ≠ b → (TJx145de a).2.1 ≠ (TJx145de b).2.1 := by decide +kernel
theorem tyJx145de_ok : ∀ k, k < 0 → parseFieldDescriptor (TJx145de k).2.2.1 = some (tyJx145de k) := by decide +kernel
def RJx8e188 : String := "java/lang/Cloneable"
def TJx8e188 : u_T := fun k => match k with
  | _ => ("", "", "", false)
def tyJx8e188 : Nat → FieldType := fun k => match k with
  | _ => .int
abbrev wsJx8e1880 : List Cond := u_ws RJx8e188 TJx8e188 0
theorem nmJx8e188 : ∀ a, a < 0 → ∀ b, b < 0 → a ≠ b → (TJx8e188 a).2.1 ≠ (TJx8e188 b).2.1 := by decide +kernel
theorem tyJx8e188_ok : ∀ k, k < 0 → parseFieldDescriptor (TJx8e188 k).2.2.1 = some (tyJx8e188 k) := by decide +kernel
def RJxab1ab : String := "java/lang/Iterable"
def TJxab1ab : u_T := fun k => match k with
  | _ => ("", "", "", false)
def tyJxab1ab : Nat → FieldType := fun k => match k with
  | _ => .int
abbrev wsJxab1ab0 : List Cond := u_ws RJxab1ab TJxab1ab 0
theorem nmJxab1ab : ∀ a, a < 0 → ∀ b, b < 0 → a ≠ b → (TJxab1ab a).2.1 ≠ (TJxab1ab b).2.1 := by decide +kernel
theorem tyJxab1ab_ok : ∀ k, k < 0 → parseFieldDescriptor (TJxab1ab k).2.2.1 = some (tyJxab1ab k) := by decide +kernel
def RJ9 : String := "java/lang/Math"
def TJ9 : u_T := fun k => match k with
  | _ => ("", "", "", false)
def tyJ9 : Nat → FieldType := fun k => match k with
  | _ => .int
abbrev wsJ90 : List Cond := u_ws RJ9 TJ9 0
theorem nmJ9 : ∀ a, a < 0 → ∀ b, b < 0 → a ≠ b → (TJ9 a).2.1 ≠ (TJ9 b).2.1 := by decide +kernel
theorem tyJ9_ok : ∀ k, k < 0 → parseFieldDescriptor (TJ9 k).2.2.1 = some (tyJ9 k) := by decide +kernel
abbrev cJ9_max_7cf53 : ByteArray := prog_14_method_65_code
def yJ9_max_7cf53 : MethodName := ⟨RJ9, "max", "(II)I"⟩
abbrev cJ9_min_7cf53 : ByteArray := prog_14_method_69_code
def yJ9_min_7cf53 : MethodName := ⟨RJ9, "min", "(II)I"⟩
def RJ0 : String := "java/lang/String"
def TJ0 : u_T := fun k => match k with
  | _ => ("", "", "", false)
def tyJ0 : Nat → FieldType := fun k => match k with
  | _ => .int
abbrev wsJ00 : List Cond := u_ws RJ0 TJ0 0
theorem nmJ0 : ∀ a, a < 0 → ∀ b, b < 0 → a ≠ b → (TJ0 a).2.1 ≠ (TJ0 b).2.1 := by decide +kernel
theorem tyJ0_ok : ∀ k, k < 0 → parseFieldDescriptor (TJ0 k).2.2.1 = some (tyJ0 k) := by decide +kernel
def RJ10 : String := "java/lang/System"
def TJ10 : u_T := fun k => match k with
  | _ => ("", "", "", false)
def tyJ10 : Nat → FieldType := fun k => match k with
  | _ => .int
abbrev wsJ100 : List Cond := u_ws RJ10 TJ10 0
theorem nmJ10 : ∀ a, a < 0 → ∀ b, b < 0 → a ≠ b → (TJ10 a).2.1 ≠ (TJ10 b).2.1 := by decide +kernel
theorem tyJ10_ok : ∀ k, k < 0 → parseFieldDescriptor (TJ10 k).2.2.1 = some (tyJ10 k) := by decide +kernel
def RJxa1e45 : String := "java/util/AbstractCollection"
def TJxa1e45 : u_T := fun k => match k with
  | _ => ("", "", "", false)
def tyJxa1e45 : Nat → FieldType := fun k => match k with
  | _ => .int
abbrev wsJxa1e450 : List Cond := u_ws RJxa1e45 TJxa1e45 0
theorem nmJxa1e45 : ∀ a, a < 0 → ∀ b, b < 0 → a ≠ b → (TJxa1e45 a).2.1 ≠ (TJxa1e45 b).2.1 := by decide +kernel
theorem tyJxa1e45_ok : ∀ k, k < 0 → parseFieldDescriptor (TJxa1e45 k).2.2.1 = some (tyJxa1e45 k) := by decide +kernel
abbrev cJxa1e45_init_da8c8 : ByteArray := prog_19_method_1_code
def yJxa1e45_init_da8c8 : MethodName := ⟨RJxa1e45, "<init>", "()V"⟩
def RJxc12de : String := "java/util/AbstractList"
def TJxc12de : u_T := fun k => match k with
  | _ => ("", "", "", false)
def tyJxc12de : Nat → FieldType := fun k => match k with
  | _ => .int
abbrev wsJxc12de0 : List Cond := u_ws RJxc12de TJxc12de 0
theorem nmJxc12de : ∀ a, a < 0 → ∀ b, b < 0 → a ≠ b → (TJxc12de a).2.1 ≠ (TJxc12de b).2.1 := by decide +kernel
theorem tyJxc12de_ok : ∀ k, k < 0 → parseFieldDescriptor (TJxc12de k).2.2.1 = some (tyJxc12de k) := by decide +kernel
abbrev cJxc12de_init_da8c8 : ByteArray := prog_20_method_1_code
def yJxc12de_init_da8c8 : MethodName := ⟨RJxc12de, "<init>", "()V"⟩
def RJx4a65c : String := "java/util/ArrayList"
def TJx4a65c : u_T := fun k => match k with
  | 0 => ("java/util/AbstractList", "modCount", "I", false)
  | 1 => ("java/util/ArrayList", "elementData", "[Ljava/lang/Object;", false)
  | _ => ("java/util/ArrayList", "size", "I", false)
def tyJx4a65c : Nat → FieldType := fun k => match k with
  | 0 => .int
  | 1 => .array (.object "java/lang/Object")
  | _ => .int
abbrev wsJx4a65c0 : List Cond := u_ws RJx4a65c TJx4a65c 3
theorem nmJx4a65c : ∀ a, a < 3 → ∀ b, b < 3 → a ≠ b → (TJx4a65c a).2.1 ≠ (TJx4a65c b).2.1 := by decide +kernel
theorem tyJx4a65c_ok : ∀ k, k < 3 → parseFieldDescriptor (TJx4a65c k).2.2.1 = some (tyJx4a65c k) := by decide +kernel
abbrev cJx4a65c_init_da8c8 : ByteArray := prog_21_method_2_code
def yJx4a65c_init_da8c8 : MethodName := ⟨RJx4a65c, "<init>", "()V"⟩
abbrev cJx4a65c_grow_92f84 : ByteArray := prog_21_method_6_code
def yJx4a65c_grow_92f84 : MethodName := ⟨RJx4a65c, "grow", "(I)[Ljava/lang/Object;"⟩
abbrev cJx4a65c_grow_d5877 : ByteArray := prog_21_method_7_code
def yJx4a65c_grow_d5877 : MethodName := ⟨RJx4a65c, "grow", "()[Ljava/lang/Object;"⟩
abbrev cJx4a65c_size_8abf5 : ByteArray := prog_21_method_8_code
def yJx4a65c_size_8abf5 : MethodName := ⟨RJx4a65c, "size", "()I"⟩
abbrev cJx4a65c_isEmpty_aae02 : ByteArray := prog_21_method_9_code
def yJx4a65c_isEmpty_aae02 : MethodName := ⟨RJx4a65c, "isEmpty", "()Z"⟩
abbrev cJx4a65c_elementData_915e3 : ByteArray := prog_21_method_18_code
def yJx4a65c_elementData_915e3 : MethodName := ⟨RJx4a65c, "elementData", "(I)Ljava/lang/Object;"⟩
abbrev cJx4a65c_get_915e3 : ByteArray := prog_21_method_20_code
def yJx4a65c_get_915e3 : MethodName := ⟨RJx4a65c, "get", "(I)Ljava/lang/Object;"⟩
abbrev cJx4a65c_add_72be8 : ByteArray := prog_21_method_24_code
def yJx4a65c_add_72be8 : MethodName := ⟨RJx4a65c, "add", "(Ljava/lang/Object;[Ljava/lang/Object;I)V"⟩
abbrev cJx4a65c_add_9ea2d : ByteArray := prog_21_method_25_code
def yJx4a65c_add_9ea2d : MethodName := ⟨RJx4a65c, "add", "(Ljava/lang/Object;)Z"⟩
def RJ7 : String := "java/util/Arrays"
def TJ7 : u_T := fun k => match k with
  | _ => ("", "", "", false)
def tyJ7 : Nat → FieldType := fun k => match k with
  | _ => .int
abbrev wsJ70 : List Cond := u_ws RJ7 TJ7 0
theorem nmJ7 : ∀ a, a < 0 → ∀ b, b < 0 → a ≠ b → (TJ7 a).2.1 ≠ (TJ7 b).2.1 := by decide +kernel
theorem tyJ7_ok : ∀ k, k < 0 → parseFieldDescriptor (TJ7 k).2.2.1 = some (tyJ7 k) := by decide +kernel
abbrev cJ7_copyOf_1904c : ByteArray := prog_22_method_119_code
def yJ7_copyOf_1904c : MethodName := ⟨RJ7, "copyOf", "([Ljava/lang/Object;I)[Ljava/lang/Object;"⟩
abbrev cJ7_copyOf_6403c : ByteArray := prog_22_method_120_code
def yJ7_copyOf_6403c : MethodName := ⟨RJ7, "copyOf", "([Ljava/lang/Object;ILjava/lang/Class;)[Ljava/lang/Object;"⟩
def RJx5ef63 : String := "java/util/Collection"
def TJx5ef63 : u_T := fun k => match k with
  | _ => ("", "", "", false)
def tyJx5ef63 : Nat → FieldType := fun k => match k with
  | _ => .int
abbrev wsJx5ef630 : List Cond := u_ws RJx5ef63 TJx5ef63 0
theorem nmJx5ef63 : ∀ a, a < 0 → ∀ b, b < 0 → a ≠ b → (TJx5ef63 a).2.1 ≠ (TJx5ef63 b).2.1 := by decide +kernel
theorem tyJx5ef63_ok : ∀ k, k < 0 → parseFieldDescriptor (TJx5ef63 k).2.2.1 = some (tyJx5ef63 k) := by decide +kernel
def RJxbd725 : String := "java/util/List"
def TJxbd725 : u_T := fun k => match k with
  | _ => ("", "", "", false)
def tyJxbd725 : Nat → FieldType := fun k => match k with
  | _ => .int
abbrev wsJxbd7250 : List Cond := u_ws RJxbd725 TJxbd725 0
theorem nmJxbd725 : ∀ a, a < 0 → ∀ b, b < 0 → a ≠ b → (TJxbd725 a).2.1 ≠ (TJxbd725 b).2.1 := by decide +kernel
theorem tyJxbd725_ok : ∀ k, k < 0 → parseFieldDescriptor (TJxbd725 k).2.2.1 = some (tyJxbd725 k) := by decide +kernel
def RJ15 : String := "java/util/Objects"
def TJ15 : u_T := fun k => match k with
  | _ => ("", "", "", false)
def tyJ15 : Nat → FieldType := fun k => match k with
  | _ => .int
abbrev wsJ150 : List Cond := u_ws RJ15 TJ15 0
theorem nmJ15 : ∀ a, a < 0 → ∀ b, b < 0 → a ≠ b → (TJ15 a).2.1 ≠ (TJ15 b).2.1 := by decide +kernel
theorem tyJ15_ok : ∀ k, k < 0 → parseFieldDescriptor (TJ15 k).2.2.1 = some (tyJ15 k) := by decide +kernel
abbrev cJ15_checkIndex_7cf53 : ByteArray := prog_25_method_17_code
def yJ15_checkIndex_7cf53 : MethodName := ⟨RJ15, "checkIndex", "(II)I"⟩
def RJxf0a74 : String := "java/util/RandomAccess"
def TJxf0a74 : u_T := fun k => match k with
  | _ => ("", "", "", false)
def tyJxf0a74 : Nat → FieldType := fun k => match k with
  | _ => .int
abbrev wsJxf0a740 : List Cond := u_ws RJxf0a74 TJxf0a74 0
theorem nmJxf0a74 : ∀ a, a < 0 → ∀ b, b < 0 → a ≠ b → (TJxf0a74 a).2.1 ≠ (TJxf0a74 b).2.1 := by decide +kernel
theorem tyJxf0a74_ok : ∀ k, k < 0 → parseFieldDescriptor (TJxf0a74 k).2.2.1 = some (tyJxf0a74 k) := by decide +kernel
def RJxa66e6 : String := "java/util/SequencedCollection"
def TJxa66e6 : u_T := fun k => match k with
  | _ => ("", "", "", false)
def tyJxa66e6 : Nat → FieldType := fun k => match k with
  | _ => .int
abbrev wsJxa66e60 : List Cond := u_ws RJxa66e6 TJxa66e6 0
theorem nmJxa66e6 : ∀ a, a < 0 → ∀ b, b < 0 → a ≠ b → (TJxa66e6 a).2.1 ≠ (TJxa66e6 b).2.1 := by decide +kernel
theorem tyJxa66e6_ok : ∀ k, k < 0 → parseFieldDescriptor (TJxa66e6 k).2.2.1 = some (tyJxa66e6 k) := by decide +kernel
def RJ8 : String := "jdk/internal/util/ArraysSupport"
def TJ8 : u_T := fun k => match k with
  | _ => ("", "", "", false)
def tyJ8 : Nat → FieldType := fun k => match k with
  | _ => .int
abbrev wsJ80 : List Cond := u_ws RJ8 TJ8 0
theorem nmJ8 : ∀ a, a < 0 → ∀ b, b < 0 → a ≠ b → (TJ8 a).2.1 ≠ (TJ8 b).2.1 := by decide +kernel
theorem tyJ8_ok : ∀ k, k < 0 → parseFieldDescriptor (TJ8 k).2.2.1 = some (tyJ8 k) := by decide +kernel
abbrev cJ8_newLength_cabcc : ByteArray := prog_28_method_27_code
def yJ8_newLength_cabcc : MethodName := ⟨RJ8, "newLength", "(III)I"⟩
abbrev cJ8_hugeLength_7cf53 : ByteArray := prog_28_method_28_code
def yJ8_hugeLength_7cf53 : MethodName := ⟨RJ8, "hugeLength", "(II)I"⟩
def RJ3 : String := "jdk/internal/util/Preconditions"
def TJ3 : u_T := fun k => match k with
  | _ => ("", "", "", false)
def tyJ3 : Nat → FieldType := fun k => match k with
  | _ => .int
abbrev wsJ30 : List Cond := u_ws RJ3 TJ3 0
theorem nmJ3 : ∀ a, a < 0 → ∀ b, b < 0 → a ≠ b → (TJ3 a).2.1 ≠ (TJ3 b).2.1 := by decide +kernel
theorem tyJ3_ok : ∀ k, k < 0 → parseFieldDescriptor (TJ3 k).2.2.1 = some (tyJ3 k) := by decide +kernel
abbrev cJ3_checkIndex_8e157 : ByteArray := prog_29_method_11_code
def yJ3_checkIndex_8e157 : MethodName := ⟨RJ3, "checkIndex", "(IILjava/util/function/BiFunction;)I"⟩
def RL : String := "IcehighwayLaw"
abbrev cL_piece : ByteArray := method_3_code
def yL_piece : MethodName := ⟨RL, "piece", "(LIcehighway;III[J)I"⟩
abbrev cL_weather : ByteArray := method_4_code
def yL_weather : MethodName := ⟨RL, "weather", "(LIcehighway;I[J)I"⟩
abbrev cL_snow : ByteArray := method_5_code
def yL_snow : MethodName := ⟨RL, "snow", "(LIcehighway;I[J)I"⟩
abbrev cL_plough : ByteArray := method_6_code
def yL_plough : MethodName := ⟨RL, "plough", "(LIcehighway;I[J)I"⟩
abbrev cL_flood : ByteArray := method_7_code
def yL_flood : MethodName := ⟨RL, "flood", "(LIcehighway;II[J)I"⟩
abbrev cL_drill : ByteArray := method_8_code
def yL_drill : MethodName := ⟨RL, "drill", "(LIcehighway;I[D)I"⟩
abbrev cL_open : ByteArray := method_9_code
def yL_open : MethodName := ⟨RL, "open", "(LIcehighway;II[J)I"⟩
abbrev cL_limit : ByteArray := method_10_code
def yL_limit : MethodName := ⟨RL, "limit", "(LIcehighway;II[J)I"⟩
abbrev cL_gap : ByteArray := method_11_code
def yL_gap : MethodName := ⟨RL, "gap", "(LIcehighway;I[J)I"⟩
abbrev cL_vehicle : ByteArray := method_12_code
def yL_vehicle : MethodName := ⟨RL, "vehicle", "(LIcehighway;III[J)I"⟩
abbrev cL_load : ByteArray := method_13_code
def yL_load : MethodName := ⟨RL, "load", "(LIcehighway;III[J)I"⟩
abbrev cL_go : ByteArray := method_14_code
def yL_go : MethodName := ⟨RL, "go", "(LIcehighway;I[J)I"⟩
abbrev cL_turn : ByteArray := method_15_code
def yL_turn : MethodName := ⟨RL, "turn", "(LIcehighway;I[J)I"⟩
abbrev cL_order : ByteArray := method_16_code
def yL_order : MethodName := ⟨RL, "order", "(LIcehighway;II[J)I"⟩
abbrev cL_pass : ByteArray := method_17_code
def yL_pass : MethodName := ⟨RL, "pass", "(LIcehighway;I[J)I"⟩
abbrev cL_told : ByteArray := method_18_code
def yL_told : MethodName := ⟨RL, "told", "(LIcehighway;II[J)I"⟩
abbrev cL_thickness : ByteArray := method_19_code
def yL_thickness : MethodName := ⟨RL, "thickness", "(LIcehighway;IZ[D)I"⟩
abbrev cL_bears : ByteArray := method_20_code
def yL_bears : MethodName := ⟨RL, "bears", "(LIcehighway;IZ[J)I"⟩
abbrev cL_ofVehicle : ByteArray := method_21_code
def yL_ofVehicle : MethodName := ⟨RL, "ofVehicle", "(LIcehighway;II[J)I"⟩
abbrev cL_why : ByteArray := method_22_code
def yL_why : MethodName := ⟨RL, "why", "(LIcehighway;I[J)I"⟩
abbrev cL_speed : ByteArray := method_23_code
def yL_speed : MethodName := ⟨RL, "speed", "(LIcehighway;II[J)I"⟩
abbrev cL_minutes : ByteArray := method_24_code
def yL_minutes : MethodName := ⟨RL, "minutes", "(LIcehighway;II[J)I"⟩
abbrev cL_minutesAnew : ByteArray := method_25_code
def yL_minutesAnew : MethodName := ⟨RL, "minutesAnew", "(LIcehighway;II[J)I"⟩
abbrev cL_kilos : ByteArray := method_26_code
def yL_kilos : MethodName := ⟨RL, "kilos", "(LIcehighway;II[J)I"⟩
abbrev cL_kilosAnew : ByteArray := method_27_code
def yL_kilosAnew : MethodName := ⟨RL, "kilosAnew", "(LIcehighway;I[J)I"⟩
abbrev cL_law : ByteArray := code
def yL_law : MethodName := ⟨RL, "law", "([I)Z"⟩
abbrev vwCl : List vw_C := [(RJx4a65c, TJx4a65c, 3), (RX0, TX0, 3), (RX1, TX1, 16), (RX2, TX2, 8), (RX3, TX3, 9), (RX4, TX4, 30)]
end
section
/-- the words of the tables that hold in every warmed state -/
def WL : List Cond := lw_tbl.filter goodWord
def XF (w : Cond) : Bool := w.onTables && w.faceAtom
/-- the words of an interface's face -/
def XL : List Cond := tables_1.filter XF
theorem WL_t {w : Cond} (h : w ∈ tables_1) (g : goodWord w = true) : w ∈ WL := List.mem_filter.mpr ⟨List.mem_append_right _ h, g⟩
theorem WL_p {q : MethodName × Nat} (h : q ∈ lw_privs) : Cond.selects q.1.cls q.1 q.1 ∈ WL := List.mem_filter.mpr ⟨List.mem_append_left _ (List.mem_map.mpr ⟨q, h, rfl⟩), rfl⟩
theorem XL_t {w : Cond} (h : w ∈ tables_1) (g : XF w = true) : w ∈ XL := List.mem_filter.mpr ⟨h, g⟩
theorem WL_tbl {w : Cond} (h : w ∈ WL) : w ∈ lw_tbl := (List.mem_filter.mp h).1
theorem WL_good {w : Cond} (h : w ∈ WL) : goodWord w = true := (List.mem_filter.mp h).2
theorem WL_in {X Y : Cond} (h : Y ∈ WL) : GoodIn (X :: WL) (Y :: WL) := fun w hw => (List.mem_cons.mp hw).elim (fun e => e ▸ ⟨List.mem_cons_of_mem _ h, good_of_word (WL_good h)⟩) (fun hw => ⟨List.mem_cons_of_mem _ hw, good_of_word (WL_good hw)⟩)
theorem WL_in0 {Y : Cond} (h : Y ∈ WL) : GoodIn WL (Y :: WL) := fun w hw => (List.mem_cons.mp hw).elim (fun e => e ▸ ⟨h, good_of_word (WL_good h)⟩) (fun hw => ⟨hw, good_of_word (WL_good hw)⟩)
theorem in_tables_1_1 {w : Cond} (h : w ∈ tables_1_1) : w ∈ tables_1 := List.mem_append_left _ h
theorem in_tables_1_2 {w : Cond} (h : w ∈ tables_1_2) : w ∈ tables_1 := List.mem_append_right _ (List.mem_append_left _ h)
theorem in_tables_1_3 {w : Cond} (h : w ∈ tables_1_3) : w ∈ tables_1 := List.mem_append_right _ (List.mem_append_right _ (List.mem_append_left _ h))
theorem in_tables_1_4 {w : Cond} (h : w ∈ tables_1_4) : w ∈ tables_1 := List.mem_append_right _ (List.mem_append_right _ (List.mem_append_right _ (List.mem_append_left _ h)))
theorem in_tables_1_5 {w : Cond} (h : w ∈ tables_1_5) : w ∈ tables_1 := List.mem_append_right _ (List.mem_append_right _ (List.mem_append_right _ (List.mem_append_right _ (h))))
theorem q0 : (Jvm.Cond.initialized "IcehighwayLaw") ∈ WL := WL_t (in_tables_1_1 (List.mem_of_getElem? (i := 0) rfl)) rfl
theorem q1 : (Jvm.Cond.initialized "Icehighway") ∈ WL := WL_t (in_tables_1_1 (List.mem_of_getElem? (i := 1) rfl)) rfl
theorem q2 : (Jvm.Cond.initialized "java/util/AbstractCollection") ∈ WL := WL_t (in_tables_1_1 (List.mem_of_getElem? (i := 2) rfl)) rfl
theorem q3 : (Jvm.Cond.initialized "java/util/AbstractList") ∈ WL := WL_t (in_tables_1_1 (List.mem_of_getElem? (i := 3) rfl)) rfl
theorem q4 : (Jvm.Cond.initialized "java/util/ArrayList") ∈ WL := WL_t (in_tables_1_1 (List.mem_of_getElem? (i := 4) rfl)) rfl
theorem q5 : (Jvm.Cond.initialized "IcehighwayModel") ∈ WL := WL_t (in_tables_1_1 (List.mem_of_getElem? (i := 5) rfl)) rfl
theorem q6 : (Jvm.Cond.initialized "java/lang/Throwable") ∈ WL := WL_t (in_tables_1_1 (List.mem_of_getElem? (i := 6) rfl)) rfl
theorem q7 : (Jvm.Cond.initialized "java/lang/Exception") ∈ WL := WL_t (in_tables_1_1 (List.mem_of_getElem? (i := 7) rfl)) rfl
theorem q8 : (Jvm.Cond.initialized "java/lang/RuntimeException") ∈ WL := WL_t (in_tables_1_1 (List.mem_of_getElem? (i := 8) rfl)) rfl
theorem q9 : (Jvm.Cond.initialized "java/lang/IllegalArgumentException") ∈ WL := WL_t (in_tables_1_1 (List.mem_of_getElem? (i := 9) rfl)) rfl
theorem q10 : (Jvm.Cond.initialized "java/lang/IllegalStateException") ∈ WL := WL_t (in_tables_1_1 (List.mem_of_getElem? (i := 10) rfl)) rfl
theorem q11 : (Jvm.Cond.initialized "Icehighway$Piece") ∈ WL := WL_t (in_tables_1_1 (List.mem_of_getElem? (i := 11) rfl)) rfl
theorem q12 : (Jvm.Cond.initialized "jdk/internal/util/ArraysSupport") ∈ WL := WL_t (in_tables_1_1 (List.mem_of_getElem? (i := 12) rfl)) rfl
theorem q13 : (Jvm.Cond.initialized "java/lang/Math") ∈ WL := WL_t (in_tables_1_1 (List.mem_of_getElem? (i := 13) rfl)) rfl
theorem q14 : (Jvm.Cond.initialized "java/util/Arrays") ∈ WL := WL_t (in_tables_1_1 (List.mem_of_getElem? (i := 14) rfl)) rfl
theorem q15 : (Jvm.Cond.initialized "java/lang/System") ∈ WL := WL_t (in_tables_1_1 (List.mem_of_getElem? (i := 15) rfl)) rfl
theorem q16 : (Jvm.Cond.initialized "java/util/Objects") ∈ WL := WL_t (in_tables_1_1 (List.mem_of_getElem? (i := 16) rfl)) rfl
theorem q17 : (Jvm.Cond.initialized "jdk/internal/util/Preconditions") ∈ WL := WL_t (in_tables_1_1 (List.mem_of_getElem? (i := 17) rfl)) rfl
theorem q18 : (Jvm.Cond.initialized "java/lang/IndexOutOfBoundsException") ∈ WL := WL_t (in_tables_1_1 (List.mem_of_getElem? (i := 18) rfl)) rfl
theorem q19 : (Jvm.Cond.initialized "Icehighway$Vehicle") ∈ WL := WL_t (in_tables_1_1 (List.mem_of_getElem? (i := 19) rfl)) rfl
theorem q20 : (Jvm.Cond.initialized "Icehighway$Load") ∈ WL := WL_t (in_tables_1_1 (List.mem_of_getElem? (i := 20) rfl)) rfl
theorem q21 : (Jvm.Cond.classLink "IcehighwayLaw" (8 : Nat) "Icehighway") ∈ WL := WL_t (in_tables_1_1 (List.mem_of_getElem? (i := 21) rfl)) rfl
theorem q22 : (Jvm.Cond.instantiable "Icehighway" (9 : Nat)) ∈ WL := WL_t (in_tables_1_1 (List.mem_of_getElem? (i := 22) rfl)) rfl
theorem q23 : (Jvm.Cond.methodLink "IcehighwayLaw" (97 : Nat) ({ cls := "Icehighway", name := "<init>", desc := "()V" } : Jvm.MethodName)) ∈ WL := WL_t (in_tables_1_1 (List.mem_of_getElem? (i := 23) rfl)) rfl
theorem q24 : (Jvm.Cond.instanceMethod ({ cls := "Icehighway", name := "<init>", desc := "()V" } : Jvm.MethodName)) ∈ WL := WL_t (in_tables_1_1 (List.mem_of_getElem? (i := 24) rfl)) rfl
theorem q25 : (Jvm.Cond.code ({ cls := "Icehighway", name := "<init>", desc := "()V" } : Jvm.MethodName) prog_1_method_1_code (1 : Nat) (Option.none : Option Jvm.ClassFile.FieldType)) ∈ WL := WL_t (in_tables_1_1 (List.mem_of_getElem? (i := 25) rfl)) rfl
theorem q26 : (Jvm.Cond.methodLink "Icehighway" (1 : Nat) ({ cls := "java/lang/Object", name := "<init>", desc := "()V" } : Jvm.MethodName)) ∈ WL := WL_t (in_tables_1_1 (List.mem_of_getElem? (i := 26) rfl)) rfl
theorem q27 : (Jvm.Cond.instanceMethod ({ cls := "java/lang/Object", name := "<init>", desc := "()V" } : Jvm.MethodName)) ∈ WL := WL_t (in_tables_1_1 (List.mem_of_getElem? (i := 27) rfl)) rfl
theorem q28 : (Jvm.Cond.code ({ cls := "java/lang/Object", name := "<init>", desc := "()V" } : Jvm.MethodName) object_method_1_code (1 : Nat) (Option.none : Option Jvm.ClassFile.FieldType)) ∈ WL := WL_t (in_tables_1_1 (List.mem_of_getElem? (i := 28) rfl)) rfl
theorem q29 : (Jvm.Cond.classLink "Icehighway" (7 : Nat) "java/util/ArrayList") ∈ WL := WL_t (in_tables_1_1 (List.mem_of_getElem? (i := 29) rfl)) rfl
theorem q30 : (Jvm.Cond.instantiable "java/util/ArrayList" (3 : Nat)) ∈ WL := WL_t (in_tables_1_1 (List.mem_of_getElem? (i := 30) rfl)) rfl
theorem q31 : (Jvm.Cond.methodLink "Icehighway" (9 : Nat) ({ cls := "java/util/ArrayList", name := "<init>", desc := "()V" } : Jvm.MethodName)) ∈ WL := WL_t (in_tables_1_1 (List.mem_of_getElem? (i := 31) rfl)) rfl
theorem q32 : (Jvm.Cond.instanceMethod ({ cls := "java/util/ArrayList", name := "<init>", desc := "()V" } : Jvm.MethodName)) ∈ WL := WL_t (in_tables_1_1 (List.mem_of_getElem? (i := 32) rfl)) rfl
theorem q33 : (Jvm.Cond.code ({ cls := "java/util/ArrayList", name := "<init>", desc := "()V" } : Jvm.MethodName) prog_21_method_2_code (1 : Nat) (Option.none : Option Jvm.ClassFile.FieldType)) ∈ WL := WL_t (in_tables_1_1 (List.mem_of_getElem? (i := 33) rfl)) rfl
theorem q34 : (Jvm.Cond.methodLink "java/util/ArrayList" (1 : Nat) ({ cls := "java/util/AbstractList", name := "<init>", desc := "()V" } : Jvm.MethodName)) ∈ WL := WL_t (in_tables_1_1 (List.mem_of_getElem? (i := 34) rfl)) rfl
theorem q35 : (Jvm.Cond.instanceMethod ({ cls := "java/util/AbstractList", name := "<init>", desc := "()V" } : Jvm.MethodName)) ∈ WL := WL_t (in_tables_1_1 (List.mem_of_getElem? (i := 35) rfl)) rfl
theorem q36 : (Jvm.Cond.code ({ cls := "java/util/AbstractList", name := "<init>", desc := "()V" } : Jvm.MethodName) prog_20_method_1_code (1 : Nat) (Option.none : Option Jvm.ClassFile.FieldType)) ∈ WL := WL_t (in_tables_1_1 (List.mem_of_getElem? (i := 36) rfl)) rfl
theorem q37 : (Jvm.Cond.methodLink "java/util/AbstractList" (1 : Nat) ({ cls := "java/util/AbstractCollection", name := "<init>", desc := "()V" } : Jvm.MethodName)) ∈ WL := WL_t (in_tables_1_1 (List.mem_of_getElem? (i := 37) rfl)) rfl
theorem q38 : (Jvm.Cond.instanceMethod ({ cls := "java/util/AbstractCollection", name := "<init>", desc := "()V" } : Jvm.MethodName)) ∈ WL := WL_t (in_tables_1_1 (List.mem_of_getElem? (i := 38) rfl)) rfl
theorem q39 : (Jvm.Cond.code ({ cls := "java/util/AbstractCollection", name := "<init>", desc := "()V" } : Jvm.MethodName) prog_19_method_1_code (1 : Nat) (Option.none : Option Jvm.ClassFile.FieldType)) ∈ WL := WL_t (in_tables_1_1 (List.mem_of_getElem? (i := 39) rfl)) rfl
theorem q40 : (Jvm.Cond.methodLink "java/util/AbstractCollection" (1 : Nat) ({ cls := "java/lang/Object", name := "<init>", desc := "()V" } : Jvm.MethodName)) ∈ WL := WL_t (in_tables_1_1 (List.mem_of_getElem? (i := 40) rfl)) rfl
theorem q41 : (Jvm.Cond.fieldLink "java/util/ArrayList" (39 : Nat) "java/util/ArrayList" "DEFAULTCAPACITY_EMPTY_ELEMENTDATA" "[Ljava/lang/Object;") ∈ WL := WL_t (in_tables_1_1 (List.mem_of_getElem? (i := 41) rfl)) rfl
theorem q43 : (Jvm.Cond.fieldLink "java/util/ArrayList" (9 : Nat) "java/util/ArrayList" "elementData" "[Ljava/lang/Object;") ∈ WL := WL_t (in_tables_1_1 (List.mem_of_getElem? (i := 43) rfl)) rfl
theorem q44 : (Jvm.Cond.fieldLink "java/util/ArrayList" (48 : Nat) "java/util/ArrayList" "size" "I") ∈ WL := WL_t (in_tables_1_1 (List.mem_of_getElem? (i := 44) rfl)) rfl
theorem q45 : (Jvm.Cond.fieldLink "java/util/AbstractList" (7 : Nat) "java/util/AbstractList" "modCount" "I") ∈ WL := WL_t (in_tables_1_1 (List.mem_of_getElem? (i := 45) rfl)) rfl
theorem q46 : (Jvm.Cond.fieldLink "java/util/ArrayList" (63 : Nat) "java/util/ArrayList" "modCount" "I") ∈ WL := WL_t (in_tables_1_1 (List.mem_of_getElem? (i := 46) rfl)) rfl
theorem q47 : (Jvm.Cond.sameField "java/util/ArrayList" "java/util/AbstractList" "modCount" "I") ∈ WL := WL_t (in_tables_1_1 (List.mem_of_getElem? (i := 47) rfl)) rfl
theorem q48 : (Jvm.Cond.lays "java/util/ArrayList" "java/util/ArrayList" "elementData" "[Ljava/lang/Object;") ∈ WL := WL_t (in_tables_1_1 (List.mem_of_getElem? (i := 48) rfl)) rfl
theorem q50 : (Jvm.Cond.lays "java/util/ArrayList" "java/util/ArrayList" "size" "I") ∈ WL := WL_t (in_tables_1_1 (List.mem_of_getElem? (i := 50) rfl)) rfl
theorem q52 : (Jvm.Cond.lays "java/util/ArrayList" "java/util/AbstractList" "modCount" "I") ∈ WL := WL_t (in_tables_1_1 (List.mem_of_getElem? (i := 52) rfl)) rfl
theorem q55 : (Jvm.Cond.fieldLink "Icehighway" (10 : Nat) "Icehighway" "pieces" "Ljava/util/List;") ∈ WL := WL_t (in_tables_1_1 (List.mem_of_getElem? (i := 55) rfl)) rfl
theorem q56 : (Jvm.Cond.fieldLink "Icehighway" (16 : Nat) "Icehighway" "vehicles" "Ljava/util/List;") ∈ WL := WL_t (in_tables_1_1 (List.mem_of_getElem? (i := 56) rfl)) rfl
theorem q57 : (Jvm.Cond.fieldLink "Icehighway" (19 : Nat) "Icehighway" "entered" "Ljava/util/List;") ∈ WL := WL_t (in_tables_1_1 (List.mem_of_getElem? (i := 57) rfl)) rfl
theorem q58 : (Jvm.Cond.fieldLink "Icehighway" (22 : Nat) "Icehighway" "taken" "[I") ∈ WL := WL_t (in_tables_1_1 (List.mem_of_getElem? (i := 58) rfl)) rfl
theorem q59 : (Jvm.Cond.fieldLink "Icehighway" (26 : Nat) "Icehighway" "brought" "[I") ∈ WL := WL_t (in_tables_1_1 (List.mem_of_getElem? (i := 59) rfl)) rfl
theorem q60 : (Jvm.Cond.fieldLink "Icehighway" (29 : Nat) "Icehighway" "ordered" "[I") ∈ WL := WL_t (in_tables_1_1 (List.mem_of_getElem? (i := 60) rfl)) rfl
theorem q61 : (Jvm.Cond.fieldLink "Icehighway" (32 : Nat) "Icehighway" "now" "I") ∈ WL := WL_t (in_tables_1_1 (List.mem_of_getElem? (i := 61) rfl)) rfl
theorem q62 : (Jvm.Cond.fieldLink "Icehighway" (36 : Nat) "Icehighway" "cold" "I") ∈ WL := WL_t (in_tables_1_1 (List.mem_of_getElem? (i := 62) rfl)) rfl
theorem q63 : (Jvm.Cond.fieldLink "Icehighway" (39 : Nat) "Icehighway" "gapMinutes" "I") ∈ WL := WL_t (in_tables_1_1 (List.mem_of_getElem? (i := 63) rfl)) rfl
theorem q64 : (Jvm.Cond.laysFinal "Icehighway" "Icehighway" "pieces" "Ljava/util/List;") ∈ WL := WL_t (in_tables_1_1 (List.mem_of_getElem? (i := 64) rfl)) rfl
theorem q66 : (Jvm.Cond.laysFinal "Icehighway" "Icehighway" "vehicles" "Ljava/util/List;") ∈ WL := WL_t (in_tables_1_1 (List.mem_of_getElem? (i := 66) rfl)) rfl
theorem q68 : (Jvm.Cond.laysFinal "Icehighway" "Icehighway" "entered" "Ljava/util/List;") ∈ WL := WL_t (in_tables_1_1 (List.mem_of_getElem? (i := 68) rfl)) rfl
theorem q70 : (Jvm.Cond.laysFinal "Icehighway" "Icehighway" "taken" "[I") ∈ WL := WL_t (in_tables_1_1 (List.mem_of_getElem? (i := 70) rfl)) rfl
theorem q72 : (Jvm.Cond.laysFinal "Icehighway" "Icehighway" "brought" "[I") ∈ WL := WL_t (in_tables_1_1 (List.mem_of_getElem? (i := 72) rfl)) rfl
theorem q74 : (Jvm.Cond.laysFinal "Icehighway" "Icehighway" "ordered" "[I") ∈ WL := WL_t (in_tables_1_1 (List.mem_of_getElem? (i := 74) rfl)) rfl
theorem q76 : (Jvm.Cond.lays "Icehighway" "Icehighway" "now" "I") ∈ WL := WL_t (in_tables_1_1 (List.mem_of_getElem? (i := 76) rfl)) rfl
theorem q78 : (Jvm.Cond.lays "Icehighway" "Icehighway" "cold" "I") ∈ WL := WL_t (in_tables_1_1 (List.mem_of_getElem? (i := 78) rfl)) rfl
theorem q80 : (Jvm.Cond.lays "Icehighway" "Icehighway" "gapMinutes" "I") ∈ WL := WL_t (in_tables_1_1 (List.mem_of_getElem? (i := 80) rfl)) rfl
theorem q83 : (Jvm.Cond.arrayClass Jvm.ClassFile.FieldType.int) ∈ WL := WL_t (in_tables_1_1 (List.mem_of_getElem? (i := 83) rfl)) rfl
theorem q84 : (Jvm.Cond.methodLink "IcehighwayLaw" (156 : Nat) ({ cls := "Icehighway", name := "minute", desc := "()I" } : Jvm.MethodName)) ∈ WL := WL_t (in_tables_1_1 (List.mem_of_getElem? (i := 84) rfl)) rfl
theorem q85 : (Jvm.Cond.instanceMethod ({ cls := "Icehighway", name := "minute", desc := "()I" } : Jvm.MethodName)) ∈ WL := WL_t (in_tables_1_1 (List.mem_of_getElem? (i := 85) rfl)) rfl
theorem q86 : (Jvm.Cond.selects "Icehighway" ({ cls := "Icehighway", name := "minute", desc := "()I" } : Jvm.MethodName) ({ cls := "Icehighway", name := "minute", desc := "()I" } : Jvm.MethodName)) ∈ WL := WL_t (in_tables_1_1 (List.mem_of_getElem? (i := 86) rfl)) rfl
theorem q87 : (Jvm.Cond.code ({ cls := "Icehighway", name := "minute", desc := "()I" } : Jvm.MethodName) prog_1_method_17_code (1 : Nat) (Option.some Jvm.ClassFile.FieldType.int)) ∈ WL := WL_t (in_tables_1_1 (List.mem_of_getElem? (i := 87) rfl)) rfl
theorem q88 : (Jvm.Cond.methodLink "IcehighwayLaw" (192 : Nat) ({ cls := "Icehighway", name := "bill", desc := "()J" } : Jvm.MethodName)) ∈ WL := WL_t (in_tables_1_1 (List.mem_of_getElem? (i := 88) rfl)) rfl
theorem q89 : (Jvm.Cond.instanceMethod ({ cls := "Icehighway", name := "bill", desc := "()J" } : Jvm.MethodName)) ∈ WL := WL_t (in_tables_1_1 (List.mem_of_getElem? (i := 89) rfl)) rfl
theorem q90 : (Jvm.Cond.selects "Icehighway" ({ cls := "Icehighway", name := "bill", desc := "()J" } : Jvm.MethodName) ({ cls := "Icehighway", name := "bill", desc := "()J" } : Jvm.MethodName)) ∈ WL := WL_t (in_tables_1_1 (List.mem_of_getElem? (i := 90) rfl)) rfl
theorem q91 : (Jvm.Cond.code ({ cls := "Icehighway", name := "bill", desc := "()J" } : Jvm.MethodName) prog_1_method_28_code (4 : Nat) (Option.some Jvm.ClassFile.FieldType.long)) ∈ WL := WL_t (in_tables_1_1 (List.mem_of_getElem? (i := 91) rfl)) rfl
theorem q92 : (Jvm.Cond.constantLong "Icehighway" (223 : Nat) (40 : Int64)) ∈ WL := WL_t (in_tables_1_1 (List.mem_of_getElem? (i := 92) rfl)) rfl
theorem q93 : (Jvm.Cond.methodLink "Icehighway" (216 : Nat) ({ cls := "Icehighway", name := "kilosMissing", desc := "(I)I" } : Jvm.MethodName)) ∈ WL := WL_t (in_tables_1_1 (List.mem_of_getElem? (i := 93) rfl)) rfl
theorem q94 : (Jvm.Cond.privateMethod ({ cls := "Icehighway", name := "kilosMissing", desc := "(I)I" } : Jvm.MethodName)) ∈ XL := XL_t (in_tables_1_1 (List.mem_of_getElem? (i := 94) rfl)) rfl
theorem q95 : (Jvm.Cond.instanceMethod ({ cls := "Icehighway", name := "kilosMissing", desc := "(I)I" } : Jvm.MethodName)) ∈ WL := WL_t (in_tables_1_1 (List.mem_of_getElem? (i := 95) rfl)) rfl
theorem q96 : (Jvm.Cond.code ({ cls := "Icehighway", name := "kilosMissing", desc := "(I)I" } : Jvm.MethodName) prog_1_method_34_code (2 : Nat) (Option.some Jvm.ClassFile.FieldType.int)) ∈ WL := WL_t (in_tables_1_1 (List.mem_of_getElem? (i := 96) rfl)) rfl
theorem q97 : (Jvm.Cond.methodLink "Icehighway" (239 : Nat) ({ cls := "java/lang/Math", name := "max", desc := "(II)I" } : Jvm.MethodName)) ∈ WL := WL_t (in_tables_1_1 (List.mem_of_getElem? (i := 97) rfl)) rfl
theorem q98 : (Jvm.Cond.static ({ cls := "java/lang/Math", name := "max", desc := "(II)I" } : Jvm.MethodName)) ∈ WL := WL_t (in_tables_1_1 (List.mem_of_getElem? (i := 98) rfl)) rfl
theorem q99 : (Jvm.Cond.code ({ cls := "java/lang/Math", name := "max", desc := "(II)I" } : Jvm.MethodName) prog_14_method_65_code (2 : Nat) (Option.some Jvm.ClassFile.FieldType.int)) ∈ WL := WL_t (in_tables_1_1 (List.mem_of_getElem? (i := 99) rfl)) rfl
theorem q100 : (Jvm.Cond.methodLink "IcehighwayLaw" (101 : Nat) ({ cls := "IcehighwayLaw", name := "piece", desc := "(LIcehighway;III[J)I" } : Jvm.MethodName)) ∈ WL := WL_t (in_tables_1_1 (List.mem_of_getElem? (i := 100) rfl)) rfl
theorem q101 : (Jvm.Cond.static ({ cls := "IcehighwayLaw", name := "piece", desc := "(LIcehighway;III[J)I" } : Jvm.MethodName)) ∈ WL := WL_t (in_tables_1_1 (List.mem_of_getElem? (i := 101) rfl)) rfl
theorem q102 : (Jvm.Cond.codeWith ({ cls := "IcehighwayLaw", name := "piece", desc := "(LIcehighway;III[J)I" } : Jvm.MethodName) method_3_code (6 : Nat) (Option.some Jvm.ClassFile.FieldType.int) [((0 : Nat), (12 : Nat), (15 : Nat), (13 : Nat)), ((0 : Nat), (12 : Nat), (19 : Nat), (15 : Nat))]) ∈ WL := WL_t (in_tables_1_1 (List.mem_of_getElem? (i := 102) rfl)) rfl
theorem q103 : (Jvm.Cond.classLink "IcehighwayLaw" (13 : Nat) "java/lang/IllegalArgumentException") ∈ WL := WL_t (in_tables_1_1 (List.mem_of_getElem? (i := 103) rfl)) rfl
theorem q104 : (Jvm.Cond.classLink "IcehighwayLaw" (15 : Nat) "java/lang/IllegalStateException") ∈ WL := WL_t (in_tables_1_1 (List.mem_of_getElem? (i := 104) rfl)) rfl
theorem q105 : (Jvm.Cond.methodLink "IcehighwayLaw" (7 : Nat) ({ cls := "Icehighway", name := "piece", desc := "(III)I" } : Jvm.MethodName)) ∈ WL := WL_t (in_tables_1_1 (List.mem_of_getElem? (i := 105) rfl)) rfl
theorem q106 : (Jvm.Cond.instanceMethod ({ cls := "Icehighway", name := "piece", desc := "(III)I" } : Jvm.MethodName)) ∈ WL := WL_t (in_tables_1_1 (List.mem_of_getElem? (i := 106) rfl)) rfl
theorem q107 : (Jvm.Cond.selects "Icehighway" ({ cls := "Icehighway", name := "piece", desc := "(III)I" } : Jvm.MethodName) ({ cls := "Icehighway", name := "piece", desc := "(III)I" } : Jvm.MethodName)) ∈ WL := WL_t (in_tables_1_1 (List.mem_of_getElem? (i := 107) rfl)) rfl
theorem q108 : (Jvm.Cond.code ({ cls := "Icehighway", name := "piece", desc := "(III)I" } : Jvm.MethodName) prog_1_method_2_code (4 : Nat) (Option.some Jvm.ClassFile.FieldType.int)) ∈ WL := WL_t (in_tables_1_1 (List.mem_of_getElem? (i := 108) rfl)) rfl
theorem q109 : (Jvm.Cond.methodLink "Icehighway" (42 : Nat) ({ cls := "Icehighway", name := "needRange", desc := "(III)V" } : Jvm.MethodName)) ∈ WL := WL_t (in_tables_1_1 (List.mem_of_getElem? (i := 109) rfl)) rfl
theorem q110 : (Jvm.Cond.static ({ cls := "Icehighway", name := "needRange", desc := "(III)V" } : Jvm.MethodName)) ∈ WL := WL_t (in_tables_1_1 (List.mem_of_getElem? (i := 110) rfl)) rfl
theorem q111 : (Jvm.Cond.code ({ cls := "Icehighway", name := "needRange", desc := "(III)V" } : Jvm.MethodName) prog_1_method_29_code (3 : Nat) (Option.none : Option Jvm.ClassFile.FieldType)) ∈ WL := WL_t (in_tables_1_1 (List.mem_of_getElem? (i := 111) rfl)) rfl
theorem q112 : (Jvm.Cond.classLink "Icehighway" (225 : Nat) "java/lang/IllegalArgumentException") ∈ WL := WL_t (in_tables_1_1 (List.mem_of_getElem? (i := 112) rfl)) rfl
theorem q113 : (Jvm.Cond.instantiable "java/lang/IllegalArgumentException" (6 : Nat)) ∈ WL := WL_t (in_tables_1_1 (List.mem_of_getElem? (i := 113) rfl)) rfl
theorem q114 : (Jvm.Cond.castable "java/lang/IllegalArgumentException" "java/lang/IllegalArgumentException") ∈ XL := XL_t (in_tables_1_1 (List.mem_of_getElem? (i := 114) rfl)) rfl
theorem q115 : (Jvm.Cond.declares ({ cls := "java/lang/RuntimeException", name := "<init>", desc := "()V" } : Jvm.MethodName)) ∈ XL := XL_t (in_tables_1_1 (List.mem_of_getElem? (i := 115) rfl)) rfl
theorem q116 : (Jvm.Cond.declares ({ cls := "java/lang/RuntimeException", name := "<init>", desc := "(Ljava/lang/String;)V" } : Jvm.MethodName)) ∈ XL := XL_t (in_tables_1_1 (List.mem_of_getElem? (i := 116) rfl)) rfl
theorem q117 : (Jvm.Cond.declares ({ cls := "java/lang/Exception", name := "<init>", desc := "()V" } : Jvm.MethodName)) ∈ XL := XL_t (in_tables_1_1 (List.mem_of_getElem? (i := 117) rfl)) rfl
theorem q118 : (Jvm.Cond.declares ({ cls := "java/lang/Exception", name := "<init>", desc := "(Ljava/lang/String;)V" } : Jvm.MethodName)) ∈ XL := XL_t (in_tables_1_1 (List.mem_of_getElem? (i := 118) rfl)) rfl
theorem q119 : (Jvm.Cond.declares ({ cls := "java/lang/Throwable", name := "<init>", desc := "()V" } : Jvm.MethodName)) ∈ XL := XL_t (in_tables_1_1 (List.mem_of_getElem? (i := 119) rfl)) rfl
theorem q120 : (Jvm.Cond.declares ({ cls := "java/lang/Throwable", name := "<init>", desc := "(Ljava/lang/String;)V" } : Jvm.MethodName)) ∈ XL := XL_t (in_tables_1_1 (List.mem_of_getElem? (i := 120) rfl)) rfl
theorem q121 : (Jvm.Cond.selects "java/lang/IllegalArgumentException" ({ cls := "java/lang/Throwable", name := "fillInStackTrace", desc := "(I)Ljava/lang/Throwable;" } : Jvm.MethodName) ({ cls := "java/lang/Throwable", name := "fillInStackTrace", desc := "(I)Ljava/lang/Throwable;" } : Jvm.MethodName)) ∈ WL := WL_t (in_tables_1_1 (List.mem_of_getElem? (i := 121) rfl)) rfl
theorem q122 : (Jvm.Cond.selects "java/lang/IllegalArgumentException" ({ cls := "java/lang/Throwable", name := "fillInStackTrace", desc := "()Ljava/lang/Throwable;" } : Jvm.MethodName) ({ cls := "java/lang/Throwable", name := "fillInStackTrace", desc := "()Ljava/lang/Throwable;" } : Jvm.MethodName)) ∈ WL := WL_t (in_tables_1_1 (List.mem_of_getElem? (i := 122) rfl)) rfl
theorem q123 : (Jvm.Cond.lays "java/lang/IllegalArgumentException" "java/lang/Throwable" "cause" "Ljava/lang/Throwable;") ∈ WL := WL_t (in_tables_1_1 (List.mem_of_getElem? (i := 123) rfl)) rfl
theorem q124 : (Jvm.Cond.lays "java/lang/Throwable" "java/lang/Throwable" "cause" "Ljava/lang/Throwable;") ∈ WL := WL_t (in_tables_1_1 (List.mem_of_getElem? (i := 124) rfl)) rfl
theorem q125 : (Jvm.Cond.lays "java/lang/IllegalArgumentException" "java/lang/Throwable" "stackTrace" "[Ljava/lang/StackTraceElement;") ∈ WL := WL_t (in_tables_1_1 (List.mem_of_getElem? (i := 125) rfl)) rfl
theorem q126 : (Jvm.Cond.lays "java/lang/Throwable" "java/lang/Throwable" "stackTrace" "[Ljava/lang/StackTraceElement;") ∈ WL := WL_t (in_tables_1_1 (List.mem_of_getElem? (i := 126) rfl)) rfl
theorem q127 : (Jvm.Cond.lays "java/lang/IllegalArgumentException" "java/lang/Throwable" "suppressedExceptions" "Ljava/util/List;") ∈ WL := WL_t (in_tables_1_1 (List.mem_of_getElem? (i := 127) rfl)) rfl
theorem q128 : (Jvm.Cond.lays "java/lang/Throwable" "java/lang/Throwable" "suppressedExceptions" "Ljava/util/List;") ∈ WL := WL_t (in_tables_1_1 (List.mem_of_getElem? (i := 128) rfl)) rfl
theorem q129 : (Jvm.Cond.lays "java/lang/IllegalArgumentException" "java/lang/Throwable" "detailMessage" "Ljava/lang/String;") ∈ WL := WL_t (in_tables_1_1 (List.mem_of_getElem? (i := 129) rfl)) rfl
theorem q130 : (Jvm.Cond.lays "java/lang/Throwable" "java/lang/Throwable" "detailMessage" "Ljava/lang/String;") ∈ WL := WL_t (in_tables_1_1 (List.mem_of_getElem? (i := 130) rfl)) rfl
theorem q131 : (Jvm.Cond.lays "java/lang/IllegalArgumentException" "java/lang/Throwable" "backtrace" "Ljava/lang/Object;") ∈ WL := WL_t (in_tables_1_1 (List.mem_of_getElem? (i := 131) rfl)) rfl
theorem q132 : (Jvm.Cond.lays "java/lang/Throwable" "java/lang/Throwable" "backtrace" "Ljava/lang/Object;") ∈ WL := WL_t (in_tables_1_1 (List.mem_of_getElem? (i := 132) rfl)) rfl
theorem q133 : (Jvm.Cond.fieldLink "java/lang/Throwable" (198 : Nat) "java/lang/Throwable" "backtrace" "Ljava/lang/Object;") ∈ WL := WL_t (in_tables_1_1 (List.mem_of_getElem? (i := 133) rfl)) rfl
theorem q135 : (Jvm.Cond.instanceMethod ({ cls := "java/lang/Throwable", name := "<init>", desc := "()V" } : Jvm.MethodName)) ∈ WL := WL_t (in_tables_1_1 (List.mem_of_getElem? (i := 135) rfl)) rfl
theorem q136 : (Jvm.Cond.code ({ cls := "java/lang/Throwable", name := "<init>", desc := "()V" } : Jvm.MethodName) prog_18_method_1_code (1 : Nat) (Option.none : Option Jvm.ClassFile.FieldType)) ∈ WL := WL_t (in_tables_1_1 (List.mem_of_getElem? (i := 136) rfl)) rfl
theorem q137 : (Jvm.Cond.methodLink "java/lang/Throwable" (1 : Nat) ({ cls := "java/lang/Object", name := "<init>", desc := "()V" } : Jvm.MethodName)) ∈ WL := WL_t (in_tables_1_1 (List.mem_of_getElem? (i := 137) rfl)) rfl
theorem q138 : (Jvm.Cond.fieldLink "java/lang/Throwable" (13 : Nat) "java/lang/Throwable" "UNASSIGNED_STACK" "[Ljava/lang/StackTraceElement;") ∈ WL := WL_t (in_tables_1_1 (List.mem_of_getElem? (i := 138) rfl)) rfl
theorem q140 : (Jvm.Cond.fieldLink "java/lang/Throwable" (20 : Nat) "java/lang/Throwable" "SUPPRESSED_SENTINEL" "Ljava/util/List;") ∈ WL := WL_t (in_tables_1_1 (List.mem_of_getElem? (i := 140) rfl)) rfl
theorem q142 : (Jvm.Cond.methodLink "java/lang/Throwable" (27 : Nat) ({ cls := "java/lang/Throwable", name := "fillInStackTrace", desc := "()Ljava/lang/Throwable;" } : Jvm.MethodName)) ∈ WL := WL_t (in_tables_1_1 (List.mem_of_getElem? (i := 142) rfl)) rfl
theorem q143 : (Jvm.Cond.instanceMethod ({ cls := "java/lang/Throwable", name := "fillInStackTrace", desc := "()Ljava/lang/Throwable;" } : Jvm.MethodName)) ∈ WL := WL_t (in_tables_1_1 (List.mem_of_getElem? (i := 143) rfl)) rfl
theorem q144 : (Jvm.Cond.sameMethod "java/lang/Throwable" "java/lang/Throwable" "fillInStackTrace" "()Ljava/lang/Throwable;") ∈ WL := WL_t (in_tables_1_1 (List.mem_of_getElem? (i := 144) rfl)) rfl
theorem q145 : (Jvm.Cond.selects "java/lang/IllegalStateException" ({ cls := "java/lang/Throwable", name := "fillInStackTrace", desc := "()Ljava/lang/Throwable;" } : Jvm.MethodName) ({ cls := "java/lang/Throwable", name := "fillInStackTrace", desc := "()Ljava/lang/Throwable;" } : Jvm.MethodName)) ∈ WL := WL_t (in_tables_1_1 (List.mem_of_getElem? (i := 145) rfl)) rfl
theorem q146 : (Jvm.Cond.selects "java/lang/IndexOutOfBoundsException" ({ cls := "java/lang/Throwable", name := "fillInStackTrace", desc := "()Ljava/lang/Throwable;" } : Jvm.MethodName) ({ cls := "java/lang/Throwable", name := "fillInStackTrace", desc := "()Ljava/lang/Throwable;" } : Jvm.MethodName)) ∈ WL := WL_t (in_tables_1_1 (List.mem_of_getElem? (i := 146) rfl)) rfl
theorem q147 : (Jvm.Cond.codeSync ({ cls := "java/lang/Throwable", name := "fillInStackTrace", desc := "()Ljava/lang/Throwable;" } : Jvm.MethodName) prog_18_method_18_code (1 : Nat) (Option.some (Jvm.ClassFile.FieldType.object "java/lang/Throwable"))) ∈ WL := WL_t (in_tables_1_1 (List.mem_of_getElem? (i := 147) rfl)) rfl
theorem q148 : (Jvm.Cond.methodLink "java/lang/Throwable" (202 : Nat) ({ cls := "java/lang/Throwable", name := "fillInStackTrace", desc := "(I)Ljava/lang/Throwable;" } : Jvm.MethodName)) ∈ WL := WL_t (in_tables_1_1 (List.mem_of_getElem? (i := 148) rfl)) rfl
theorem q149 : (Jvm.Cond.privateMethod ({ cls := "java/lang/Throwable", name := "fillInStackTrace", desc := "(I)Ljava/lang/Throwable;" } : Jvm.MethodName)) ∈ XL := XL_t (in_tables_1_1 (List.mem_of_getElem? (i := 149) rfl)) rfl
theorem q150 : (Jvm.Cond.instanceMethod ({ cls := "java/lang/Throwable", name := "fillInStackTrace", desc := "(I)Ljava/lang/Throwable;" } : Jvm.MethodName)) ∈ WL := WL_t (in_tables_1_1 (List.mem_of_getElem? (i := 150) rfl)) rfl
theorem q151 : (Jvm.Cond.instantiable "java/lang/Throwable" (6 : Nat)) ∈ WL := WL_t (in_tables_1_1 (List.mem_of_getElem? (i := 151) rfl)) rfl
theorem q152 : (Jvm.Cond.native ({ cls := "java/lang/Throwable", name := "fillInStackTrace", desc := "(I)Ljava/lang/Throwable;" } : Jvm.MethodName)) ∈ WL := WL_t (in_tables_1_1 (List.mem_of_getElem? (i := 152) rfl)) rfl
theorem q154 : (Jvm.Cond.methodLink "Icehighway" (229 : Nat) ({ cls := "java/lang/IllegalArgumentException", name := "<init>", desc := "(Ljava/lang/String;)V" } : Jvm.MethodName)) ∈ WL := WL_t (in_tables_1_1 (List.mem_of_getElem? (i := 154) rfl)) rfl
theorem q155 : (Jvm.Cond.instanceMethod ({ cls := "java/lang/IllegalArgumentException", name := "<init>", desc := "(Ljava/lang/String;)V" } : Jvm.MethodName)) ∈ WL := WL_t (in_tables_1_1 (List.mem_of_getElem? (i := 155) rfl)) rfl
theorem q156 : (Jvm.Cond.code ({ cls := "java/lang/IllegalArgumentException", name := "<init>", desc := "(Ljava/lang/String;)V" } : Jvm.MethodName) prog_10_method_2_code (2 : Nat) (Option.none : Option Jvm.ClassFile.FieldType)) ∈ WL := WL_t (in_tables_1_1 (List.mem_of_getElem? (i := 156) rfl)) rfl
theorem q157 : (Jvm.Cond.methodLink "java/lang/IllegalArgumentException" (7 : Nat) ({ cls := "java/lang/RuntimeException", name := "<init>", desc := "(Ljava/lang/String;)V" } : Jvm.MethodName)) ∈ WL := WL_t (in_tables_1_1 (List.mem_of_getElem? (i := 157) rfl)) rfl
theorem q158 : (Jvm.Cond.instanceMethod ({ cls := "java/lang/RuntimeException", name := "<init>", desc := "(Ljava/lang/String;)V" } : Jvm.MethodName)) ∈ WL := WL_t (in_tables_1_1 (List.mem_of_getElem? (i := 158) rfl)) rfl
theorem q159 : (Jvm.Cond.code ({ cls := "java/lang/RuntimeException", name := "<init>", desc := "(Ljava/lang/String;)V" } : Jvm.MethodName) prog_15_method_2_code (2 : Nat) (Option.none : Option Jvm.ClassFile.FieldType)) ∈ WL := WL_t (in_tables_1_1 (List.mem_of_getElem? (i := 159) rfl)) rfl
theorem q160 : (Jvm.Cond.methodLink "java/lang/RuntimeException" (7 : Nat) ({ cls := "java/lang/Exception", name := "<init>", desc := "(Ljava/lang/String;)V" } : Jvm.MethodName)) ∈ WL := WL_t (in_tables_1_1 (List.mem_of_getElem? (i := 160) rfl)) rfl
theorem q161 : (Jvm.Cond.instanceMethod ({ cls := "java/lang/Exception", name := "<init>", desc := "(Ljava/lang/String;)V" } : Jvm.MethodName)) ∈ WL := WL_t (in_tables_1_1 (List.mem_of_getElem? (i := 161) rfl)) rfl
theorem q162 : (Jvm.Cond.code ({ cls := "java/lang/Exception", name := "<init>", desc := "(Ljava/lang/String;)V" } : Jvm.MethodName) prog_9_method_2_code (2 : Nat) (Option.none : Option Jvm.ClassFile.FieldType)) ∈ WL := WL_t (in_tables_1_1 (List.mem_of_getElem? (i := 162) rfl)) rfl
theorem q163 : (Jvm.Cond.methodLink "java/lang/Exception" (7 : Nat) ({ cls := "java/lang/Throwable", name := "<init>", desc := "(Ljava/lang/String;)V" } : Jvm.MethodName)) ∈ WL := WL_t (in_tables_1_1 (List.mem_of_getElem? (i := 163) rfl)) rfl
theorem q164 : (Jvm.Cond.instanceMethod ({ cls := "java/lang/Throwable", name := "<init>", desc := "(Ljava/lang/String;)V" } : Jvm.MethodName)) ∈ WL := WL_t (in_tables_1_1 (List.mem_of_getElem? (i := 164) rfl)) rfl
theorem q165 : (Jvm.Cond.code ({ cls := "java/lang/Throwable", name := "<init>", desc := "(Ljava/lang/String;)V" } : Jvm.MethodName) prog_18_method_2_code (2 : Nat) (Option.none : Option Jvm.ClassFile.FieldType)) ∈ WL := WL_t (in_tables_1_1 (List.mem_of_getElem? (i := 165) rfl)) rfl
theorem q166 : (Jvm.Cond.fieldLink "java/lang/Throwable" (198 : Nat) "java/lang/Throwable" "backtrace" "Ljava/lang/Object;") ∈ WL := WL_t (in_tables_1_1 (List.mem_of_getElem? (i := 166) rfl)) rfl
theorem q167 : (Jvm.Cond.fieldLink "java/lang/Throwable" (31 : Nat) "java/lang/Throwable" "detailMessage" "Ljava/lang/String;") ∈ WL := WL_t (in_tables_1_1 (List.mem_of_getElem? (i := 167) rfl)) rfl
theorem q168 : (Jvm.Cond.fieldLink "java/lang/Throwable" (7 : Nat) "java/lang/Throwable" "cause" "Ljava/lang/Throwable;") ∈ WL := WL_t (in_tables_1_1 (List.mem_of_getElem? (i := 168) rfl)) rfl
theorem q169 : (Jvm.Cond.fieldLink "java/lang/Throwable" (17 : Nat) "java/lang/Throwable" "stackTrace" "[Ljava/lang/StackTraceElement;") ∈ WL := WL_t (in_tables_1_1 (List.mem_of_getElem? (i := 169) rfl)) rfl
theorem q170 : (Jvm.Cond.fieldLink "java/lang/Throwable" (24 : Nat) "java/lang/Throwable" "suppressedExceptions" "Ljava/util/List;") ∈ WL := WL_t (in_tables_1_1 (List.mem_of_getElem? (i := 170) rfl)) rfl
theorem q175 : (Jvm.Cond.lays "java/lang/IllegalArgumentException" "java/lang/Throwable" "depth" "I") ∈ WL := WL_t (in_tables_1_1 (List.mem_of_getElem? (i := 175) rfl)) rfl
theorem q179 : (Jvm.Cond.arrayClass Jvm.ClassFile.FieldType.byte) ∈ WL := WL_t (in_tables_1_1 (List.mem_of_getElem? (i := 179) rfl)) rfl
theorem q181 : (Jvm.Cond.methodLink "Icehighway" (46 : Nat) ({ cls := "java/util/List", name := "size", desc := "()I" } : Jvm.MethodName)) ∈ WL := WL_t (in_tables_1_1 (List.mem_of_getElem? (i := 181) rfl)) rfl
theorem q182 : (Jvm.Cond.interfaceMethod "java/util/List" "java/util/List" "size" "()I") ∈ XL := XL_t (in_tables_1_1 (List.mem_of_getElem? (i := 182) rfl)) rfl
theorem q183 : (Jvm.Cond.declares ({ cls := "java/util/List", name := "size", desc := "()I" } : Jvm.MethodName)) ∈ XL := XL_t (in_tables_1_1 (List.mem_of_getElem? (i := 183) rfl)) rfl
theorem q184 : (Jvm.Cond.castable "java/util/ArrayList" "java/util/List") ∈ XL := XL_t (in_tables_1_1 (List.mem_of_getElem? (i := 184) rfl)) rfl
theorem q185 : (Jvm.Cond.selects "java/util/ArrayList" ({ cls := "java/util/List", name := "size", desc := "()I" } : Jvm.MethodName) ({ cls := "java/util/ArrayList", name := "size", desc := "()I" } : Jvm.MethodName)) ∈ WL := WL_t (in_tables_1_1 (List.mem_of_getElem? (i := 185) rfl)) rfl
theorem q186 : (Jvm.Cond.unhidden "java/util/ArrayList" "size" "()I") ∈ XL := XL_t (in_tables_1_1 (List.mem_of_getElem? (i := 186) rfl)) rfl
theorem q187 : (Jvm.Cond.instanceMethod ({ cls := "java/util/ArrayList", name := "size", desc := "()I" } : Jvm.MethodName)) ∈ WL := WL_t (in_tables_1_1 (List.mem_of_getElem? (i := 187) rfl)) rfl
theorem q188 : (Jvm.Cond.publicMethod ({ cls := "java/util/ArrayList", name := "size", desc := "()I" } : Jvm.MethodName)) ∈ XL := XL_t (in_tables_1_1 (List.mem_of_getElem? (i := 188) rfl)) rfl
theorem q189 : (Jvm.Cond.code ({ cls := "java/util/ArrayList", name := "size", desc := "()I" } : Jvm.MethodName) prog_21_method_8_code (1 : Nat) (Option.some Jvm.ClassFile.FieldType.int)) ∈ WL := WL_t (in_tables_1_1 (List.mem_of_getElem? (i := 189) rfl)) rfl
theorem q191 : (Jvm.Cond.methodLink "Icehighway" (52 : Nat) ({ cls := "java/util/List", name := "isEmpty", desc := "()Z" } : Jvm.MethodName)) ∈ WL := WL_t (in_tables_1_1 (List.mem_of_getElem? (i := 191) rfl)) rfl
theorem q192 : (Jvm.Cond.interfaceMethod "java/util/List" "java/util/List" "isEmpty" "()Z") ∈ XL := XL_t (in_tables_1_1 (List.mem_of_getElem? (i := 192) rfl)) rfl
theorem q193 : (Jvm.Cond.declares ({ cls := "java/util/List", name := "isEmpty", desc := "()Z" } : Jvm.MethodName)) ∈ XL := XL_t (in_tables_1_1 (List.mem_of_getElem? (i := 193) rfl)) rfl
theorem q194 : (Jvm.Cond.selects "java/util/ArrayList" ({ cls := "java/util/List", name := "isEmpty", desc := "()Z" } : Jvm.MethodName) ({ cls := "java/util/ArrayList", name := "isEmpty", desc := "()Z" } : Jvm.MethodName)) ∈ WL := WL_t (in_tables_1_1 (List.mem_of_getElem? (i := 194) rfl)) rfl
theorem q195 : (Jvm.Cond.unhidden "java/util/ArrayList" "isEmpty" "()Z") ∈ XL := XL_t (in_tables_1_1 (List.mem_of_getElem? (i := 195) rfl)) rfl
theorem q196 : (Jvm.Cond.instanceMethod ({ cls := "java/util/ArrayList", name := "isEmpty", desc := "()Z" } : Jvm.MethodName)) ∈ WL := WL_t (in_tables_1_1 (List.mem_of_getElem? (i := 196) rfl)) rfl
theorem q197 : (Jvm.Cond.publicMethod ({ cls := "java/util/ArrayList", name := "isEmpty", desc := "()Z" } : Jvm.MethodName)) ∈ XL := XL_t (in_tables_1_1 (List.mem_of_getElem? (i := 197) rfl)) rfl
theorem q198 : (Jvm.Cond.code ({ cls := "java/util/ArrayList", name := "isEmpty", desc := "()Z" } : Jvm.MethodName) prog_21_method_9_code (1 : Nat) (Option.some Jvm.ClassFile.FieldType.boolean)) ∈ WL := WL_t (in_tables_1_1 (List.mem_of_getElem? (i := 198) rfl)) rfl
theorem q199 : (Jvm.Cond.classLink "Icehighway" (56 : Nat) "java/lang/IllegalStateException") ∈ WL := WL_t (in_tables_1_1 (List.mem_of_getElem? (i := 199) rfl)) rfl
theorem q200 : (Jvm.Cond.instantiable "java/lang/IllegalStateException" (6 : Nat)) ∈ WL := WL_t (in_tables_1_1 (List.mem_of_getElem? (i := 200) rfl)) rfl
theorem q201 : (Jvm.Cond.castable "java/lang/IllegalStateException" "java/lang/IllegalStateException") ∈ XL := XL_t (in_tables_1_1 (List.mem_of_getElem? (i := 201) rfl)) rfl
theorem q202 : (Jvm.Cond.selects "java/lang/IllegalStateException" ({ cls := "java/lang/Throwable", name := "fillInStackTrace", desc := "(I)Ljava/lang/Throwable;" } : Jvm.MethodName) ({ cls := "java/lang/Throwable", name := "fillInStackTrace", desc := "(I)Ljava/lang/Throwable;" } : Jvm.MethodName)) ∈ WL := WL_t (in_tables_1_1 (List.mem_of_getElem? (i := 202) rfl)) rfl
theorem q203 : (Jvm.Cond.lays "java/lang/IllegalStateException" "java/lang/Throwable" "cause" "Ljava/lang/Throwable;") ∈ WL := WL_t (in_tables_1_1 (List.mem_of_getElem? (i := 203) rfl)) rfl
theorem q204 : (Jvm.Cond.lays "java/lang/IllegalStateException" "java/lang/Throwable" "stackTrace" "[Ljava/lang/StackTraceElement;") ∈ WL := WL_t (in_tables_1_1 (List.mem_of_getElem? (i := 204) rfl)) rfl
theorem q205 : (Jvm.Cond.lays "java/lang/IllegalStateException" "java/lang/Throwable" "suppressedExceptions" "Ljava/util/List;") ∈ WL := WL_t (in_tables_1_1 (List.mem_of_getElem? (i := 205) rfl)) rfl
theorem q206 : (Jvm.Cond.lays "java/lang/IllegalStateException" "java/lang/Throwable" "detailMessage" "Ljava/lang/String;") ∈ WL := WL_t (in_tables_1_1 (List.mem_of_getElem? (i := 206) rfl)) rfl
theorem q207 : (Jvm.Cond.lays "java/lang/IllegalStateException" "java/lang/Throwable" "backtrace" "Ljava/lang/Object;") ∈ WL := WL_t (in_tables_1_1 (List.mem_of_getElem? (i := 207) rfl)) rfl
theorem q209 : (Jvm.Cond.methodLink "Icehighway" (60 : Nat) ({ cls := "java/lang/IllegalStateException", name := "<init>", desc := "(Ljava/lang/String;)V" } : Jvm.MethodName)) ∈ WL := WL_t (in_tables_1_1 (List.mem_of_getElem? (i := 209) rfl)) rfl
theorem q210 : (Jvm.Cond.instanceMethod ({ cls := "java/lang/IllegalStateException", name := "<init>", desc := "(Ljava/lang/String;)V" } : Jvm.MethodName)) ∈ WL := WL_t (in_tables_1_1 (List.mem_of_getElem? (i := 210) rfl)) rfl
theorem q211 : (Jvm.Cond.code ({ cls := "java/lang/IllegalStateException", name := "<init>", desc := "(Ljava/lang/String;)V" } : Jvm.MethodName) prog_11_method_2_code (2 : Nat) (Option.none : Option Jvm.ClassFile.FieldType)) ∈ WL := WL_t (in_tables_1_1 (List.mem_of_getElem? (i := 211) rfl)) rfl
theorem q212 : (Jvm.Cond.methodLink "java/lang/IllegalStateException" (7 : Nat) ({ cls := "java/lang/RuntimeException", name := "<init>", desc := "(Ljava/lang/String;)V" } : Jvm.MethodName)) ∈ WL := WL_t (in_tables_1_1 (List.mem_of_getElem? (i := 212) rfl)) rfl
theorem q213 : (Jvm.Cond.lays "java/lang/IllegalStateException" "java/lang/Throwable" "depth" "I") ∈ WL := WL_t (in_tables_1_1 (List.mem_of_getElem? (i := 213) rfl)) rfl
theorem q215 : (Jvm.Cond.classLink "Icehighway" (63 : Nat) "Icehighway$Piece") ∈ WL := WL_t (in_tables_1_1 (List.mem_of_getElem? (i := 215) rfl)) rfl
theorem q216 : (Jvm.Cond.instantiable "Icehighway$Piece" (16 : Nat)) ∈ WL := WL_t (in_tables_1_1 (List.mem_of_getElem? (i := 216) rfl)) rfl
theorem q217 : (Jvm.Cond.methodLink "Icehighway" (65 : Nat) ({ cls := "Icehighway$Piece", name := "<init>", desc := "(III)V" } : Jvm.MethodName)) ∈ WL := WL_t (in_tables_1_1 (List.mem_of_getElem? (i := 217) rfl)) rfl
theorem q218 : (Jvm.Cond.instanceMethod ({ cls := "Icehighway$Piece", name := "<init>", desc := "(III)V" } : Jvm.MethodName)) ∈ WL := WL_t (in_tables_1_1 (List.mem_of_getElem? (i := 218) rfl)) rfl
theorem q219 : (Jvm.Cond.code ({ cls := "Icehighway$Piece", name := "<init>", desc := "(III)V" } : Jvm.MethodName) prog_3_method_1_code (4 : Nat) (Option.none : Option Jvm.ClassFile.FieldType)) ∈ WL := WL_t (in_tables_1_1 (List.mem_of_getElem? (i := 219) rfl)) rfl
theorem q220 : (Jvm.Cond.methodLink "Icehighway$Piece" (3 : Nat) ({ cls := "java/lang/Object", name := "<init>", desc := "()V" } : Jvm.MethodName)) ∈ WL := WL_t (in_tables_1_1 (List.mem_of_getElem? (i := 220) rfl)) rfl
theorem q221 : (Jvm.Cond.fieldLink "Icehighway$Piece" (52 : Nat) "Icehighway$Piece" "kind" "I") ∈ WL := WL_t (in_tables_1_1 (List.mem_of_getElem? (i := 221) rfl)) rfl
theorem q222 : (Jvm.Cond.fieldLink "Icehighway" (289 : Nat) "Icehighway$Piece" "kind" "I") ∈ WL := WL_t (in_tables_1_1 (List.mem_of_getElem? (i := 222) rfl)) rfl
theorem q223 : (Jvm.Cond.fieldLink "Icehighway$Piece" (55 : Nat) "Icehighway$Piece" "metres" "I") ∈ WL := WL_t (in_tables_1_1 (List.mem_of_getElem? (i := 223) rfl)) rfl
theorem q224 : (Jvm.Cond.fieldLink "Icehighway" (209 : Nat) "Icehighway$Piece" "metres" "I") ∈ WL := WL_t (in_tables_1_1 (List.mem_of_getElem? (i := 224) rfl)) rfl
theorem q225 : (Jvm.Cond.fieldLink "Icehighway$Piece" (58 : Nat) "Icehighway$Piece" "depth" "I") ∈ WL := WL_t (in_tables_1_1 (List.mem_of_getElem? (i := 225) rfl)) rfl
theorem q226 : (Jvm.Cond.fieldLink "Icehighway$Piece" (9 : Nat) "Icehighway$Piece" "black" "I") ∈ WL := WL_t (in_tables_1_1 (List.mem_of_getElem? (i := 226) rfl)) rfl
theorem q227 : (Jvm.Cond.fieldLink "Icehighway" (164 : Nat) "Icehighway$Piece" "black" "I") ∈ WL := WL_t (in_tables_1_1 (List.mem_of_getElem? (i := 227) rfl)) rfl
theorem q228 : (Jvm.Cond.fieldLink "Icehighway$Piece" (15 : Nat) "Icehighway$Piece" "white" "I") ∈ WL := WL_t (in_tables_1_1 (List.mem_of_getElem? (i := 228) rfl)) rfl
theorem q229 : (Jvm.Cond.fieldLink "Icehighway" (167 : Nat) "Icehighway$Piece" "white" "I") ∈ WL := WL_t (in_tables_1_1 (List.mem_of_getElem? (i := 229) rfl)) rfl
theorem q230 : (Jvm.Cond.fieldLink "Icehighway$Piece" (18 : Nat) "Icehighway$Piece" "water" "I") ∈ WL := WL_t (in_tables_1_1 (List.mem_of_getElem? (i := 230) rfl)) rfl
theorem q231 : (Jvm.Cond.fieldLink "Icehighway" (88 : Nat) "Icehighway$Piece" "water" "I") ∈ WL := WL_t (in_tables_1_1 (List.mem_of_getElem? (i := 231) rfl)) rfl
theorem q232 : (Jvm.Cond.fieldLink "Icehighway$Piece" (21 : Nat) "Icehighway$Piece" "snow" "I") ∈ WL := WL_t (in_tables_1_1 (List.mem_of_getElem? (i := 232) rfl)) rfl
theorem q233 : (Jvm.Cond.fieldLink "Icehighway" (75 : Nat) "Icehighway$Piece" "snow" "I") ∈ WL := WL_t (in_tables_1_1 (List.mem_of_getElem? (i := 233) rfl)) rfl
theorem q234 : (Jvm.Cond.fieldLink "Icehighway$Piece" (24 : Nat) "Icehighway$Piece" "crack" "I") ∈ WL := WL_t (in_tables_1_1 (List.mem_of_getElem? (i := 234) rfl)) rfl
theorem q235 : (Jvm.Cond.fieldLink "Icehighway" (170 : Nat) "Icehighway$Piece" "crack" "I") ∈ WL := WL_t (in_tables_1_1 (List.mem_of_getElem? (i := 235) rfl)) rfl
theorem q236 : (Jvm.Cond.fieldLink "Icehighway$Piece" (27 : Nat) "Icehighway$Piece" "openness" "I") ∈ WL := WL_t (in_tables_1_1 (List.mem_of_getElem? (i := 236) rfl)) rfl
theorem q237 : (Jvm.Cond.fieldLink "Icehighway" (101 : Nat) "Icehighway$Piece" "openness" "I") ∈ WL := WL_t (in_tables_1_1 (List.mem_of_getElem? (i := 237) rfl)) rfl
theorem q238 : (Jvm.Cond.fieldLink "Icehighway$Piece" (30 : Nat) "Icehighway$Piece" "speedLimit" "I") ∈ WL := WL_t (in_tables_1_1 (List.mem_of_getElem? (i := 238) rfl)) rfl
theorem q239 : (Jvm.Cond.fieldLink "Icehighway" (104 : Nat) "Icehighway$Piece" "speedLimit" "I") ∈ WL := WL_t (in_tables_1_1 (List.mem_of_getElem? (i := 239) rfl)) rfl
theorem q240 : (Jvm.Cond.fieldLink "Icehighway$Piece" (33 : Nat) "Icehighway$Piece" "known" "D") ∈ WL := WL_t (in_tables_1_2 (List.mem_of_getElem? (i := 0) rfl)) rfl
theorem q241 : (Jvm.Cond.fieldLink "Icehighway" (97 : Nat) "Icehighway$Piece" "known" "D") ∈ WL := WL_t (in_tables_1_2 (List.mem_of_getElem? (i := 1) rfl)) rfl
theorem q242 : (Jvm.Cond.fieldLink "Icehighway$Piece" (37 : Nat) "Icehighway$Piece" "onToMine" "I") ∈ WL := WL_t (in_tables_1_2 (List.mem_of_getElem? (i := 2) rfl)) rfl
theorem q243 : (Jvm.Cond.fieldLink "Icehighway" (173 : Nat) "Icehighway$Piece" "onToMine" "I") ∈ WL := WL_t (in_tables_1_2 (List.mem_of_getElem? (i := 3) rfl)) rfl
theorem q244 : (Jvm.Cond.fieldLink "Icehighway$Piece" (40 : Nat) "Icehighway$Piece" "onToBase" "I") ∈ WL := WL_t (in_tables_1_2 (List.mem_of_getElem? (i := 4) rfl)) rfl
theorem q245 : (Jvm.Cond.fieldLink "Icehighway" (176 : Nat) "Icehighway$Piece" "onToBase" "I") ∈ WL := WL_t (in_tables_1_2 (List.mem_of_getElem? (i := 5) rfl)) rfl
theorem q246 : (Jvm.Cond.fieldLink "Icehighway$Piece" (43 : Nat) "Icehighway$Piece" "weightOn" "I") ∈ WL := WL_t (in_tables_1_2 (List.mem_of_getElem? (i := 6) rfl)) rfl
theorem q247 : (Jvm.Cond.fieldLink "Icehighway" (277 : Nat) "Icehighway$Piece" "weightOn" "I") ∈ WL := WL_t (in_tables_1_2 (List.mem_of_getElem? (i := 7) rfl)) rfl
theorem q248 : (Jvm.Cond.fieldLink "Icehighway$Piece" (46 : Nat) "Icehighway$Piece" "lastToMine" "I") ∈ WL := WL_t (in_tables_1_2 (List.mem_of_getElem? (i := 8) rfl)) rfl
theorem q249 : (Jvm.Cond.fieldLink "Icehighway$Piece" (49 : Nat) "Icehighway$Piece" "lastToBase" "I") ∈ WL := WL_t (in_tables_1_2 (List.mem_of_getElem? (i := 9) rfl)) rfl
theorem q250 : (Jvm.Cond.laysFinal "Icehighway$Piece" "Icehighway$Piece" "kind" "I") ∈ WL := WL_t (in_tables_1_2 (List.mem_of_getElem? (i := 10) rfl)) rfl
theorem q252 : (Jvm.Cond.laysFinal "Icehighway$Piece" "Icehighway$Piece" "metres" "I") ∈ WL := WL_t (in_tables_1_2 (List.mem_of_getElem? (i := 12) rfl)) rfl
theorem q254 : (Jvm.Cond.laysFinal "Icehighway$Piece" "Icehighway$Piece" "depth" "I") ∈ WL := WL_t (in_tables_1_2 (List.mem_of_getElem? (i := 14) rfl)) rfl
theorem q256 : (Jvm.Cond.lays "Icehighway$Piece" "Icehighway$Piece" "black" "I") ∈ WL := WL_t (in_tables_1_2 (List.mem_of_getElem? (i := 16) rfl)) rfl
theorem q258 : (Jvm.Cond.lays "Icehighway$Piece" "Icehighway$Piece" "white" "I") ∈ WL := WL_t (in_tables_1_2 (List.mem_of_getElem? (i := 18) rfl)) rfl
theorem q260 : (Jvm.Cond.lays "Icehighway$Piece" "Icehighway$Piece" "water" "I") ∈ WL := WL_t (in_tables_1_2 (List.mem_of_getElem? (i := 20) rfl)) rfl
theorem q262 : (Jvm.Cond.lays "Icehighway$Piece" "Icehighway$Piece" "snow" "I") ∈ WL := WL_t (in_tables_1_2 (List.mem_of_getElem? (i := 22) rfl)) rfl
theorem q264 : (Jvm.Cond.lays "Icehighway$Piece" "Icehighway$Piece" "crack" "I") ∈ WL := WL_t (in_tables_1_2 (List.mem_of_getElem? (i := 24) rfl)) rfl
theorem q266 : (Jvm.Cond.lays "Icehighway$Piece" "Icehighway$Piece" "openness" "I") ∈ WL := WL_t (in_tables_1_2 (List.mem_of_getElem? (i := 26) rfl)) rfl
theorem q268 : (Jvm.Cond.lays "Icehighway$Piece" "Icehighway$Piece" "speedLimit" "I") ∈ WL := WL_t (in_tables_1_2 (List.mem_of_getElem? (i := 28) rfl)) rfl
theorem q270 : (Jvm.Cond.lays "Icehighway$Piece" "Icehighway$Piece" "known" "D") ∈ WL := WL_t (in_tables_1_2 (List.mem_of_getElem? (i := 30) rfl)) rfl
theorem q272 : (Jvm.Cond.lays "Icehighway$Piece" "Icehighway$Piece" "onToMine" "I") ∈ WL := WL_t (in_tables_1_2 (List.mem_of_getElem? (i := 32) rfl)) rfl
theorem q274 : (Jvm.Cond.lays "Icehighway$Piece" "Icehighway$Piece" "onToBase" "I") ∈ WL := WL_t (in_tables_1_2 (List.mem_of_getElem? (i := 34) rfl)) rfl
theorem q276 : (Jvm.Cond.lays "Icehighway$Piece" "Icehighway$Piece" "weightOn" "I") ∈ WL := WL_t (in_tables_1_2 (List.mem_of_getElem? (i := 36) rfl)) rfl
theorem q278 : (Jvm.Cond.lays "Icehighway$Piece" "Icehighway$Piece" "lastToMine" "I") ∈ WL := WL_t (in_tables_1_2 (List.mem_of_getElem? (i := 38) rfl)) rfl
theorem q280 : (Jvm.Cond.lays "Icehighway$Piece" "Icehighway$Piece" "lastToBase" "I") ∈ WL := WL_t (in_tables_1_2 (List.mem_of_getElem? (i := 40) rfl)) rfl
theorem q284 : (Jvm.Cond.methodLink "Icehighway" (67 : Nat) ({ cls := "java/util/List", name := "add", desc := "(Ljava/lang/Object;)Z" } : Jvm.MethodName)) ∈ WL := WL_t (in_tables_1_2 (List.mem_of_getElem? (i := 44) rfl)) rfl
theorem q285 : (Jvm.Cond.interfaceMethod "java/util/List" "java/util/List" "add" "(Ljava/lang/Object;)Z") ∈ XL := XL_t (in_tables_1_2 (List.mem_of_getElem? (i := 45) rfl)) rfl
theorem q286 : (Jvm.Cond.declares ({ cls := "java/util/List", name := "add", desc := "(Ljava/lang/Object;)Z" } : Jvm.MethodName)) ∈ XL := XL_t (in_tables_1_2 (List.mem_of_getElem? (i := 46) rfl)) rfl
theorem q287 : (Jvm.Cond.selects "java/util/ArrayList" ({ cls := "java/util/List", name := "add", desc := "(Ljava/lang/Object;)Z" } : Jvm.MethodName) ({ cls := "java/util/ArrayList", name := "add", desc := "(Ljava/lang/Object;)Z" } : Jvm.MethodName)) ∈ WL := WL_t (in_tables_1_2 (List.mem_of_getElem? (i := 47) rfl)) rfl
theorem q288 : (Jvm.Cond.unhidden "java/util/ArrayList" "add" "(Ljava/lang/Object;)Z") ∈ XL := XL_t (in_tables_1_2 (List.mem_of_getElem? (i := 48) rfl)) rfl
theorem q289 : (Jvm.Cond.instanceMethod ({ cls := "java/util/ArrayList", name := "add", desc := "(Ljava/lang/Object;)Z" } : Jvm.MethodName)) ∈ WL := WL_t (in_tables_1_2 (List.mem_of_getElem? (i := 49) rfl)) rfl
theorem q290 : (Jvm.Cond.publicMethod ({ cls := "java/util/ArrayList", name := "add", desc := "(Ljava/lang/Object;)Z" } : Jvm.MethodName)) ∈ XL := XL_t (in_tables_1_2 (List.mem_of_getElem? (i := 50) rfl)) rfl
theorem q291 : (Jvm.Cond.code ({ cls := "java/util/ArrayList", name := "add", desc := "(Ljava/lang/Object;)Z" } : Jvm.MethodName) prog_21_method_25_code (2 : Nat) (Option.some Jvm.ClassFile.FieldType.boolean)) ∈ WL := WL_t (in_tables_1_2 (List.mem_of_getElem? (i := 51) rfl)) rfl
theorem q292 : (Jvm.Cond.methodLink "java/util/ArrayList" (131 : Nat) ({ cls := "java/util/ArrayList", name := "add", desc := "(Ljava/lang/Object;[Ljava/lang/Object;I)V" } : Jvm.MethodName)) ∈ WL := WL_t (in_tables_1_2 (List.mem_of_getElem? (i := 52) rfl)) rfl
theorem q293 : (Jvm.Cond.privateMethod ({ cls := "java/util/ArrayList", name := "add", desc := "(Ljava/lang/Object;[Ljava/lang/Object;I)V" } : Jvm.MethodName)) ∈ XL := XL_t (in_tables_1_2 (List.mem_of_getElem? (i := 53) rfl)) rfl
theorem q294 : (Jvm.Cond.instanceMethod ({ cls := "java/util/ArrayList", name := "add", desc := "(Ljava/lang/Object;[Ljava/lang/Object;I)V" } : Jvm.MethodName)) ∈ WL := WL_t (in_tables_1_2 (List.mem_of_getElem? (i := 54) rfl)) rfl
theorem q295 : (Jvm.Cond.code ({ cls := "java/util/ArrayList", name := "add", desc := "(Ljava/lang/Object;[Ljava/lang/Object;I)V" } : Jvm.MethodName) prog_21_method_24_code (4 : Nat) (Option.none : Option Jvm.ClassFile.FieldType)) ∈ WL := WL_t (in_tables_1_2 (List.mem_of_getElem? (i := 55) rfl)) rfl
theorem q296 : (Jvm.Cond.methodLink "java/util/ArrayList" (129 : Nat) ({ cls := "java/util/ArrayList", name := "grow", desc := "()[Ljava/lang/Object;" } : Jvm.MethodName)) ∈ WL := WL_t (in_tables_1_2 (List.mem_of_getElem? (i := 56) rfl)) rfl
theorem q297 : (Jvm.Cond.privateMethod ({ cls := "java/util/ArrayList", name := "grow", desc := "()[Ljava/lang/Object;" } : Jvm.MethodName)) ∈ XL := XL_t (in_tables_1_2 (List.mem_of_getElem? (i := 57) rfl)) rfl
theorem q298 : (Jvm.Cond.instanceMethod ({ cls := "java/util/ArrayList", name := "grow", desc := "()[Ljava/lang/Object;" } : Jvm.MethodName)) ∈ WL := WL_t (in_tables_1_2 (List.mem_of_getElem? (i := 58) rfl)) rfl
theorem q299 : (Jvm.Cond.code ({ cls := "java/util/ArrayList", name := "grow", desc := "()[Ljava/lang/Object;" } : Jvm.MethodName) prog_21_method_7_code (1 : Nat) (Option.some (Jvm.ClassFile.FieldType.array (Jvm.ClassFile.FieldType.object "java/lang/Object")))) ∈ WL := WL_t (in_tables_1_2 (List.mem_of_getElem? (i := 59) rfl)) rfl
theorem q300 : (Jvm.Cond.methodLink "java/util/ArrayList" (69 : Nat) ({ cls := "java/util/ArrayList", name := "grow", desc := "(I)[Ljava/lang/Object;" } : Jvm.MethodName)) ∈ WL := WL_t (in_tables_1_2 (List.mem_of_getElem? (i := 60) rfl)) rfl
theorem q301 : (Jvm.Cond.privateMethod ({ cls := "java/util/ArrayList", name := "grow", desc := "(I)[Ljava/lang/Object;" } : Jvm.MethodName)) ∈ XL := XL_t (in_tables_1_2 (List.mem_of_getElem? (i := 61) rfl)) rfl
theorem q302 : (Jvm.Cond.instanceMethod ({ cls := "java/util/ArrayList", name := "grow", desc := "(I)[Ljava/lang/Object;" } : Jvm.MethodName)) ∈ WL := WL_t (in_tables_1_2 (List.mem_of_getElem? (i := 62) rfl)) rfl
theorem q303 : (Jvm.Cond.code ({ cls := "java/util/ArrayList", name := "grow", desc := "(I)[Ljava/lang/Object;" } : Jvm.MethodName) prog_21_method_6_code (4 : Nat) (Option.some (Jvm.ClassFile.FieldType.array (Jvm.ClassFile.FieldType.object "java/lang/Object")))) ∈ WL := WL_t (in_tables_1_2 (List.mem_of_getElem? (i := 63) rfl)) rfl
theorem q304 : (Jvm.Cond.methodLink "java/util/ArrayList" (73 : Nat) ({ cls := "jdk/internal/util/ArraysSupport", name := "newLength", desc := "(III)I" } : Jvm.MethodName)) ∈ WL := WL_t (in_tables_1_2 (List.mem_of_getElem? (i := 64) rfl)) rfl
theorem q305 : (Jvm.Cond.static ({ cls := "jdk/internal/util/ArraysSupport", name := "newLength", desc := "(III)I" } : Jvm.MethodName)) ∈ WL := WL_t (in_tables_1_2 (List.mem_of_getElem? (i := 65) rfl)) rfl
theorem q306 : (Jvm.Cond.code ({ cls := "jdk/internal/util/ArraysSupport", name := "newLength", desc := "(III)I" } : Jvm.MethodName) prog_28_method_27_code (4 : Nat) (Option.some Jvm.ClassFile.FieldType.int)) ∈ WL := WL_t (in_tables_1_2 (List.mem_of_getElem? (i := 66) rfl)) rfl
theorem q307 : (Jvm.Cond.methodLink "jdk/internal/util/ArraysSupport" (194 : Nat) ({ cls := "java/lang/Math", name := "max", desc := "(II)I" } : Jvm.MethodName)) ∈ WL := WL_t (in_tables_1_2 (List.mem_of_getElem? (i := 67) rfl)) rfl
theorem q308 : (Jvm.Cond.constant "jdk/internal/util/ArraysSupport" (200 : Nat) (2147483639 : Int32)) ∈ WL := WL_t (in_tables_1_2 (List.mem_of_getElem? (i := 68) rfl)) rfl
theorem q309 : (Jvm.Cond.methodLink "jdk/internal/util/ArraysSupport" (201 : Nat) ({ cls := "jdk/internal/util/ArraysSupport", name := "hugeLength", desc := "(II)I" } : Jvm.MethodName)) ∈ WL := WL_t (in_tables_1_2 (List.mem_of_getElem? (i := 69) rfl)) rfl
theorem q310 : (Jvm.Cond.static ({ cls := "jdk/internal/util/ArraysSupport", name := "hugeLength", desc := "(II)I" } : Jvm.MethodName)) ∈ WL := WL_t (in_tables_1_2 (List.mem_of_getElem? (i := 70) rfl)) rfl
theorem q311 : (Jvm.Cond.code ({ cls := "jdk/internal/util/ArraysSupport", name := "hugeLength", desc := "(II)I" } : Jvm.MethodName) prog_28_method_28_code (3 : Nat) (Option.some Jvm.ClassFile.FieldType.int)) ∈ WL := WL_t (in_tables_1_2 (List.mem_of_getElem? (i := 71) rfl)) rfl
theorem q312 : (Jvm.Cond.methodLink "java/util/ArrayList" (66 : Nat) ({ cls := "java/util/Arrays", name := "copyOf", desc := "([Ljava/lang/Object;I)[Ljava/lang/Object;" } : Jvm.MethodName)) ∈ WL := WL_t (in_tables_1_2 (List.mem_of_getElem? (i := 72) rfl)) rfl
theorem q313 : (Jvm.Cond.static ({ cls := "java/util/Arrays", name := "copyOf", desc := "([Ljava/lang/Object;I)[Ljava/lang/Object;" } : Jvm.MethodName)) ∈ WL := WL_t (in_tables_1_2 (List.mem_of_getElem? (i := 73) rfl)) rfl
theorem q314 : (Jvm.Cond.code ({ cls := "java/util/Arrays", name := "copyOf", desc := "([Ljava/lang/Object;I)[Ljava/lang/Object;" } : Jvm.MethodName) prog_22_method_119_code (2 : Nat) (Option.some (Jvm.ClassFile.FieldType.array (Jvm.ClassFile.FieldType.object "java/lang/Object")))) ∈ WL := WL_t (in_tables_1_2 (List.mem_of_getElem? (i := 74) rfl)) rfl
theorem q315 : (Jvm.Cond.methodLink "java/util/Arrays" (86 : Nat) ({ cls := "java/lang/Object", name := "getClass", desc := "()Ljava/lang/Class;" } : Jvm.MethodName)) ∈ WL := WL_t (in_tables_1_2 (List.mem_of_getElem? (i := 75) rfl)) rfl
theorem q316 : (Jvm.Cond.instanceMethod ({ cls := "java/lang/Object", name := "getClass", desc := "()Ljava/lang/Class;" } : Jvm.MethodName)) ∈ WL := WL_t (in_tables_1_2 (List.mem_of_getElem? (i := 76) rfl)) rfl
theorem q317 : (Jvm.Cond.sameMethod "java/lang/Object" "java/lang/Object" "getClass" "()Ljava/lang/Class;") ∈ WL := WL_t (in_tables_1_2 (List.mem_of_getElem? (i := 77) rfl)) rfl
theorem q318 : (Jvm.Cond.selects "Icehighway" ({ cls := "java/lang/Object", name := "getClass", desc := "()Ljava/lang/Class;" } : Jvm.MethodName) ({ cls := "java/lang/Object", name := "getClass", desc := "()Ljava/lang/Class;" } : Jvm.MethodName)) ∈ WL := WL_t (in_tables_1_2 (List.mem_of_getElem? (i := 78) rfl)) rfl
theorem q319 : (Jvm.Cond.selects "Icehighway$Load" ({ cls := "java/lang/Object", name := "getClass", desc := "()Ljava/lang/Class;" } : Jvm.MethodName) ({ cls := "java/lang/Object", name := "getClass", desc := "()Ljava/lang/Class;" } : Jvm.MethodName)) ∈ WL := WL_t (in_tables_1_2 (List.mem_of_getElem? (i := 79) rfl)) rfl
theorem q320 : (Jvm.Cond.selects "Icehighway$Piece" ({ cls := "java/lang/Object", name := "getClass", desc := "()Ljava/lang/Class;" } : Jvm.MethodName) ({ cls := "java/lang/Object", name := "getClass", desc := "()Ljava/lang/Class;" } : Jvm.MethodName)) ∈ WL := WL_t (in_tables_1_2 (List.mem_of_getElem? (i := 80) rfl)) rfl
theorem q321 : (Jvm.Cond.selects "Icehighway$Vehicle" ({ cls := "java/lang/Object", name := "getClass", desc := "()Ljava/lang/Class;" } : Jvm.MethodName) ({ cls := "java/lang/Object", name := "getClass", desc := "()Ljava/lang/Class;" } : Jvm.MethodName)) ∈ WL := WL_t (in_tables_1_2 (List.mem_of_getElem? (i := 81) rfl)) rfl
theorem q322 : (Jvm.Cond.selects "IcehighwayModel" ({ cls := "java/lang/Object", name := "getClass", desc := "()Ljava/lang/Class;" } : Jvm.MethodName) ({ cls := "java/lang/Object", name := "getClass", desc := "()Ljava/lang/Class;" } : Jvm.MethodName)) ∈ WL := WL_t (in_tables_1_2 (List.mem_of_getElem? (i := 82) rfl)) rfl
theorem q323 : (Jvm.Cond.selects "java/lang/IllegalArgumentException" ({ cls := "java/lang/Object", name := "getClass", desc := "()Ljava/lang/Class;" } : Jvm.MethodName) ({ cls := "java/lang/Object", name := "getClass", desc := "()Ljava/lang/Class;" } : Jvm.MethodName)) ∈ WL := WL_t (in_tables_1_2 (List.mem_of_getElem? (i := 83) rfl)) rfl
theorem q324 : (Jvm.Cond.selects "java/lang/IllegalStateException" ({ cls := "java/lang/Object", name := "getClass", desc := "()Ljava/lang/Class;" } : Jvm.MethodName) ({ cls := "java/lang/Object", name := "getClass", desc := "()Ljava/lang/Class;" } : Jvm.MethodName)) ∈ WL := WL_t (in_tables_1_2 (List.mem_of_getElem? (i := 84) rfl)) rfl
theorem q325 : (Jvm.Cond.selects "java/lang/IndexOutOfBoundsException" ({ cls := "java/lang/Object", name := "getClass", desc := "()Ljava/lang/Class;" } : Jvm.MethodName) ({ cls := "java/lang/Object", name := "getClass", desc := "()Ljava/lang/Class;" } : Jvm.MethodName)) ∈ WL := WL_t (in_tables_1_2 (List.mem_of_getElem? (i := 85) rfl)) rfl
theorem q326 : (Jvm.Cond.selects "java/util/ArrayList" ({ cls := "java/lang/Object", name := "getClass", desc := "()Ljava/lang/Class;" } : Jvm.MethodName) ({ cls := "java/lang/Object", name := "getClass", desc := "()Ljava/lang/Class;" } : Jvm.MethodName)) ∈ WL := WL_t (in_tables_1_2 (List.mem_of_getElem? (i := 86) rfl)) rfl
theorem q327 : (Jvm.Cond.native ({ cls := "java/lang/Object", name := "getClass", desc := "()Ljava/lang/Class;" } : Jvm.MethodName)) ∈ WL := WL_t (in_tables_1_2 (List.mem_of_getElem? (i := 87) rfl)) rfl
theorem q328 : (Jvm.Cond.methodLink "java/util/Arrays" (300 : Nat) ({ cls := "java/util/Arrays", name := "copyOf", desc := "([Ljava/lang/Object;ILjava/lang/Class;)[Ljava/lang/Object;" } : Jvm.MethodName)) ∈ WL := WL_t (in_tables_1_2 (List.mem_of_getElem? (i := 88) rfl)) rfl
theorem q329 : (Jvm.Cond.static ({ cls := "java/util/Arrays", name := "copyOf", desc := "([Ljava/lang/Object;ILjava/lang/Class;)[Ljava/lang/Object;" } : Jvm.MethodName)) ∈ WL := WL_t (in_tables_1_2 (List.mem_of_getElem? (i := 89) rfl)) rfl
theorem q330 : (Jvm.Cond.code ({ cls := "java/util/Arrays", name := "copyOf", desc := "([Ljava/lang/Object;ILjava/lang/Class;)[Ljava/lang/Object;" } : Jvm.MethodName) prog_22_method_120_code (4 : Nat) (Option.some (Jvm.ClassFile.FieldType.array (Jvm.ClassFile.FieldType.object "java/lang/Object")))) ∈ WL := WL_t (in_tables_1_2 (List.mem_of_getElem? (i := 90) rfl)) rfl
theorem q331 : (Jvm.Cond.classLink "java/util/Arrays" (110 : Nat) "[Ljava/lang/Object;") ∈ WL := WL_t (in_tables_1_2 (List.mem_of_getElem? (i := 91) rfl)) rfl
theorem q333 : (Jvm.Cond.classLink "java/util/Arrays" (2 : Nat) "java/lang/Object") ∈ WL := WL_t (in_tables_1_2 (List.mem_of_getElem? (i := 93) rfl)) rfl
theorem q334 : (Jvm.Cond.methodLink "java/util/Arrays" (304 : Nat) ({ cls := "java/lang/Math", name := "min", desc := "(II)I" } : Jvm.MethodName)) ∈ WL := WL_t (in_tables_1_2 (List.mem_of_getElem? (i := 94) rfl)) rfl
theorem q335 : (Jvm.Cond.static ({ cls := "java/lang/Math", name := "min", desc := "(II)I" } : Jvm.MethodName)) ∈ WL := WL_t (in_tables_1_2 (List.mem_of_getElem? (i := 95) rfl)) rfl
theorem q336 : (Jvm.Cond.code ({ cls := "java/lang/Math", name := "min", desc := "(II)I" } : Jvm.MethodName) prog_14_method_69_code (2 : Nat) (Option.some Jvm.ClassFile.FieldType.int)) ∈ WL := WL_t (in_tables_1_2 (List.mem_of_getElem? (i := 96) rfl)) rfl
theorem q337 : (Jvm.Cond.methodLink "java/util/Arrays" (150 : Nat) ({ cls := "java/lang/System", name := "arraycopy", desc := "(Ljava/lang/Object;ILjava/lang/Object;II)V" } : Jvm.MethodName)) ∈ WL := WL_t (in_tables_1_2 (List.mem_of_getElem? (i := 97) rfl)) rfl
theorem q338 : (Jvm.Cond.static ({ cls := "java/lang/System", name := "arraycopy", desc := "(Ljava/lang/Object;ILjava/lang/Object;II)V" } : Jvm.MethodName)) ∈ WL := WL_t (in_tables_1_2 (List.mem_of_getElem? (i := 98) rfl)) rfl
theorem q339 : (Jvm.Cond.native ({ cls := "java/lang/System", name := "arraycopy", desc := "(Ljava/lang/Object;ILjava/lang/Object;II)V" } : Jvm.MethodName)) ∈ WL := WL_t (in_tables_1_2 (List.mem_of_getElem? (i := 99) rfl)) rfl
theorem q340 : (Jvm.Cond.methodLink "java/util/ArrayList" (79 : Nat) ({ cls := "java/lang/Math", name := "max", desc := "(II)I" } : Jvm.MethodName)) ∈ WL := WL_t (in_tables_1_2 (List.mem_of_getElem? (i := 100) rfl)) rfl
theorem q341 : (Jvm.Cond.classLink "java/util/ArrayList" (7 : Nat) "java/lang/Object") ∈ WL := WL_t (in_tables_1_2 (List.mem_of_getElem? (i := 101) rfl)) rfl
theorem q342 : (Jvm.Cond.methodLink "IcehighwayLaw" (111 : Nat) ({ cls := "IcehighwayLaw", name := "weather", desc := "(LIcehighway;I[J)I" } : Jvm.MethodName)) ∈ WL := WL_t (in_tables_1_2 (List.mem_of_getElem? (i := 102) rfl)) rfl
theorem q343 : (Jvm.Cond.static ({ cls := "IcehighwayLaw", name := "weather", desc := "(LIcehighway;I[J)I" } : Jvm.MethodName)) ∈ WL := WL_t (in_tables_1_2 (List.mem_of_getElem? (i := 103) rfl)) rfl
theorem q344 : (Jvm.Cond.codeWith ({ cls := "IcehighwayLaw", name := "weather", desc := "(LIcehighway;I[J)I" } : Jvm.MethodName) method_4_code (4 : Nat) (Option.some Jvm.ClassFile.FieldType.int) [((0 : Nat), (9 : Nat), (12 : Nat), (13 : Nat))]) ∈ WL := WL_t (in_tables_1_2 (List.mem_of_getElem? (i := 104) rfl)) rfl
theorem q345 : (Jvm.Cond.methodLink "IcehighwayLaw" (17 : Nat) ({ cls := "Icehighway", name := "weather", desc := "(I)I" } : Jvm.MethodName)) ∈ WL := WL_t (in_tables_1_2 (List.mem_of_getElem? (i := 105) rfl)) rfl
theorem q346 : (Jvm.Cond.instanceMethod ({ cls := "Icehighway", name := "weather", desc := "(I)I" } : Jvm.MethodName)) ∈ WL := WL_t (in_tables_1_2 (List.mem_of_getElem? (i := 106) rfl)) rfl
theorem q347 : (Jvm.Cond.selects "Icehighway" ({ cls := "Icehighway", name := "weather", desc := "(I)I" } : Jvm.MethodName) ({ cls := "Icehighway", name := "weather", desc := "(I)I" } : Jvm.MethodName)) ∈ WL := WL_t (in_tables_1_2 (List.mem_of_getElem? (i := 107) rfl)) rfl
theorem q348 : (Jvm.Cond.code ({ cls := "Icehighway", name := "weather", desc := "(I)I" } : Jvm.MethodName) prog_1_method_3_code (3 : Nat) (Option.some Jvm.ClassFile.FieldType.int)) ∈ WL := WL_t (in_tables_1_2 (List.mem_of_getElem? (i := 108) rfl)) rfl
theorem q349 : (Jvm.Cond.methodLink "IcehighwayLaw" (115 : Nat) ({ cls := "IcehighwayLaw", name := "snow", desc := "(LIcehighway;I[J)I" } : Jvm.MethodName)) ∈ WL := WL_t (in_tables_1_2 (List.mem_of_getElem? (i := 109) rfl)) rfl
theorem q350 : (Jvm.Cond.static ({ cls := "IcehighwayLaw", name := "snow", desc := "(LIcehighway;I[J)I" } : Jvm.MethodName)) ∈ WL := WL_t (in_tables_1_2 (List.mem_of_getElem? (i := 110) rfl)) rfl
theorem q351 : (Jvm.Cond.codeWith ({ cls := "IcehighwayLaw", name := "snow", desc := "(LIcehighway;I[J)I" } : Jvm.MethodName) method_5_code (4 : Nat) (Option.some Jvm.ClassFile.FieldType.int) [((0 : Nat), (9 : Nat), (12 : Nat), (13 : Nat))]) ∈ WL := WL_t (in_tables_1_2 (List.mem_of_getElem? (i := 111) rfl)) rfl
theorem q352 : (Jvm.Cond.methodLink "IcehighwayLaw" (21 : Nat) ({ cls := "Icehighway", name := "snow", desc := "(I)I" } : Jvm.MethodName)) ∈ WL := WL_t (in_tables_1_2 (List.mem_of_getElem? (i := 112) rfl)) rfl
theorem q353 : (Jvm.Cond.instanceMethod ({ cls := "Icehighway", name := "snow", desc := "(I)I" } : Jvm.MethodName)) ∈ WL := WL_t (in_tables_1_2 (List.mem_of_getElem? (i := 113) rfl)) rfl
theorem q354 : (Jvm.Cond.selects "Icehighway" ({ cls := "Icehighway", name := "snow", desc := "(I)I" } : Jvm.MethodName) ({ cls := "Icehighway", name := "snow", desc := "(I)I" } : Jvm.MethodName)) ∈ WL := WL_t (in_tables_1_2 (List.mem_of_getElem? (i := 114) rfl)) rfl
theorem q355 : (Jvm.Cond.code ({ cls := "Icehighway", name := "snow", desc := "(I)I" } : Jvm.MethodName) prog_1_method_4_code (3 : Nat) (Option.some Jvm.ClassFile.FieldType.int)) ∈ WL := WL_t (in_tables_1_2 (List.mem_of_getElem? (i := 115) rfl)) rfl
theorem q357 : (Jvm.Cond.methodLink "Icehighway" (71 : Nat) ({ cls := "java/util/List", name := "get", desc := "(I)Ljava/lang/Object;" } : Jvm.MethodName)) ∈ WL := WL_t (in_tables_1_2 (List.mem_of_getElem? (i := 117) rfl)) rfl
theorem q358 : (Jvm.Cond.interfaceMethod "java/util/List" "java/util/List" "get" "(I)Ljava/lang/Object;") ∈ XL := XL_t (in_tables_1_2 (List.mem_of_getElem? (i := 118) rfl)) rfl
theorem q359 : (Jvm.Cond.declares ({ cls := "java/util/List", name := "get", desc := "(I)Ljava/lang/Object;" } : Jvm.MethodName)) ∈ XL := XL_t (in_tables_1_2 (List.mem_of_getElem? (i := 119) rfl)) rfl
theorem q360 : (Jvm.Cond.selects "java/util/ArrayList" ({ cls := "java/util/List", name := "get", desc := "(I)Ljava/lang/Object;" } : Jvm.MethodName) ({ cls := "java/util/ArrayList", name := "get", desc := "(I)Ljava/lang/Object;" } : Jvm.MethodName)) ∈ WL := WL_t (in_tables_1_2 (List.mem_of_getElem? (i := 120) rfl)) rfl
theorem q361 : (Jvm.Cond.unhidden "java/util/ArrayList" "get" "(I)Ljava/lang/Object;") ∈ XL := XL_t (in_tables_1_2 (List.mem_of_getElem? (i := 121) rfl)) rfl
theorem q362 : (Jvm.Cond.instanceMethod ({ cls := "java/util/ArrayList", name := "get", desc := "(I)Ljava/lang/Object;" } : Jvm.MethodName)) ∈ WL := WL_t (in_tables_1_2 (List.mem_of_getElem? (i := 122) rfl)) rfl
theorem q363 : (Jvm.Cond.publicMethod ({ cls := "java/util/ArrayList", name := "get", desc := "(I)Ljava/lang/Object;" } : Jvm.MethodName)) ∈ XL := XL_t (in_tables_1_2 (List.mem_of_getElem? (i := 123) rfl)) rfl
theorem q364 : (Jvm.Cond.code ({ cls := "java/util/ArrayList", name := "get", desc := "(I)Ljava/lang/Object;" } : Jvm.MethodName) prog_21_method_20_code (2 : Nat) (Option.some (Jvm.ClassFile.FieldType.object "java/lang/Object"))) ∈ WL := WL_t (in_tables_1_2 (List.mem_of_getElem? (i := 124) rfl)) rfl
theorem q365 : (Jvm.Cond.methodLink "java/util/ArrayList" (118 : Nat) ({ cls := "java/util/Objects", name := "checkIndex", desc := "(II)I" } : Jvm.MethodName)) ∈ WL := WL_t (in_tables_1_2 (List.mem_of_getElem? (i := 125) rfl)) rfl
theorem q366 : (Jvm.Cond.static ({ cls := "java/util/Objects", name := "checkIndex", desc := "(II)I" } : Jvm.MethodName)) ∈ WL := WL_t (in_tables_1_2 (List.mem_of_getElem? (i := 126) rfl)) rfl
theorem q367 : (Jvm.Cond.code ({ cls := "java/util/Objects", name := "checkIndex", desc := "(II)I" } : Jvm.MethodName) prog_25_method_17_code (2 : Nat) (Option.some Jvm.ClassFile.FieldType.int)) ∈ WL := WL_t (in_tables_1_2 (List.mem_of_getElem? (i := 127) rfl)) rfl
theorem q368 : (Jvm.Cond.methodLink "java/util/Objects" (105 : Nat) ({ cls := "jdk/internal/util/Preconditions", name := "checkIndex", desc := "(IILjava/util/function/BiFunction;)I" } : Jvm.MethodName)) ∈ WL := WL_t (in_tables_1_2 (List.mem_of_getElem? (i := 128) rfl)) rfl
theorem q369 : (Jvm.Cond.static ({ cls := "jdk/internal/util/Preconditions", name := "checkIndex", desc := "(IILjava/util/function/BiFunction;)I" } : Jvm.MethodName)) ∈ WL := WL_t (in_tables_1_2 (List.mem_of_getElem? (i := 129) rfl)) rfl
theorem q370 : (Jvm.Cond.code ({ cls := "jdk/internal/util/Preconditions", name := "checkIndex", desc := "(IILjava/util/function/BiFunction;)I" } : Jvm.MethodName) prog_29_method_11_code (3 : Nat) (Option.some Jvm.ClassFile.FieldType.int)) ∈ WL := WL_t (in_tables_1_2 (List.mem_of_getElem? (i := 130) rfl)) rfl
theorem q371 : (Jvm.Cond.methodLink "java/util/ArrayList" (123 : Nat) ({ cls := "java/util/ArrayList", name := "elementData", desc := "(I)Ljava/lang/Object;" } : Jvm.MethodName)) ∈ WL := WL_t (in_tables_1_2 (List.mem_of_getElem? (i := 131) rfl)) rfl
theorem q372 : (Jvm.Cond.instanceMethod ({ cls := "java/util/ArrayList", name := "elementData", desc := "(I)Ljava/lang/Object;" } : Jvm.MethodName)) ∈ WL := WL_t (in_tables_1_2 (List.mem_of_getElem? (i := 132) rfl)) rfl
theorem q373 : (Jvm.Cond.selects "java/util/ArrayList" ({ cls := "java/util/ArrayList", name := "elementData", desc := "(I)Ljava/lang/Object;" } : Jvm.MethodName) ({ cls := "java/util/ArrayList", name := "elementData", desc := "(I)Ljava/lang/Object;" } : Jvm.MethodName)) ∈ WL := WL_t (in_tables_1_2 (List.mem_of_getElem? (i := 133) rfl)) rfl
theorem q374 : (Jvm.Cond.code ({ cls := "java/util/ArrayList", name := "elementData", desc := "(I)Ljava/lang/Object;" } : Jvm.MethodName) prog_21_method_18_code (2 : Nat) (Option.some (Jvm.ClassFile.FieldType.object "java/lang/Object"))) ∈ WL := WL_t (in_tables_1_2 (List.mem_of_getElem? (i := 134) rfl)) rfl
theorem q375 : (Jvm.Cond.methodLink "IcehighwayLaw" (118 : Nat) ({ cls := "IcehighwayLaw", name := "plough", desc := "(LIcehighway;I[J)I" } : Jvm.MethodName)) ∈ WL := WL_t (in_tables_1_2 (List.mem_of_getElem? (i := 135) rfl)) rfl
theorem q376 : (Jvm.Cond.static ({ cls := "IcehighwayLaw", name := "plough", desc := "(LIcehighway;I[J)I" } : Jvm.MethodName)) ∈ WL := WL_t (in_tables_1_2 (List.mem_of_getElem? (i := 136) rfl)) rfl
theorem q377 : (Jvm.Cond.codeWith ({ cls := "IcehighwayLaw", name := "plough", desc := "(LIcehighway;I[J)I" } : Jvm.MethodName) method_6_code (4 : Nat) (Option.some Jvm.ClassFile.FieldType.int) [((0 : Nat), (9 : Nat), (12 : Nat), (27 : Nat))]) ∈ WL := WL_t (in_tables_1_2 (List.mem_of_getElem? (i := 137) rfl)) rfl
theorem q378 : (Jvm.Cond.classLink "IcehighwayLaw" (27 : Nat) "java/lang/IndexOutOfBoundsException") ∈ WL := WL_t (in_tables_1_2 (List.mem_of_getElem? (i := 138) rfl)) rfl
theorem q379 : (Jvm.Cond.methodLink "IcehighwayLaw" (24 : Nat) ({ cls := "Icehighway", name := "plough", desc := "(I)I" } : Jvm.MethodName)) ∈ WL := WL_t (in_tables_1_2 (List.mem_of_getElem? (i := 139) rfl)) rfl
theorem q380 : (Jvm.Cond.instanceMethod ({ cls := "Icehighway", name := "plough", desc := "(I)I" } : Jvm.MethodName)) ∈ WL := WL_t (in_tables_1_2 (List.mem_of_getElem? (i := 140) rfl)) rfl
theorem q381 : (Jvm.Cond.selects "Icehighway" ({ cls := "Icehighway", name := "plough", desc := "(I)I" } : Jvm.MethodName) ({ cls := "Icehighway", name := "plough", desc := "(I)I" } : Jvm.MethodName)) ∈ WL := WL_t (in_tables_1_2 (List.mem_of_getElem? (i := 141) rfl)) rfl
theorem q382 : (Jvm.Cond.code ({ cls := "Icehighway", name := "plough", desc := "(I)I" } : Jvm.MethodName) prog_1_method_5_code (4 : Nat) (Option.some Jvm.ClassFile.FieldType.int)) ∈ WL := WL_t (in_tables_1_2 (List.mem_of_getElem? (i := 142) rfl)) rfl
theorem q383 : (Jvm.Cond.methodLink "Icehighway" (78 : Nat) ({ cls := "Icehighway", name := "pieceNumbered", desc := "(I)LIcehighway$Piece;" } : Jvm.MethodName)) ∈ WL := WL_t (in_tables_1_2 (List.mem_of_getElem? (i := 143) rfl)) rfl
theorem q384 : (Jvm.Cond.privateMethod ({ cls := "Icehighway", name := "pieceNumbered", desc := "(I)LIcehighway$Piece;" } : Jvm.MethodName)) ∈ XL := XL_t (in_tables_1_2 (List.mem_of_getElem? (i := 144) rfl)) rfl
theorem q385 : (Jvm.Cond.instanceMethod ({ cls := "Icehighway", name := "pieceNumbered", desc := "(I)LIcehighway$Piece;" } : Jvm.MethodName)) ∈ WL := WL_t (in_tables_1_2 (List.mem_of_getElem? (i := 145) rfl)) rfl
theorem q386 : (Jvm.Cond.code ({ cls := "Icehighway", name := "pieceNumbered", desc := "(I)LIcehighway$Piece;" } : Jvm.MethodName) prog_1_method_31_code (2 : Nat) (Option.some (Jvm.ClassFile.FieldType.object "Icehighway$Piece"))) ∈ WL := WL_t (in_tables_1_2 (List.mem_of_getElem? (i := 146) rfl)) rfl
theorem q387 : (Jvm.Cond.classLink "Icehighway" (230 : Nat) "java/lang/IndexOutOfBoundsException") ∈ WL := WL_t (in_tables_1_2 (List.mem_of_getElem? (i := 147) rfl)) rfl
theorem q388 : (Jvm.Cond.instantiable "java/lang/IndexOutOfBoundsException" (6 : Nat)) ∈ WL := WL_t (in_tables_1_2 (List.mem_of_getElem? (i := 148) rfl)) rfl
theorem q389 : (Jvm.Cond.castable "java/lang/IndexOutOfBoundsException" "java/lang/IndexOutOfBoundsException") ∈ XL := XL_t (in_tables_1_2 (List.mem_of_getElem? (i := 149) rfl)) rfl
theorem q390 : (Jvm.Cond.selects "java/lang/IndexOutOfBoundsException" ({ cls := "java/lang/Throwable", name := "fillInStackTrace", desc := "(I)Ljava/lang/Throwable;" } : Jvm.MethodName) ({ cls := "java/lang/Throwable", name := "fillInStackTrace", desc := "(I)Ljava/lang/Throwable;" } : Jvm.MethodName)) ∈ WL := WL_t (in_tables_1_2 (List.mem_of_getElem? (i := 150) rfl)) rfl
theorem q391 : (Jvm.Cond.lays "java/lang/IndexOutOfBoundsException" "java/lang/Throwable" "cause" "Ljava/lang/Throwable;") ∈ WL := WL_t (in_tables_1_2 (List.mem_of_getElem? (i := 151) rfl)) rfl
theorem q392 : (Jvm.Cond.lays "java/lang/IndexOutOfBoundsException" "java/lang/Throwable" "stackTrace" "[Ljava/lang/StackTraceElement;") ∈ WL := WL_t (in_tables_1_2 (List.mem_of_getElem? (i := 152) rfl)) rfl
theorem q393 : (Jvm.Cond.lays "java/lang/IndexOutOfBoundsException" "java/lang/Throwable" "suppressedExceptions" "Ljava/util/List;") ∈ WL := WL_t (in_tables_1_2 (List.mem_of_getElem? (i := 153) rfl)) rfl
theorem q394 : (Jvm.Cond.lays "java/lang/IndexOutOfBoundsException" "java/lang/Throwable" "detailMessage" "Ljava/lang/String;") ∈ WL := WL_t (in_tables_1_2 (List.mem_of_getElem? (i := 154) rfl)) rfl
theorem q395 : (Jvm.Cond.lays "java/lang/IndexOutOfBoundsException" "java/lang/Throwable" "backtrace" "Ljava/lang/Object;") ∈ WL := WL_t (in_tables_1_2 (List.mem_of_getElem? (i := 155) rfl)) rfl
theorem q397 : (Jvm.Cond.methodLink "Icehighway" (234 : Nat) ({ cls := "java/lang/IndexOutOfBoundsException", name := "<init>", desc := "(Ljava/lang/String;)V" } : Jvm.MethodName)) ∈ WL := WL_t (in_tables_1_2 (List.mem_of_getElem? (i := 157) rfl)) rfl
theorem q398 : (Jvm.Cond.instanceMethod ({ cls := "java/lang/IndexOutOfBoundsException", name := "<init>", desc := "(Ljava/lang/String;)V" } : Jvm.MethodName)) ∈ WL := WL_t (in_tables_1_2 (List.mem_of_getElem? (i := 158) rfl)) rfl
theorem q399 : (Jvm.Cond.code ({ cls := "java/lang/IndexOutOfBoundsException", name := "<init>", desc := "(Ljava/lang/String;)V" } : Jvm.MethodName) prog_12_method_2_code (2 : Nat) (Option.none : Option Jvm.ClassFile.FieldType)) ∈ WL := WL_t (in_tables_1_2 (List.mem_of_getElem? (i := 159) rfl)) rfl
theorem q400 : (Jvm.Cond.methodLink "java/lang/IndexOutOfBoundsException" (7 : Nat) ({ cls := "java/lang/RuntimeException", name := "<init>", desc := "(Ljava/lang/String;)V" } : Jvm.MethodName)) ∈ WL := WL_t (in_tables_1_2 (List.mem_of_getElem? (i := 160) rfl)) rfl
theorem q401 : (Jvm.Cond.lays "java/lang/IndexOutOfBoundsException" "java/lang/Throwable" "depth" "I") ∈ WL := WL_t (in_tables_1_2 (List.mem_of_getElem? (i := 161) rfl)) rfl
theorem q403 : (Jvm.Cond.methodLink "IcehighwayLaw" (121 : Nat) ({ cls := "IcehighwayLaw", name := "flood", desc := "(LIcehighway;II[J)I" } : Jvm.MethodName)) ∈ WL := WL_t (in_tables_1_2 (List.mem_of_getElem? (i := 163) rfl)) rfl
theorem q404 : (Jvm.Cond.static ({ cls := "IcehighwayLaw", name := "flood", desc := "(LIcehighway;II[J)I" } : Jvm.MethodName)) ∈ WL := WL_t (in_tables_1_2 (List.mem_of_getElem? (i := 164) rfl)) rfl
theorem q405 : (Jvm.Cond.codeWith ({ cls := "IcehighwayLaw", name := "flood", desc := "(LIcehighway;II[J)I" } : Jvm.MethodName) method_7_code (5 : Nat) (Option.some Jvm.ClassFile.FieldType.int) [((0 : Nat), (10 : Nat), (13 : Nat), (27 : Nat)), ((0 : Nat), (10 : Nat), (17 : Nat), (13 : Nat)), ((0 : Nat), (10 : Nat), (21 : Nat), (15 : Nat))]) ∈ WL := WL_t (in_tables_1_2 (List.mem_of_getElem? (i := 165) rfl)) rfl
theorem q406 : (Jvm.Cond.methodLink "IcehighwayLaw" (29 : Nat) ({ cls := "Icehighway", name := "flood", desc := "(II)I" } : Jvm.MethodName)) ∈ WL := WL_t (in_tables_1_2 (List.mem_of_getElem? (i := 166) rfl)) rfl
theorem q407 : (Jvm.Cond.instanceMethod ({ cls := "Icehighway", name := "flood", desc := "(II)I" } : Jvm.MethodName)) ∈ WL := WL_t (in_tables_1_2 (List.mem_of_getElem? (i := 167) rfl)) rfl
theorem q408 : (Jvm.Cond.selects "Icehighway" ({ cls := "Icehighway", name := "flood", desc := "(II)I" } : Jvm.MethodName) ({ cls := "Icehighway", name := "flood", desc := "(II)I" } : Jvm.MethodName)) ∈ WL := WL_t (in_tables_1_2 (List.mem_of_getElem? (i := 168) rfl)) rfl
theorem q409 : (Jvm.Cond.code ({ cls := "Icehighway", name := "flood", desc := "(II)I" } : Jvm.MethodName) prog_1_method_6_code (4 : Nat) (Option.some Jvm.ClassFile.FieldType.int)) ∈ WL := WL_t (in_tables_1_2 (List.mem_of_getElem? (i := 169) rfl)) rfl
theorem q410 : (Jvm.Cond.methodLink "Icehighway" (82 : Nat) ({ cls := "Icehighway$Piece", name := "isWaterPiece", desc := "()Z" } : Jvm.MethodName)) ∈ WL := WL_t (in_tables_1_2 (List.mem_of_getElem? (i := 170) rfl)) rfl
theorem q411 : (Jvm.Cond.instanceMethod ({ cls := "Icehighway$Piece", name := "isWaterPiece", desc := "()Z" } : Jvm.MethodName)) ∈ WL := WL_t (in_tables_1_2 (List.mem_of_getElem? (i := 171) rfl)) rfl
theorem q412 : (Jvm.Cond.selects "Icehighway$Piece" ({ cls := "Icehighway$Piece", name := "isWaterPiece", desc := "()Z" } : Jvm.MethodName) ({ cls := "Icehighway$Piece", name := "isWaterPiece", desc := "()Z" } : Jvm.MethodName)) ∈ WL := WL_t (in_tables_1_2 (List.mem_of_getElem? (i := 172) rfl)) rfl
theorem q413 : (Jvm.Cond.code ({ cls := "Icehighway$Piece", name := "isWaterPiece", desc := "()Z" } : Jvm.MethodName) prog_3_method_2_code (1 : Nat) (Option.some Jvm.ClassFile.FieldType.boolean)) ∈ WL := WL_t (in_tables_1_2 (List.mem_of_getElem? (i := 173) rfl)) rfl
theorem q414 : (Jvm.Cond.methodLink "Icehighway" (85 : Nat) ({ cls := "Icehighway$Piece", name := "hasIce", desc := "()Z" } : Jvm.MethodName)) ∈ WL := WL_t (in_tables_1_2 (List.mem_of_getElem? (i := 174) rfl)) rfl
theorem q415 : (Jvm.Cond.instanceMethod ({ cls := "Icehighway$Piece", name := "hasIce", desc := "()Z" } : Jvm.MethodName)) ∈ WL := WL_t (in_tables_1_2 (List.mem_of_getElem? (i := 175) rfl)) rfl
theorem q416 : (Jvm.Cond.selects "Icehighway$Piece" ({ cls := "Icehighway$Piece", name := "hasIce", desc := "()Z" } : Jvm.MethodName) ({ cls := "Icehighway$Piece", name := "hasIce", desc := "()Z" } : Jvm.MethodName)) ∈ WL := WL_t (in_tables_1_2 (List.mem_of_getElem? (i := 176) rfl)) rfl
theorem q417 : (Jvm.Cond.code ({ cls := "Icehighway$Piece", name := "hasIce", desc := "()Z" } : Jvm.MethodName) prog_3_method_3_code (1 : Nat) (Option.some Jvm.ClassFile.FieldType.boolean)) ∈ WL := WL_t (in_tables_1_2 (List.mem_of_getElem? (i := 177) rfl)) rfl
theorem q419 : (Jvm.Cond.methodLink "IcehighwayLaw" (125 : Nat) ({ cls := "IcehighwayLaw", name := "drill", desc := "(LIcehighway;I[D)I" } : Jvm.MethodName)) ∈ WL := WL_t (in_tables_1_2 (List.mem_of_getElem? (i := 179) rfl)) rfl
theorem q420 : (Jvm.Cond.static ({ cls := "IcehighwayLaw", name := "drill", desc := "(LIcehighway;I[D)I" } : Jvm.MethodName)) ∈ WL := WL_t (in_tables_1_2 (List.mem_of_getElem? (i := 180) rfl)) rfl
theorem q421 : (Jvm.Cond.codeWith ({ cls := "IcehighwayLaw", name := "drill", desc := "(LIcehighway;I[D)I" } : Jvm.MethodName) method_8_code (4 : Nat) (Option.some Jvm.ClassFile.FieldType.int) [((0 : Nat), (8 : Nat), (11 : Nat), (27 : Nat))]) ∈ WL := WL_t (in_tables_1_2 (List.mem_of_getElem? (i := 181) rfl)) rfl
theorem q422 : (Jvm.Cond.methodLink "IcehighwayLaw" (33 : Nat) ({ cls := "Icehighway", name := "drill", desc := "(I)D" } : Jvm.MethodName)) ∈ WL := WL_t (in_tables_1_2 (List.mem_of_getElem? (i := 182) rfl)) rfl
theorem q423 : (Jvm.Cond.instanceMethod ({ cls := "Icehighway", name := "drill", desc := "(I)D" } : Jvm.MethodName)) ∈ WL := WL_t (in_tables_1_2 (List.mem_of_getElem? (i := 183) rfl)) rfl
theorem q424 : (Jvm.Cond.selects "Icehighway" ({ cls := "Icehighway", name := "drill", desc := "(I)D" } : Jvm.MethodName) ({ cls := "Icehighway", name := "drill", desc := "(I)D" } : Jvm.MethodName)) ∈ WL := WL_t (in_tables_1_2 (List.mem_of_getElem? (i := 184) rfl)) rfl
theorem q425 : (Jvm.Cond.code ({ cls := "Icehighway", name := "drill", desc := "(I)D" } : Jvm.MethodName) prog_1_method_7_code (3 : Nat) (Option.some Jvm.ClassFile.FieldType.double)) ∈ WL := WL_t (in_tables_1_2 (List.mem_of_getElem? (i := 185) rfl)) rfl
theorem q426 : (Jvm.Cond.methodLink "Icehighway" (93 : Nat) ({ cls := "Icehighway$Piece", name := "realThickness", desc := "()D" } : Jvm.MethodName)) ∈ WL := WL_t (in_tables_1_2 (List.mem_of_getElem? (i := 186) rfl)) rfl
theorem q427 : (Jvm.Cond.instanceMethod ({ cls := "Icehighway$Piece", name := "realThickness", desc := "()D" } : Jvm.MethodName)) ∈ WL := WL_t (in_tables_1_2 (List.mem_of_getElem? (i := 187) rfl)) rfl
theorem q428 : (Jvm.Cond.selects "Icehighway$Piece" ({ cls := "Icehighway$Piece", name := "realThickness", desc := "()D" } : Jvm.MethodName) ({ cls := "Icehighway$Piece", name := "realThickness", desc := "()D" } : Jvm.MethodName)) ∈ WL := WL_t (in_tables_1_2 (List.mem_of_getElem? (i := 188) rfl)) rfl
theorem q429 : (Jvm.Cond.code ({ cls := "Icehighway$Piece", name := "realThickness", desc := "()D" } : Jvm.MethodName) prog_3_method_4_code (1 : Nat) (Option.some Jvm.ClassFile.FieldType.double)) ∈ WL := WL_t (in_tables_1_2 (List.mem_of_getElem? (i := 189) rfl)) rfl
theorem q430 : (Jvm.Cond.constantDouble "Icehighway$Piece" (61 : Nat) (4602678819172646912 : UInt64)) ∈ WL := WL_t (in_tables_1_2 (List.mem_of_getElem? (i := 190) rfl)) rfl
theorem q431 : (Jvm.Cond.methodLink "IcehighwayLaw" (129 : Nat) ({ cls := "IcehighwayLaw", name := "open", desc := "(LIcehighway;II[J)I" } : Jvm.MethodName)) ∈ WL := WL_t (in_tables_1_2 (List.mem_of_getElem? (i := 191) rfl)) rfl
theorem q432 : (Jvm.Cond.static ({ cls := "IcehighwayLaw", name := "open", desc := "(LIcehighway;II[J)I" } : Jvm.MethodName)) ∈ WL := WL_t (in_tables_1_2 (List.mem_of_getElem? (i := 192) rfl)) rfl
theorem q433 : (Jvm.Cond.codeWith ({ cls := "IcehighwayLaw", name := "open", desc := "(LIcehighway;II[J)I" } : Jvm.MethodName) method_9_code (5 : Nat) (Option.some Jvm.ClassFile.FieldType.int) [((0 : Nat), (10 : Nat), (13 : Nat), (27 : Nat)), ((0 : Nat), (10 : Nat), (17 : Nat), (13 : Nat))]) ∈ WL := WL_t (in_tables_1_2 (List.mem_of_getElem? (i := 193) rfl)) rfl
theorem q434 : (Jvm.Cond.methodLink "IcehighwayLaw" (37 : Nat) ({ cls := "Icehighway", name := "open", desc := "(II)I" } : Jvm.MethodName)) ∈ WL := WL_t (in_tables_1_2 (List.mem_of_getElem? (i := 194) rfl)) rfl
theorem q435 : (Jvm.Cond.instanceMethod ({ cls := "Icehighway", name := "open", desc := "(II)I" } : Jvm.MethodName)) ∈ WL := WL_t (in_tables_1_2 (List.mem_of_getElem? (i := 195) rfl)) rfl
theorem q436 : (Jvm.Cond.selects "Icehighway" ({ cls := "Icehighway", name := "open", desc := "(II)I" } : Jvm.MethodName) ({ cls := "Icehighway", name := "open", desc := "(II)I" } : Jvm.MethodName)) ∈ WL := WL_t (in_tables_1_2 (List.mem_of_getElem? (i := 196) rfl)) rfl
theorem q437 : (Jvm.Cond.code ({ cls := "Icehighway", name := "open", desc := "(II)I" } : Jvm.MethodName) prog_1_method_8_code (5 : Nat) (Option.some Jvm.ClassFile.FieldType.int)) ∈ WL := WL_t (in_tables_1_2 (List.mem_of_getElem? (i := 197) rfl)) rfl
theorem q438 : (Jvm.Cond.methodLink "IcehighwayLaw" (132 : Nat) ({ cls := "IcehighwayLaw", name := "limit", desc := "(LIcehighway;II[J)I" } : Jvm.MethodName)) ∈ WL := WL_t (in_tables_1_2 (List.mem_of_getElem? (i := 198) rfl)) rfl
theorem q439 : (Jvm.Cond.static ({ cls := "IcehighwayLaw", name := "limit", desc := "(LIcehighway;II[J)I" } : Jvm.MethodName)) ∈ WL := WL_t (in_tables_1_2 (List.mem_of_getElem? (i := 199) rfl)) rfl
theorem q440 : (Jvm.Cond.codeWith ({ cls := "IcehighwayLaw", name := "limit", desc := "(LIcehighway;II[J)I" } : Jvm.MethodName) method_10_code (5 : Nat) (Option.some Jvm.ClassFile.FieldType.int) [((0 : Nat), (10 : Nat), (13 : Nat), (27 : Nat)), ((0 : Nat), (10 : Nat), (17 : Nat), (13 : Nat))]) ∈ WL := WL_t (in_tables_1_2 (List.mem_of_getElem? (i := 200) rfl)) rfl
theorem q441 : (Jvm.Cond.methodLink "IcehighwayLaw" (40 : Nat) ({ cls := "Icehighway", name := "limit", desc := "(II)I" } : Jvm.MethodName)) ∈ WL := WL_t (in_tables_1_2 (List.mem_of_getElem? (i := 201) rfl)) rfl
theorem q442 : (Jvm.Cond.instanceMethod ({ cls := "Icehighway", name := "limit", desc := "(II)I" } : Jvm.MethodName)) ∈ WL := WL_t (in_tables_1_2 (List.mem_of_getElem? (i := 202) rfl)) rfl
theorem q443 : (Jvm.Cond.selects "Icehighway" ({ cls := "Icehighway", name := "limit", desc := "(II)I" } : Jvm.MethodName) ({ cls := "Icehighway", name := "limit", desc := "(II)I" } : Jvm.MethodName)) ∈ WL := WL_t (in_tables_1_2 (List.mem_of_getElem? (i := 203) rfl)) rfl
theorem q444 : (Jvm.Cond.code ({ cls := "Icehighway", name := "limit", desc := "(II)I" } : Jvm.MethodName) prog_1_method_9_code (5 : Nat) (Option.some Jvm.ClassFile.FieldType.int)) ∈ WL := WL_t (in_tables_1_2 (List.mem_of_getElem? (i := 204) rfl)) rfl
theorem q445 : (Jvm.Cond.methodLink "IcehighwayLaw" (135 : Nat) ({ cls := "IcehighwayLaw", name := "gap", desc := "(LIcehighway;I[J)I" } : Jvm.MethodName)) ∈ WL := WL_t (in_tables_1_2 (List.mem_of_getElem? (i := 205) rfl)) rfl
theorem q446 : (Jvm.Cond.static ({ cls := "IcehighwayLaw", name := "gap", desc := "(LIcehighway;I[J)I" } : Jvm.MethodName)) ∈ WL := WL_t (in_tables_1_2 (List.mem_of_getElem? (i := 206) rfl)) rfl
theorem q447 : (Jvm.Cond.codeWith ({ cls := "IcehighwayLaw", name := "gap", desc := "(LIcehighway;I[J)I" } : Jvm.MethodName) method_11_code (4 : Nat) (Option.some Jvm.ClassFile.FieldType.int) [((0 : Nat), (9 : Nat), (12 : Nat), (13 : Nat))]) ∈ WL := WL_t (in_tables_1_2 (List.mem_of_getElem? (i := 207) rfl)) rfl
theorem q448 : (Jvm.Cond.methodLink "IcehighwayLaw" (43 : Nat) ({ cls := "Icehighway", name := "gap", desc := "(I)I" } : Jvm.MethodName)) ∈ WL := WL_t (in_tables_1_2 (List.mem_of_getElem? (i := 208) rfl)) rfl
theorem q449 : (Jvm.Cond.instanceMethod ({ cls := "Icehighway", name := "gap", desc := "(I)I" } : Jvm.MethodName)) ∈ WL := WL_t (in_tables_1_2 (List.mem_of_getElem? (i := 209) rfl)) rfl
theorem q450 : (Jvm.Cond.selects "Icehighway" ({ cls := "Icehighway", name := "gap", desc := "(I)I" } : Jvm.MethodName) ({ cls := "Icehighway", name := "gap", desc := "(I)I" } : Jvm.MethodName)) ∈ WL := WL_t (in_tables_1_2 (List.mem_of_getElem? (i := 210) rfl)) rfl
theorem q451 : (Jvm.Cond.code ({ cls := "Icehighway", name := "gap", desc := "(I)I" } : Jvm.MethodName) prog_1_method_10_code (3 : Nat) (Option.some Jvm.ClassFile.FieldType.int)) ∈ WL := WL_t (in_tables_1_2 (List.mem_of_getElem? (i := 211) rfl)) rfl
theorem q452 : (Jvm.Cond.methodLink "IcehighwayLaw" (138 : Nat) ({ cls := "IcehighwayLaw", name := "vehicle", desc := "(LIcehighway;III[J)I" } : Jvm.MethodName)) ∈ WL := WL_t (in_tables_1_2 (List.mem_of_getElem? (i := 212) rfl)) rfl
theorem q453 : (Jvm.Cond.static ({ cls := "IcehighwayLaw", name := "vehicle", desc := "(LIcehighway;III[J)I" } : Jvm.MethodName)) ∈ WL := WL_t (in_tables_1_2 (List.mem_of_getElem? (i := 213) rfl)) rfl
theorem q454 : (Jvm.Cond.codeWith ({ cls := "IcehighwayLaw", name := "vehicle", desc := "(LIcehighway;III[J)I" } : Jvm.MethodName) method_12_code (6 : Nat) (Option.some Jvm.ClassFile.FieldType.int) [((0 : Nat), (12 : Nat), (15 : Nat), (13 : Nat)), ((0 : Nat), (12 : Nat), (19 : Nat), (15 : Nat))]) ∈ WL := WL_t (in_tables_1_2 (List.mem_of_getElem? (i := 214) rfl)) rfl
theorem q455 : (Jvm.Cond.methodLink "IcehighwayLaw" (46 : Nat) ({ cls := "Icehighway", name := "vehicle", desc := "(III)I" } : Jvm.MethodName)) ∈ WL := WL_t (in_tables_1_2 (List.mem_of_getElem? (i := 215) rfl)) rfl
theorem q456 : (Jvm.Cond.instanceMethod ({ cls := "Icehighway", name := "vehicle", desc := "(III)I" } : Jvm.MethodName)) ∈ WL := WL_t (in_tables_1_2 (List.mem_of_getElem? (i := 216) rfl)) rfl
theorem q457 : (Jvm.Cond.selects "Icehighway" ({ cls := "Icehighway", name := "vehicle", desc := "(III)I" } : Jvm.MethodName) ({ cls := "Icehighway", name := "vehicle", desc := "(III)I" } : Jvm.MethodName)) ∈ WL := WL_t (in_tables_1_2 (List.mem_of_getElem? (i := 217) rfl)) rfl
theorem q458 : (Jvm.Cond.code ({ cls := "Icehighway", name := "vehicle", desc := "(III)I" } : Jvm.MethodName) prog_1_method_11_code (4 : Nat) (Option.some Jvm.ClassFile.FieldType.int)) ∈ WL := WL_t (in_tables_1_2 (List.mem_of_getElem? (i := 218) rfl)) rfl
theorem q459 : (Jvm.Cond.constant "Icehighway" (107 : Nat) (40000 : Int32)) ∈ WL := WL_t (in_tables_1_2 (List.mem_of_getElem? (i := 219) rfl)) rfl
theorem q460 : (Jvm.Cond.constant "Icehighway" (108 : Nat) (60000 : Int32)) ∈ WL := WL_t (in_tables_1_2 (List.mem_of_getElem? (i := 220) rfl)) rfl
theorem q462 : (Jvm.Cond.classLink "Icehighway" (111 : Nat) "Icehighway$Vehicle") ∈ WL := WL_t (in_tables_1_2 (List.mem_of_getElem? (i := 222) rfl)) rfl
theorem q463 : (Jvm.Cond.instantiable "Icehighway$Vehicle" (8 : Nat)) ∈ WL := WL_t (in_tables_1_2 (List.mem_of_getElem? (i := 223) rfl)) rfl
theorem q464 : (Jvm.Cond.methodLink "Icehighway" (113 : Nat) ({ cls := "Icehighway$Vehicle", name := "<init>", desc := "(III)V" } : Jvm.MethodName)) ∈ WL := WL_t (in_tables_1_2 (List.mem_of_getElem? (i := 224) rfl)) rfl
theorem q465 : (Jvm.Cond.instanceMethod ({ cls := "Icehighway$Vehicle", name := "<init>", desc := "(III)V" } : Jvm.MethodName)) ∈ WL := WL_t (in_tables_1_2 (List.mem_of_getElem? (i := 225) rfl)) rfl
theorem q466 : (Jvm.Cond.code ({ cls := "Icehighway$Vehicle", name := "<init>", desc := "(III)V" } : Jvm.MethodName) prog_4_method_1_code (4 : Nat) (Option.none : Option Jvm.ClassFile.FieldType)) ∈ WL := WL_t (in_tables_1_2 (List.mem_of_getElem? (i := 226) rfl)) rfl
theorem q467 : (Jvm.Cond.methodLink "Icehighway$Vehicle" (3 : Nat) ({ cls := "java/lang/Object", name := "<init>", desc := "()V" } : Jvm.MethodName)) ∈ WL := WL_t (in_tables_1_2 (List.mem_of_getElem? (i := 227) rfl)) rfl
theorem q468 : (Jvm.Cond.fieldLink "Icehighway$Vehicle" (29 : Nat) "Icehighway$Vehicle" "empty" "I") ∈ WL := WL_t (in_tables_1_2 (List.mem_of_getElem? (i := 228) rfl)) rfl
theorem q469 : (Jvm.Cond.fieldLink "Icehighway$Vehicle" (32 : Nat) "Icehighway$Vehicle" "carries" "I") ∈ WL := WL_t (in_tables_1_2 (List.mem_of_getElem? (i := 229) rfl)) rfl
theorem q470 : (Jvm.Cond.fieldLink "Icehighway" (122 : Nat) "Icehighway$Vehicle" "carries" "I") ∈ WL := WL_t (in_tables_1_2 (List.mem_of_getElem? (i := 230) rfl)) rfl
theorem q471 : (Jvm.Cond.fieldLink "Icehighway$Vehicle" (35 : Nat) "Icehighway$Vehicle" "ownSpeed" "I") ∈ WL := WL_t (in_tables_1_2 (List.mem_of_getElem? (i := 231) rfl)) rfl
theorem q472 : (Jvm.Cond.fieldLink "Icehighway$Piece" (89 : Nat) "Icehighway$Vehicle" "ownSpeed" "I") ∈ WL := WL_t (in_tables_1_2 (List.mem_of_getElem? (i := 232) rfl)) rfl
theorem q473 : (Jvm.Cond.fieldLink "Icehighway$Vehicle" (9 : Nat) "Icehighway$Vehicle" "where" "I") ∈ WL := WL_t (in_tables_1_2 (List.mem_of_getElem? (i := 233) rfl)) rfl
theorem q474 : (Jvm.Cond.fieldLink "Icehighway" (125 : Nat) "Icehighway$Vehicle" "where" "I") ∈ WL := WL_t (in_tables_1_2 (List.mem_of_getElem? (i := 234) rfl)) rfl
theorem q475 : (Jvm.Cond.fieldLink "Icehighway$Vehicle" (15 : Nat) "Icehighway$Vehicle" "between" "I") ∈ WL := WL_t (in_tables_1_2 (List.mem_of_getElem? (i := 235) rfl)) rfl
theorem q476 : (Jvm.Cond.fieldLink "Icehighway" (193 : Nat) "Icehighway$Vehicle" "between" "I") ∈ WL := WL_t (in_tables_1_2 (List.mem_of_getElem? (i := 236) rfl)) rfl
theorem q477 : (Jvm.Cond.fieldLink "Icehighway$Vehicle" (18 : Nat) "Icehighway$Vehicle" "isToMine" "Z") ∈ WL := WL_t (in_tables_1_2 (List.mem_of_getElem? (i := 237) rfl)) rfl
theorem q478 : (Jvm.Cond.fieldLink "Icehighway" (144 : Nat) "Icehighway$Vehicle" "isToMine" "Z") ∈ WL := WL_t (in_tables_1_2 (List.mem_of_getElem? (i := 238) rfl)) rfl
theorem q479 : (Jvm.Cond.fieldLink "Icehighway$Piece" (106 : Nat) "Icehighway$Vehicle" "isToMine" "Z") ∈ WL := WL_t (in_tables_1_2 (List.mem_of_getElem? (i := 239) rfl)) rfl
theorem q480 : (Jvm.Cond.fieldLink "Icehighway$Vehicle" (22 : Nat) "Icehighway$Vehicle" "overAt" "I") ∈ WL := WL_t (in_tables_1_3 (List.mem_of_getElem? (i := 0) rfl)) rfl
theorem q481 : (Jvm.Cond.fieldLink "Icehighway" (196 : Nat) "Icehighway$Vehicle" "overAt" "I") ∈ WL := WL_t (in_tables_1_3 (List.mem_of_getElem? (i := 1) rfl)) rfl
theorem q482 : (Jvm.Cond.fieldLink "Icehighway$Vehicle" (25 : Nat) "Icehighway$Vehicle" "cargo" "LIcehighway$Load;") ∈ WL := WL_t (in_tables_1_3 (List.mem_of_getElem? (i := 2) rfl)) rfl
theorem q483 : (Jvm.Cond.fieldLink "Icehighway" (128 : Nat) "Icehighway$Vehicle" "cargo" "LIcehighway$Load;") ∈ WL := WL_t (in_tables_1_3 (List.mem_of_getElem? (i := 3) rfl)) rfl
theorem q484 : (Jvm.Cond.laysFinal "Icehighway$Vehicle" "Icehighway$Vehicle" "empty" "I") ∈ WL := WL_t (in_tables_1_3 (List.mem_of_getElem? (i := 4) rfl)) rfl
theorem q486 : (Jvm.Cond.laysFinal "Icehighway$Vehicle" "Icehighway$Vehicle" "carries" "I") ∈ WL := WL_t (in_tables_1_3 (List.mem_of_getElem? (i := 6) rfl)) rfl
theorem q488 : (Jvm.Cond.laysFinal "Icehighway$Vehicle" "Icehighway$Vehicle" "ownSpeed" "I") ∈ WL := WL_t (in_tables_1_3 (List.mem_of_getElem? (i := 8) rfl)) rfl
theorem q490 : (Jvm.Cond.lays "Icehighway$Vehicle" "Icehighway$Vehicle" "where" "I") ∈ WL := WL_t (in_tables_1_3 (List.mem_of_getElem? (i := 10) rfl)) rfl
theorem q492 : (Jvm.Cond.lays "Icehighway$Vehicle" "Icehighway$Vehicle" "between" "I") ∈ WL := WL_t (in_tables_1_3 (List.mem_of_getElem? (i := 12) rfl)) rfl
theorem q494 : (Jvm.Cond.lays "Icehighway$Vehicle" "Icehighway$Vehicle" "isToMine" "Z") ∈ WL := WL_t (in_tables_1_3 (List.mem_of_getElem? (i := 14) rfl)) rfl
theorem q496 : (Jvm.Cond.lays "Icehighway$Vehicle" "Icehighway$Vehicle" "overAt" "I") ∈ WL := WL_t (in_tables_1_3 (List.mem_of_getElem? (i := 16) rfl)) rfl
theorem q498 : (Jvm.Cond.lays "Icehighway$Vehicle" "Icehighway$Vehicle" "cargo" "LIcehighway$Load;") ∈ WL := WL_t (in_tables_1_3 (List.mem_of_getElem? (i := 18) rfl)) rfl
theorem q501 : (Jvm.Cond.methodLink "IcehighwayLaw" (141 : Nat) ({ cls := "IcehighwayLaw", name := "load", desc := "(LIcehighway;III[J)I" } : Jvm.MethodName)) ∈ WL := WL_t (in_tables_1_3 (List.mem_of_getElem? (i := 21) rfl)) rfl
theorem q502 : (Jvm.Cond.static ({ cls := "IcehighwayLaw", name := "load", desc := "(LIcehighway;III[J)I" } : Jvm.MethodName)) ∈ WL := WL_t (in_tables_1_3 (List.mem_of_getElem? (i := 22) rfl)) rfl
theorem q503 : (Jvm.Cond.codeWith ({ cls := "IcehighwayLaw", name := "load", desc := "(LIcehighway;III[J)I" } : Jvm.MethodName) method_13_code (6 : Nat) (Option.some Jvm.ClassFile.FieldType.int) [((0 : Nat), (12 : Nat), (15 : Nat), (27 : Nat)), ((0 : Nat), (12 : Nat), (19 : Nat), (13 : Nat)), ((0 : Nat), (12 : Nat), (23 : Nat), (15 : Nat))]) ∈ WL := WL_t (in_tables_1_3 (List.mem_of_getElem? (i := 23) rfl)) rfl
theorem q504 : (Jvm.Cond.methodLink "IcehighwayLaw" (49 : Nat) ({ cls := "Icehighway", name := "load", desc := "(III)I" } : Jvm.MethodName)) ∈ WL := WL_t (in_tables_1_3 (List.mem_of_getElem? (i := 24) rfl)) rfl
theorem q505 : (Jvm.Cond.instanceMethod ({ cls := "Icehighway", name := "load", desc := "(III)I" } : Jvm.MethodName)) ∈ WL := WL_t (in_tables_1_3 (List.mem_of_getElem? (i := 25) rfl)) rfl
theorem q506 : (Jvm.Cond.selects "Icehighway" ({ cls := "Icehighway", name := "load", desc := "(III)I" } : Jvm.MethodName) ({ cls := "Icehighway", name := "load", desc := "(III)I" } : Jvm.MethodName)) ∈ WL := WL_t (in_tables_1_3 (List.mem_of_getElem? (i := 26) rfl)) rfl
theorem q507 : (Jvm.Cond.code ({ cls := "Icehighway", name := "load", desc := "(III)I" } : Jvm.MethodName) prog_1_method_12_code (6 : Nat) (Option.some Jvm.ClassFile.FieldType.int)) ∈ WL := WL_t (in_tables_1_3 (List.mem_of_getElem? (i := 27) rfl)) rfl
theorem q508 : (Jvm.Cond.methodLink "Icehighway" (114 : Nat) ({ cls := "Icehighway", name := "vehicleNumbered", desc := "(I)LIcehighway$Vehicle;" } : Jvm.MethodName)) ∈ WL := WL_t (in_tables_1_3 (List.mem_of_getElem? (i := 28) rfl)) rfl
theorem q509 : (Jvm.Cond.privateMethod ({ cls := "Icehighway", name := "vehicleNumbered", desc := "(I)LIcehighway$Vehicle;" } : Jvm.MethodName)) ∈ XL := XL_t (in_tables_1_3 (List.mem_of_getElem? (i := 29) rfl)) rfl
theorem q510 : (Jvm.Cond.instanceMethod ({ cls := "Icehighway", name := "vehicleNumbered", desc := "(I)LIcehighway$Vehicle;" } : Jvm.MethodName)) ∈ WL := WL_t (in_tables_1_3 (List.mem_of_getElem? (i := 30) rfl)) rfl
theorem q511 : (Jvm.Cond.code ({ cls := "Icehighway", name := "vehicleNumbered", desc := "(I)LIcehighway$Vehicle;" } : Jvm.MethodName) prog_1_method_32_code (2 : Nat) (Option.some (Jvm.ClassFile.FieldType.object "Icehighway$Vehicle"))) ∈ WL := WL_t (in_tables_1_3 (List.mem_of_getElem? (i := 31) rfl)) rfl
theorem q513 : (Jvm.Cond.methodLink "Icehighway" (118 : Nat) ({ cls := "Icehighway", name := "needGoods", desc := "(I)V" } : Jvm.MethodName)) ∈ WL := WL_t (in_tables_1_3 (List.mem_of_getElem? (i := 33) rfl)) rfl
theorem q514 : (Jvm.Cond.static ({ cls := "Icehighway", name := "needGoods", desc := "(I)V" } : Jvm.MethodName)) ∈ WL := WL_t (in_tables_1_3 (List.mem_of_getElem? (i := 34) rfl)) rfl
theorem q515 : (Jvm.Cond.code ({ cls := "Icehighway", name := "needGoods", desc := "(I)V" } : Jvm.MethodName) prog_1_method_30_code (1 : Nat) (Option.none : Option Jvm.ClassFile.FieldType)) ∈ WL := WL_t (in_tables_1_3 (List.mem_of_getElem? (i := 35) rfl)) rfl
theorem q518 : (Jvm.Cond.classLink "Icehighway" (134 : Nat) "Icehighway$Load") ∈ WL := WL_t (in_tables_1_3 (List.mem_of_getElem? (i := 38) rfl)) rfl
theorem q519 : (Jvm.Cond.instantiable "Icehighway$Load" (3 : Nat)) ∈ WL := WL_t (in_tables_1_3 (List.mem_of_getElem? (i := 39) rfl)) rfl
theorem q520 : (Jvm.Cond.methodLink "Icehighway" (136 : Nat) ({ cls := "Icehighway$Load", name := "<init>", desc := "(II)V" } : Jvm.MethodName)) ∈ WL := WL_t (in_tables_1_3 (List.mem_of_getElem? (i := 40) rfl)) rfl
theorem q521 : (Jvm.Cond.instanceMethod ({ cls := "Icehighway$Load", name := "<init>", desc := "(II)V" } : Jvm.MethodName)) ∈ WL := WL_t (in_tables_1_3 (List.mem_of_getElem? (i := 41) rfl)) rfl
theorem q522 : (Jvm.Cond.code ({ cls := "Icehighway$Load", name := "<init>", desc := "(II)V" } : Jvm.MethodName) prog_2_method_1_code (3 : Nat) (Option.none : Option Jvm.ClassFile.FieldType)) ∈ WL := WL_t (in_tables_1_3 (List.mem_of_getElem? (i := 42) rfl)) rfl
theorem q523 : (Jvm.Cond.methodLink "Icehighway$Load" (1 : Nat) ({ cls := "java/lang/Object", name := "<init>", desc := "()V" } : Jvm.MethodName)) ∈ WL := WL_t (in_tables_1_3 (List.mem_of_getElem? (i := 43) rfl)) rfl
theorem q524 : (Jvm.Cond.fieldLink "Icehighway$Load" (13 : Nat) "Icehighway$Load" "goods" "I") ∈ WL := WL_t (in_tables_1_3 (List.mem_of_getElem? (i := 44) rfl)) rfl
theorem q525 : (Jvm.Cond.fieldLink "Icehighway" (190 : Nat) "Icehighway$Load" "goods" "I") ∈ WL := WL_t (in_tables_1_3 (List.mem_of_getElem? (i := 45) rfl)) rfl
theorem q526 : (Jvm.Cond.fieldLink "Icehighway$Load" (17 : Nat) "Icehighway$Load" "kilos" "I") ∈ WL := WL_t (in_tables_1_3 (List.mem_of_getElem? (i := 46) rfl)) rfl
theorem q527 : (Jvm.Cond.fieldLink "Icehighway$Vehicle" (38 : Nat) "Icehighway$Load" "kilos" "I") ∈ WL := WL_t (in_tables_1_3 (List.mem_of_getElem? (i := 47) rfl)) rfl
theorem q528 : (Jvm.Cond.fieldLink "Icehighway" (187 : Nat) "Icehighway$Load" "kilos" "I") ∈ WL := WL_t (in_tables_1_3 (List.mem_of_getElem? (i := 48) rfl)) rfl
theorem q529 : (Jvm.Cond.fieldLink "Icehighway$Load" (7 : Nat) "Icehighway$Load" "isBack" "Z") ∈ WL := WL_t (in_tables_1_3 (List.mem_of_getElem? (i := 49) rfl)) rfl
theorem q530 : (Jvm.Cond.fieldLink "Icehighway" (220 : Nat) "Icehighway$Load" "isBack" "Z") ∈ WL := WL_t (in_tables_1_3 (List.mem_of_getElem? (i := 50) rfl)) rfl
theorem q531 : (Jvm.Cond.laysFinal "Icehighway$Load" "Icehighway$Load" "goods" "I") ∈ WL := WL_t (in_tables_1_3 (List.mem_of_getElem? (i := 51) rfl)) rfl
theorem q533 : (Jvm.Cond.laysFinal "Icehighway$Load" "Icehighway$Load" "kilos" "I") ∈ WL := WL_t (in_tables_1_3 (List.mem_of_getElem? (i := 53) rfl)) rfl
theorem q535 : (Jvm.Cond.lays "Icehighway$Load" "Icehighway$Load" "isBack" "Z") ∈ WL := WL_t (in_tables_1_3 (List.mem_of_getElem? (i := 55) rfl)) rfl
theorem q538 : (Jvm.Cond.methodLink "Icehighway" (139 : Nat) ({ cls := "Icehighway$Vehicle", name := "weight", desc := "()I" } : Jvm.MethodName)) ∈ WL := WL_t (in_tables_1_3 (List.mem_of_getElem? (i := 58) rfl)) rfl
theorem q539 : (Jvm.Cond.instanceMethod ({ cls := "Icehighway$Vehicle", name := "weight", desc := "()I" } : Jvm.MethodName)) ∈ WL := WL_t (in_tables_1_3 (List.mem_of_getElem? (i := 59) rfl)) rfl
theorem q540 : (Jvm.Cond.selects "Icehighway$Vehicle" ({ cls := "Icehighway$Vehicle", name := "weight", desc := "()I" } : Jvm.MethodName) ({ cls := "Icehighway$Vehicle", name := "weight", desc := "()I" } : Jvm.MethodName)) ∈ WL := WL_t (in_tables_1_3 (List.mem_of_getElem? (i := 60) rfl)) rfl
theorem q541 : (Jvm.Cond.code ({ cls := "Icehighway$Vehicle", name := "weight", desc := "()I" } : Jvm.MethodName) prog_4_method_2_code (1 : Nat) (Option.some Jvm.ClassFile.FieldType.int)) ∈ WL := WL_t (in_tables_1_3 (List.mem_of_getElem? (i := 61) rfl)) rfl
theorem q542 : (Jvm.Cond.methodLink "IcehighwayLaw" (144 : Nat) ({ cls := "IcehighwayLaw", name := "go", desc := "(LIcehighway;I[J)I" } : Jvm.MethodName)) ∈ WL := WL_t (in_tables_1_3 (List.mem_of_getElem? (i := 62) rfl)) rfl
theorem q543 : (Jvm.Cond.static ({ cls := "IcehighwayLaw", name := "go", desc := "(LIcehighway;I[J)I" } : Jvm.MethodName)) ∈ WL := WL_t (in_tables_1_3 (List.mem_of_getElem? (i := 63) rfl)) rfl
theorem q544 : (Jvm.Cond.codeWith ({ cls := "IcehighwayLaw", name := "go", desc := "(LIcehighway;I[J)I" } : Jvm.MethodName) method_14_code (4 : Nat) (Option.some Jvm.ClassFile.FieldType.int) [((0 : Nat), (16 : Nat), (19 : Nat), (27 : Nat)), ((0 : Nat), (16 : Nat), (22 : Nat), (15 : Nat))]) ∈ WL := WL_t (in_tables_1_3 (List.mem_of_getElem? (i := 64) rfl)) rfl
theorem q545 : (Jvm.Cond.methodLink "IcehighwayLaw" (52 : Nat) ({ cls := "Icehighway", name := "go", desc := "(I)Z" } : Jvm.MethodName)) ∈ WL := WL_t (in_tables_1_3 (List.mem_of_getElem? (i := 65) rfl)) rfl
theorem q546 : (Jvm.Cond.instanceMethod ({ cls := "Icehighway", name := "go", desc := "(I)Z" } : Jvm.MethodName)) ∈ WL := WL_t (in_tables_1_3 (List.mem_of_getElem? (i := 66) rfl)) rfl
theorem q547 : (Jvm.Cond.selects "Icehighway" ({ cls := "Icehighway", name := "go", desc := "(I)Z" } : Jvm.MethodName) ({ cls := "Icehighway", name := "go", desc := "(I)Z" } : Jvm.MethodName)) ∈ WL := WL_t (in_tables_1_3 (List.mem_of_getElem? (i := 67) rfl)) rfl
theorem q548 : (Jvm.Cond.code ({ cls := "Icehighway", name := "go", desc := "(I)Z" } : Jvm.MethodName) prog_1_method_13_code (3 : Nat) (Option.some Jvm.ClassFile.FieldType.boolean)) ∈ WL := WL_t (in_tables_1_3 (List.mem_of_getElem? (i := 68) rfl)) rfl
theorem q550 : (Jvm.Cond.methodLink "IcehighwayLaw" (147 : Nat) ({ cls := "IcehighwayLaw", name := "turn", desc := "(LIcehighway;I[J)I" } : Jvm.MethodName)) ∈ WL := WL_t (in_tables_1_3 (List.mem_of_getElem? (i := 70) rfl)) rfl
theorem q551 : (Jvm.Cond.static ({ cls := "IcehighwayLaw", name := "turn", desc := "(LIcehighway;I[J)I" } : Jvm.MethodName)) ∈ WL := WL_t (in_tables_1_3 (List.mem_of_getElem? (i := 71) rfl)) rfl
theorem q552 : (Jvm.Cond.codeWith ({ cls := "IcehighwayLaw", name := "turn", desc := "(LIcehighway;I[J)I" } : Jvm.MethodName) method_15_code (4 : Nat) (Option.some Jvm.ClassFile.FieldType.int) [((0 : Nat), (16 : Nat), (19 : Nat), (27 : Nat)), ((0 : Nat), (16 : Nat), (22 : Nat), (15 : Nat))]) ∈ WL := WL_t (in_tables_1_3 (List.mem_of_getElem? (i := 72) rfl)) rfl
theorem q553 : (Jvm.Cond.methodLink "IcehighwayLaw" (56 : Nat) ({ cls := "Icehighway", name := "turn", desc := "(I)Z" } : Jvm.MethodName)) ∈ WL := WL_t (in_tables_1_3 (List.mem_of_getElem? (i := 73) rfl)) rfl
theorem q554 : (Jvm.Cond.instanceMethod ({ cls := "Icehighway", name := "turn", desc := "(I)Z" } : Jvm.MethodName)) ∈ WL := WL_t (in_tables_1_3 (List.mem_of_getElem? (i := 74) rfl)) rfl
theorem q555 : (Jvm.Cond.selects "Icehighway" ({ cls := "Icehighway", name := "turn", desc := "(I)Z" } : Jvm.MethodName) ({ cls := "Icehighway", name := "turn", desc := "(I)Z" } : Jvm.MethodName)) ∈ WL := WL_t (in_tables_1_3 (List.mem_of_getElem? (i := 75) rfl)) rfl
theorem q556 : (Jvm.Cond.code ({ cls := "Icehighway", name := "turn", desc := "(I)Z" } : Jvm.MethodName) prog_1_method_14_code (3 : Nat) (Option.some Jvm.ClassFile.FieldType.boolean)) ∈ WL := WL_t (in_tables_1_3 (List.mem_of_getElem? (i := 76) rfl)) rfl
theorem q558 : (Jvm.Cond.methodLink "Icehighway" (150 : Nat) ({ cls := "Icehighway", name := "stopAtEnd", desc := "(LIcehighway$Vehicle;)V" } : Jvm.MethodName)) ∈ WL := WL_t (in_tables_1_3 (List.mem_of_getElem? (i := 78) rfl)) rfl
theorem q559 : (Jvm.Cond.privateMethod ({ cls := "Icehighway", name := "stopAtEnd", desc := "(LIcehighway$Vehicle;)V" } : Jvm.MethodName)) ∈ XL := XL_t (in_tables_1_3 (List.mem_of_getElem? (i := 79) rfl)) rfl
theorem q560 : (Jvm.Cond.instanceMethod ({ cls := "Icehighway", name := "stopAtEnd", desc := "(LIcehighway$Vehicle;)V" } : Jvm.MethodName)) ∈ WL := WL_t (in_tables_1_3 (List.mem_of_getElem? (i := 80) rfl)) rfl
theorem q561 : (Jvm.Cond.code ({ cls := "Icehighway", name := "stopAtEnd", desc := "(LIcehighway$Vehicle;)V" } : Jvm.MethodName) prog_1_method_40_code (2 : Nat) (Option.none : Option Jvm.ClassFile.FieldType)) ∈ WL := WL_t (in_tables_1_3 (List.mem_of_getElem? (i := 81) rfl)) rfl
theorem q562 : (Jvm.Cond.methodLink "Icehighway" (266 : Nat) ({ cls := "Icehighway", name := "unload", desc := "(LIcehighway$Vehicle;)V" } : Jvm.MethodName)) ∈ WL := WL_t (in_tables_1_3 (List.mem_of_getElem? (i := 82) rfl)) rfl
theorem q563 : (Jvm.Cond.privateMethod ({ cls := "Icehighway", name := "unload", desc := "(LIcehighway$Vehicle;)V" } : Jvm.MethodName)) ∈ XL := XL_t (in_tables_1_3 (List.mem_of_getElem? (i := 83) rfl)) rfl
theorem q564 : (Jvm.Cond.instanceMethod ({ cls := "Icehighway", name := "unload", desc := "(LIcehighway$Vehicle;)V" } : Jvm.MethodName)) ∈ WL := WL_t (in_tables_1_3 (List.mem_of_getElem? (i := 84) rfl)) rfl
theorem q565 : (Jvm.Cond.code ({ cls := "Icehighway", name := "unload", desc := "(LIcehighway$Vehicle;)V" } : Jvm.MethodName) prog_1_method_35_code (3 : Nat) (Option.none : Option Jvm.ClassFile.FieldType)) ∈ WL := WL_t (in_tables_1_3 (List.mem_of_getElem? (i := 85) rfl)) rfl
theorem q566 : (Jvm.Cond.methodLink "IcehighwayLaw" (150 : Nat) ({ cls := "IcehighwayLaw", name := "order", desc := "(LIcehighway;II[J)I" } : Jvm.MethodName)) ∈ WL := WL_t (in_tables_1_3 (List.mem_of_getElem? (i := 86) rfl)) rfl
theorem q567 : (Jvm.Cond.static ({ cls := "IcehighwayLaw", name := "order", desc := "(LIcehighway;II[J)I" } : Jvm.MethodName)) ∈ WL := WL_t (in_tables_1_3 (List.mem_of_getElem? (i := 87) rfl)) rfl
theorem q568 : (Jvm.Cond.codeWith ({ cls := "IcehighwayLaw", name := "order", desc := "(LIcehighway;II[J)I" } : Jvm.MethodName) method_16_code (5 : Nat) (Option.some Jvm.ClassFile.FieldType.int) [((0 : Nat), (10 : Nat), (13 : Nat), (27 : Nat)), ((0 : Nat), (10 : Nat), (17 : Nat), (13 : Nat)), ((0 : Nat), (10 : Nat), (21 : Nat), (15 : Nat))]) ∈ WL := WL_t (in_tables_1_3 (List.mem_of_getElem? (i := 88) rfl)) rfl
theorem q569 : (Jvm.Cond.methodLink "IcehighwayLaw" (59 : Nat) ({ cls := "Icehighway", name := "order", desc := "(II)I" } : Jvm.MethodName)) ∈ WL := WL_t (in_tables_1_3 (List.mem_of_getElem? (i := 89) rfl)) rfl
theorem q570 : (Jvm.Cond.instanceMethod ({ cls := "Icehighway", name := "order", desc := "(II)I" } : Jvm.MethodName)) ∈ WL := WL_t (in_tables_1_3 (List.mem_of_getElem? (i := 90) rfl)) rfl
theorem q571 : (Jvm.Cond.selects "Icehighway" ({ cls := "Icehighway", name := "order", desc := "(II)I" } : Jvm.MethodName) ({ cls := "Icehighway", name := "order", desc := "(II)I" } : Jvm.MethodName)) ∈ WL := WL_t (in_tables_1_3 (List.mem_of_getElem? (i := 91) rfl)) rfl
theorem q572 : (Jvm.Cond.code ({ cls := "Icehighway", name := "order", desc := "(II)I" } : Jvm.MethodName) prog_1_method_15_code (3 : Nat) (Option.some Jvm.ClassFile.FieldType.int)) ∈ WL := WL_t (in_tables_1_3 (List.mem_of_getElem? (i := 92) rfl)) rfl
theorem q573 : (Jvm.Cond.constant "Icehighway" (154 : Nat) (1000000 : Int32)) ∈ WL := WL_t (in_tables_1_3 (List.mem_of_getElem? (i := 93) rfl)) rfl
theorem q574 : (Jvm.Cond.constant "Icehighway" (155 : Nat) (10000000 : Int32)) ∈ WL := WL_t (in_tables_1_3 (List.mem_of_getElem? (i := 94) rfl)) rfl
theorem q576 : (Jvm.Cond.methodLink "IcehighwayLaw" (153 : Nat) ({ cls := "IcehighwayLaw", name := "pass", desc := "(LIcehighway;I[J)I" } : Jvm.MethodName)) ∈ WL := WL_t (in_tables_1_3 (List.mem_of_getElem? (i := 96) rfl)) rfl
theorem q577 : (Jvm.Cond.static ({ cls := "IcehighwayLaw", name := "pass", desc := "(LIcehighway;I[J)I" } : Jvm.MethodName)) ∈ WL := WL_t (in_tables_1_3 (List.mem_of_getElem? (i := 97) rfl)) rfl
theorem q578 : (Jvm.Cond.codeWith ({ cls := "IcehighwayLaw", name := "pass", desc := "(LIcehighway;I[J)I" } : Jvm.MethodName) method_17_code (4 : Nat) (Option.some Jvm.ClassFile.FieldType.int) [((0 : Nat), (9 : Nat), (12 : Nat), (13 : Nat)), ((0 : Nat), (9 : Nat), (15 : Nat), (15 : Nat))]) ∈ WL := WL_t (in_tables_1_3 (List.mem_of_getElem? (i := 98) rfl)) rfl
theorem q579 : (Jvm.Cond.methodLink "IcehighwayLaw" (62 : Nat) ({ cls := "Icehighway", name := "pass", desc := "(I)I" } : Jvm.MethodName)) ∈ WL := WL_t (in_tables_1_3 (List.mem_of_getElem? (i := 99) rfl)) rfl
theorem q580 : (Jvm.Cond.instanceMethod ({ cls := "Icehighway", name := "pass", desc := "(I)I" } : Jvm.MethodName)) ∈ WL := WL_t (in_tables_1_3 (List.mem_of_getElem? (i := 100) rfl)) rfl
theorem q581 : (Jvm.Cond.selects "Icehighway" ({ cls := "Icehighway", name := "pass", desc := "(I)I" } : Jvm.MethodName) ({ cls := "Icehighway", name := "pass", desc := "(I)I" } : Jvm.MethodName)) ∈ WL := WL_t (in_tables_1_3 (List.mem_of_getElem? (i := 101) rfl)) rfl
theorem q582 : (Jvm.Cond.code ({ cls := "Icehighway", name := "pass", desc := "(I)I" } : Jvm.MethodName) prog_1_method_16_code (3 : Nat) (Option.some Jvm.ClassFile.FieldType.int)) ∈ WL := WL_t (in_tables_1_3 (List.mem_of_getElem? (i := 102) rfl)) rfl
theorem q583 : (Jvm.Cond.constant "Icehighway" (158 : Nat) (200000 : Int32)) ∈ WL := WL_t (in_tables_1_3 (List.mem_of_getElem? (i := 103) rfl)) rfl
theorem q585 : (Jvm.Cond.methodLink "Icehighway" (161 : Nat) ({ cls := "Icehighway", name := "passOneMinute", desc := "()V" } : Jvm.MethodName)) ∈ WL := WL_t (in_tables_1_3 (List.mem_of_getElem? (i := 105) rfl)) rfl
theorem q586 : (Jvm.Cond.privateMethod ({ cls := "Icehighway", name := "passOneMinute", desc := "()V" } : Jvm.MethodName)) ∈ XL := XL_t (in_tables_1_3 (List.mem_of_getElem? (i := 106) rfl)) rfl
theorem q587 : (Jvm.Cond.instanceMethod ({ cls := "Icehighway", name := "passOneMinute", desc := "()V" } : Jvm.MethodName)) ∈ WL := WL_t (in_tables_1_3 (List.mem_of_getElem? (i := 107) rfl)) rfl
theorem q588 : (Jvm.Cond.code ({ cls := "Icehighway", name := "passOneMinute", desc := "()V" } : Jvm.MethodName) prog_1_method_36_code (2 : Nat) (Option.none : Option Jvm.ClassFile.FieldType)) ∈ WL := WL_t (in_tables_1_3 (List.mem_of_getElem? (i := 108) rfl)) rfl
theorem q589 : (Jvm.Cond.methodLink "Icehighway" (245 : Nat) ({ cls := "Icehighway", name := "endDay", desc := "()V" } : Jvm.MethodName)) ∈ WL := WL_t (in_tables_1_3 (List.mem_of_getElem? (i := 109) rfl)) rfl
theorem q590 : (Jvm.Cond.privateMethod ({ cls := "Icehighway", name := "endDay", desc := "()V" } : Jvm.MethodName)) ∈ XL := XL_t (in_tables_1_3 (List.mem_of_getElem? (i := 110) rfl)) rfl
theorem q591 : (Jvm.Cond.instanceMethod ({ cls := "Icehighway", name := "endDay", desc := "()V" } : Jvm.MethodName)) ∈ WL := WL_t (in_tables_1_3 (List.mem_of_getElem? (i := 111) rfl)) rfl
theorem q592 : (Jvm.Cond.code ({ cls := "Icehighway", name := "endDay", desc := "()V" } : Jvm.MethodName) prog_1_method_37_code (2 : Nat) (Option.none : Option Jvm.ClassFile.FieldType)) ∈ WL := WL_t (in_tables_1_3 (List.mem_of_getElem? (i := 112) rfl)) rfl
theorem q593 : (Jvm.Cond.methodLink "Icehighway" (251 : Nat) ({ cls := "Icehighway$Piece", name := "freeze", desc := "(I)V" } : Jvm.MethodName)) ∈ WL := WL_t (in_tables_1_3 (List.mem_of_getElem? (i := 113) rfl)) rfl
theorem q594 : (Jvm.Cond.instanceMethod ({ cls := "Icehighway$Piece", name := "freeze", desc := "(I)V" } : Jvm.MethodName)) ∈ WL := WL_t (in_tables_1_3 (List.mem_of_getElem? (i := 114) rfl)) rfl
theorem q595 : (Jvm.Cond.selects "Icehighway$Piece" ({ cls := "Icehighway$Piece", name := "freeze", desc := "(I)V" } : Jvm.MethodName) ({ cls := "Icehighway$Piece", name := "freeze", desc := "(I)V" } : Jvm.MethodName)) ∈ WL := WL_t (in_tables_1_3 (List.mem_of_getElem? (i := 115) rfl)) rfl
theorem q596 : (Jvm.Cond.code ({ cls := "Icehighway$Piece", name := "freeze", desc := "(I)V" } : Jvm.MethodName) prog_3_method_7_code (3 : Nat) (Option.none : Option Jvm.ClassFile.FieldType)) ∈ WL := WL_t (in_tables_1_3 (List.mem_of_getElem? (i := 116) rfl)) rfl
theorem q597 : (Jvm.Cond.methodLink "Icehighway$Piece" (76 : Nat) ({ cls := "java/lang/Math", name := "min", desc := "(II)I" } : Jvm.MethodName)) ∈ WL := WL_t (in_tables_1_3 (List.mem_of_getElem? (i := 117) rfl)) rfl
theorem q598 : (Jvm.Cond.methodLink "Icehighway$Piece" (82 : Nat) ({ cls := "Icehighway$Piece", name := "growth", desc := "(I)I" } : Jvm.MethodName)) ∈ WL := WL_t (in_tables_1_3 (List.mem_of_getElem? (i := 118) rfl)) rfl
theorem q599 : (Jvm.Cond.privateMethod ({ cls := "Icehighway$Piece", name := "growth", desc := "(I)I" } : Jvm.MethodName)) ∈ XL := XL_t (in_tables_1_3 (List.mem_of_getElem? (i := 119) rfl)) rfl
theorem q600 : (Jvm.Cond.instanceMethod ({ cls := "Icehighway$Piece", name := "growth", desc := "(I)I" } : Jvm.MethodName)) ∈ WL := WL_t (in_tables_1_3 (List.mem_of_getElem? (i := 120) rfl)) rfl
theorem q601 : (Jvm.Cond.code ({ cls := "Icehighway$Piece", name := "growth", desc := "(I)I" } : Jvm.MethodName) prog_3_method_8_code (4 : Nat) (Option.some Jvm.ClassFile.FieldType.int)) ∈ WL := WL_t (in_tables_1_3 (List.mem_of_getElem? (i := 121) rfl)) rfl
theorem q602 : (Jvm.Cond.methodLink "Icehighway$Piece" (86 : Nat) ({ cls := "java/lang/Math", name := "max", desc := "(II)I" } : Jvm.MethodName)) ∈ WL := WL_t (in_tables_1_3 (List.mem_of_getElem? (i := 122) rfl)) rfl
theorem q603 : (Jvm.Cond.methodLink "Icehighway" (254 : Nat) ({ cls := "Icehighway$Piece", name := "thaw", desc := "(I)V" } : Jvm.MethodName)) ∈ WL := WL_t (in_tables_1_3 (List.mem_of_getElem? (i := 123) rfl)) rfl
theorem q604 : (Jvm.Cond.instanceMethod ({ cls := "Icehighway$Piece", name := "thaw", desc := "(I)V" } : Jvm.MethodName)) ∈ WL := WL_t (in_tables_1_3 (List.mem_of_getElem? (i := 124) rfl)) rfl
theorem q605 : (Jvm.Cond.selects "Icehighway$Piece" ({ cls := "Icehighway$Piece", name := "thaw", desc := "(I)V" } : Jvm.MethodName) ({ cls := "Icehighway$Piece", name := "thaw", desc := "(I)V" } : Jvm.MethodName)) ∈ WL := WL_t (in_tables_1_3 (List.mem_of_getElem? (i := 125) rfl)) rfl
theorem q606 : (Jvm.Cond.code ({ cls := "Icehighway$Piece", name := "thaw", desc := "(I)V" } : Jvm.MethodName) prog_3_method_9_code (8 : Nat) (Option.none : Option Jvm.ClassFile.FieldType)) ∈ WL := WL_t (in_tables_1_3 (List.mem_of_getElem? (i := 126) rfl)) rfl
theorem q607 : (Jvm.Cond.methodLink "Icehighway" (248 : Nat) ({ cls := "Icehighway", name := "moveOn", desc := "(LIcehighway$Vehicle;)V" } : Jvm.MethodName)) ∈ WL := WL_t (in_tables_1_3 (List.mem_of_getElem? (i := 127) rfl)) rfl
theorem q608 : (Jvm.Cond.privateMethod ({ cls := "Icehighway", name := "moveOn", desc := "(LIcehighway$Vehicle;)V" } : Jvm.MethodName)) ∈ XL := XL_t (in_tables_1_3 (List.mem_of_getElem? (i := 128) rfl)) rfl
theorem q609 : (Jvm.Cond.instanceMethod ({ cls := "Icehighway", name := "moveOn", desc := "(LIcehighway$Vehicle;)V" } : Jvm.MethodName)) ∈ WL := WL_t (in_tables_1_3 (List.mem_of_getElem? (i := 129) rfl)) rfl
theorem q610 : (Jvm.Cond.code ({ cls := "Icehighway", name := "moveOn", desc := "(LIcehighway$Vehicle;)V" } : Jvm.MethodName) prog_1_method_38_code (2 : Nat) (Option.none : Option Jvm.ClassFile.FieldType)) ∈ WL := WL_t (in_tables_1_3 (List.mem_of_getElem? (i := 130) rfl)) rfl
theorem q611 : (Jvm.Cond.methodLink "Icehighway" (257 : Nat) ({ cls := "Icehighway", name := "leave", desc := "(LIcehighway$Vehicle;)V" } : Jvm.MethodName)) ∈ WL := WL_t (in_tables_1_3 (List.mem_of_getElem? (i := 131) rfl)) rfl
theorem q612 : (Jvm.Cond.privateMethod ({ cls := "Icehighway", name := "leave", desc := "(LIcehighway$Vehicle;)V" } : Jvm.MethodName)) ∈ XL := XL_t (in_tables_1_3 (List.mem_of_getElem? (i := 132) rfl)) rfl
theorem q613 : (Jvm.Cond.instanceMethod ({ cls := "Icehighway", name := "leave", desc := "(LIcehighway$Vehicle;)V" } : Jvm.MethodName)) ∈ WL := WL_t (in_tables_1_3 (List.mem_of_getElem? (i := 133) rfl)) rfl
theorem q614 : (Jvm.Cond.code ({ cls := "Icehighway", name := "leave", desc := "(LIcehighway$Vehicle;)V" } : Jvm.MethodName) prog_1_method_39_code (2 : Nat) (Option.none : Option Jvm.ClassFile.FieldType)) ∈ WL := WL_t (in_tables_1_3 (List.mem_of_getElem? (i := 134) rfl)) rfl
theorem q615 : (Jvm.Cond.methodLink "Icehighway" (263 : Nat) ({ cls := "Icehighway$Piece", name := "letOff", desc := "(LIcehighway$Vehicle;)V" } : Jvm.MethodName)) ∈ WL := WL_t (in_tables_1_3 (List.mem_of_getElem? (i := 135) rfl)) rfl
theorem q616 : (Jvm.Cond.instanceMethod ({ cls := "Icehighway$Piece", name := "letOff", desc := "(LIcehighway$Vehicle;)V" } : Jvm.MethodName)) ∈ WL := WL_t (in_tables_1_3 (List.mem_of_getElem? (i := 136) rfl)) rfl
theorem q617 : (Jvm.Cond.selects "Icehighway$Piece" ({ cls := "Icehighway$Piece", name := "letOff", desc := "(LIcehighway$Vehicle;)V" } : Jvm.MethodName) ({ cls := "Icehighway$Piece", name := "letOff", desc := "(LIcehighway$Vehicle;)V" } : Jvm.MethodName)) ∈ WL := WL_t (in_tables_1_3 (List.mem_of_getElem? (i := 137) rfl)) rfl
theorem q618 : (Jvm.Cond.code ({ cls := "Icehighway$Piece", name := "letOff", desc := "(LIcehighway$Vehicle;)V" } : Jvm.MethodName) prog_3_method_16_code (3 : Nat) (Option.none : Option Jvm.ClassFile.FieldType)) ∈ WL := WL_t (in_tables_1_3 (List.mem_of_getElem? (i := 138) rfl)) rfl
theorem q619 : (Jvm.Cond.methodLink "Icehighway$Piece" (102 : Nat) ({ cls := "Icehighway$Vehicle", name := "weight", desc := "()I" } : Jvm.MethodName)) ∈ WL := WL_t (in_tables_1_3 (List.mem_of_getElem? (i := 139) rfl)) rfl
theorem q620 : (Jvm.Cond.methodLink "Icehighway$Piece" (110 : Nat) ({ cls := "Icehighway$Piece", name := "isWaterPiece", desc := "()Z" } : Jvm.MethodName)) ∈ WL := WL_t (in_tables_1_3 (List.mem_of_getElem? (i := 140) rfl)) rfl
theorem q621 : (Jvm.Cond.methodLink "Icehighway" (199 : Nat) ({ cls := "Icehighway", name := "whatIsAgainst", desc := "(LIcehighway$Vehicle;)I" } : Jvm.MethodName)) ∈ WL := WL_t (in_tables_1_3 (List.mem_of_getElem? (i := 141) rfl)) rfl
theorem q622 : (Jvm.Cond.privateMethod ({ cls := "Icehighway", name := "whatIsAgainst", desc := "(LIcehighway$Vehicle;)I" } : Jvm.MethodName)) ∈ XL := XL_t (in_tables_1_3 (List.mem_of_getElem? (i := 142) rfl)) rfl
theorem q623 : (Jvm.Cond.instanceMethod ({ cls := "Icehighway", name := "whatIsAgainst", desc := "(LIcehighway$Vehicle;)I" } : Jvm.MethodName)) ∈ WL := WL_t (in_tables_1_3 (List.mem_of_getElem? (i := 143) rfl)) rfl
theorem q624 : (Jvm.Cond.code ({ cls := "Icehighway", name := "whatIsAgainst", desc := "(LIcehighway$Vehicle;)I" } : Jvm.MethodName) prog_1_method_43_code (5 : Nat) (Option.some Jvm.ClassFile.FieldType.int)) ∈ WL := WL_t (in_tables_1_3 (List.mem_of_getElem? (i := 144) rfl)) rfl
theorem q625 : (Jvm.Cond.methodLink "Icehighway" (269 : Nat) ({ cls := "Icehighway", name := "pieceAhead", desc := "(LIcehighway$Vehicle;)LIcehighway$Piece;" } : Jvm.MethodName)) ∈ WL := WL_t (in_tables_1_3 (List.mem_of_getElem? (i := 145) rfl)) rfl
theorem q626 : (Jvm.Cond.privateMethod ({ cls := "Icehighway", name := "pieceAhead", desc := "(LIcehighway$Vehicle;)LIcehighway$Piece;" } : Jvm.MethodName)) ∈ XL := XL_t (in_tables_1_3 (List.mem_of_getElem? (i := 146) rfl)) rfl
theorem q627 : (Jvm.Cond.instanceMethod ({ cls := "Icehighway", name := "pieceAhead", desc := "(LIcehighway$Vehicle;)LIcehighway$Piece;" } : Jvm.MethodName)) ∈ WL := WL_t (in_tables_1_3 (List.mem_of_getElem? (i := 147) rfl)) rfl
theorem q628 : (Jvm.Cond.code ({ cls := "Icehighway", name := "pieceAhead", desc := "(LIcehighway$Vehicle;)LIcehighway$Piece;" } : Jvm.MethodName) prog_1_method_42_code (3 : Nat) (Option.some (Jvm.ClassFile.FieldType.object "Icehighway$Piece"))) ∈ WL := WL_t (in_tables_1_3 (List.mem_of_getElem? (i := 148) rfl)) rfl
theorem q629 : (Jvm.Cond.methodLink "Icehighway" (286 : Nat) ({ cls := "Icehighway$Piece", name := "lastComing", desc := "(Z)I" } : Jvm.MethodName)) ∈ WL := WL_t (in_tables_1_3 (List.mem_of_getElem? (i := 149) rfl)) rfl
theorem q630 : (Jvm.Cond.instanceMethod ({ cls := "Icehighway$Piece", name := "lastComing", desc := "(Z)I" } : Jvm.MethodName)) ∈ WL := WL_t (in_tables_1_3 (List.mem_of_getElem? (i := 150) rfl)) rfl
theorem q631 : (Jvm.Cond.selects "Icehighway$Piece" ({ cls := "Icehighway$Piece", name := "lastComing", desc := "(Z)I" } : Jvm.MethodName) ({ cls := "Icehighway$Piece", name := "lastComing", desc := "(Z)I" } : Jvm.MethodName)) ∈ WL := WL_t (in_tables_1_3 (List.mem_of_getElem? (i := 151) rfl)) rfl
theorem q632 : (Jvm.Cond.code ({ cls := "Icehighway$Piece", name := "lastComing", desc := "(Z)I" } : Jvm.MethodName) prog_3_method_13_code (2 : Nat) (Option.some Jvm.ClassFile.FieldType.int)) ∈ WL := WL_t (in_tables_1_3 (List.mem_of_getElem? (i := 152) rfl)) rfl
theorem q633 : (Jvm.Cond.methodLink "Icehighway" (292 : Nat) ({ cls := "Icehighway$Piece", name := "countOn", desc := "(Z)I" } : Jvm.MethodName)) ∈ WL := WL_t (in_tables_1_3 (List.mem_of_getElem? (i := 153) rfl)) rfl
theorem q634 : (Jvm.Cond.instanceMethod ({ cls := "Icehighway$Piece", name := "countOn", desc := "(Z)I" } : Jvm.MethodName)) ∈ WL := WL_t (in_tables_1_3 (List.mem_of_getElem? (i := 154) rfl)) rfl
theorem q635 : (Jvm.Cond.selects "Icehighway$Piece" ({ cls := "Icehighway$Piece", name := "countOn", desc := "(Z)I" } : Jvm.MethodName) ({ cls := "Icehighway$Piece", name := "countOn", desc := "(Z)I" } : Jvm.MethodName)) ∈ WL := WL_t (in_tables_1_3 (List.mem_of_getElem? (i := 155) rfl)) rfl
theorem q636 : (Jvm.Cond.code ({ cls := "Icehighway$Piece", name := "countOn", desc := "(Z)I" } : Jvm.MethodName) prog_3_method_12_code (2 : Nat) (Option.some Jvm.ClassFile.FieldType.int)) ∈ WL := WL_t (in_tables_1_3 (List.mem_of_getElem? (i := 156) rfl)) rfl
theorem q637 : (Jvm.Cond.methodLink "Icehighway" (183 : Nat) ({ cls := "Icehighway$Piece", name := "bearsAs", desc := "(Z)I" } : Jvm.MethodName)) ∈ WL := WL_t (in_tables_1_3 (List.mem_of_getElem? (i := 157) rfl)) rfl
theorem q638 : (Jvm.Cond.instanceMethod ({ cls := "Icehighway$Piece", name := "bearsAs", desc := "(Z)I" } : Jvm.MethodName)) ∈ WL := WL_t (in_tables_1_3 (List.mem_of_getElem? (i := 158) rfl)) rfl
theorem q639 : (Jvm.Cond.selects "Icehighway$Piece" ({ cls := "Icehighway$Piece", name := "bearsAs", desc := "(Z)I" } : Jvm.MethodName) ({ cls := "Icehighway$Piece", name := "bearsAs", desc := "(Z)I" } : Jvm.MethodName)) ∈ WL := WL_t (in_tables_1_3 (List.mem_of_getElem? (i := 159) rfl)) rfl
theorem q640 : (Jvm.Cond.code ({ cls := "Icehighway$Piece", name := "bearsAs", desc := "(Z)I" } : Jvm.MethodName) prog_3_method_6_code (6 : Nat) (Option.some Jvm.ClassFile.FieldType.int)) ∈ WL := WL_t (in_tables_1_3 (List.mem_of_getElem? (i := 160) rfl)) rfl
theorem q641 : (Jvm.Cond.constant "Icehighway$Piece" (67 : Nat) (60000 : Int32)) ∈ WL := WL_t (in_tables_1_3 (List.mem_of_getElem? (i := 161) rfl)) rfl
theorem q642 : (Jvm.Cond.methodLink "Icehighway$Piece" (68 : Nat) ({ cls := "Icehighway$Piece", name := "thicknessAs", desc := "(Z)D" } : Jvm.MethodName)) ∈ WL := WL_t (in_tables_1_3 (List.mem_of_getElem? (i := 162) rfl)) rfl
theorem q643 : (Jvm.Cond.instanceMethod ({ cls := "Icehighway$Piece", name := "thicknessAs", desc := "(Z)D" } : Jvm.MethodName)) ∈ WL := WL_t (in_tables_1_3 (List.mem_of_getElem? (i := 163) rfl)) rfl
theorem q644 : (Jvm.Cond.selects "Icehighway$Piece" ({ cls := "Icehighway$Piece", name := "thicknessAs", desc := "(Z)D" } : Jvm.MethodName) ({ cls := "Icehighway$Piece", name := "thicknessAs", desc := "(Z)D" } : Jvm.MethodName)) ∈ WL := WL_t (in_tables_1_3 (List.mem_of_getElem? (i := 164) rfl)) rfl
theorem q645 : (Jvm.Cond.code ({ cls := "Icehighway$Piece", name := "thicknessAs", desc := "(Z)D" } : Jvm.MethodName) prog_3_method_5_code (2 : Nat) (Option.some Jvm.ClassFile.FieldType.double)) ∈ WL := WL_t (in_tables_1_3 (List.mem_of_getElem? (i := 165) rfl)) rfl
theorem q646 : (Jvm.Cond.methodLink "Icehighway$Piece" (63 : Nat) ({ cls := "Icehighway$Piece", name := "realThickness", desc := "()D" } : Jvm.MethodName)) ∈ WL := WL_t (in_tables_1_3 (List.mem_of_getElem? (i := 166) rfl)) rfl
theorem q647 : (Jvm.Cond.constantDouble "Icehighway$Piece" (72 : Nat) (4604930618986332160 : UInt64)) ∈ WL := WL_t (in_tables_1_3 (List.mem_of_getElem? (i := 167) rfl)) rfl
theorem q648 : (Jvm.Cond.constantDouble "Icehighway$Piece" (74 : Nat) (4585925428558828667 : UInt64)) ∈ WL := WL_t (in_tables_1_3 (List.mem_of_getElem? (i := 168) rfl)) rfl
theorem q649 : (Jvm.Cond.methodLink "Icehighway" (260 : Nat) ({ cls := "Icehighway", name := "comeOnto", desc := "(LIcehighway$Vehicle;)V" } : Jvm.MethodName)) ∈ WL := WL_t (in_tables_1_3 (List.mem_of_getElem? (i := 169) rfl)) rfl
theorem q650 : (Jvm.Cond.privateMethod ({ cls := "Icehighway", name := "comeOnto", desc := "(LIcehighway$Vehicle;)V" } : Jvm.MethodName)) ∈ XL := XL_t (in_tables_1_3 (List.mem_of_getElem? (i := 170) rfl)) rfl
theorem q651 : (Jvm.Cond.instanceMethod ({ cls := "Icehighway", name := "comeOnto", desc := "(LIcehighway$Vehicle;)V" } : Jvm.MethodName)) ∈ WL := WL_t (in_tables_1_3 (List.mem_of_getElem? (i := 171) rfl)) rfl
theorem q652 : (Jvm.Cond.code ({ cls := "Icehighway", name := "comeOnto", desc := "(LIcehighway$Vehicle;)V" } : Jvm.MethodName) prog_1_method_41_code (3 : Nat) (Option.none : Option Jvm.ClassFile.FieldType)) ∈ WL := WL_t (in_tables_1_3 (List.mem_of_getElem? (i := 172) rfl)) rfl
theorem q653 : (Jvm.Cond.methodLink "Icehighway" (273 : Nat) ({ cls := "Icehighway$Piece", name := "noteComing", desc := "(ZI)V" } : Jvm.MethodName)) ∈ WL := WL_t (in_tables_1_3 (List.mem_of_getElem? (i := 173) rfl)) rfl
theorem q654 : (Jvm.Cond.instanceMethod ({ cls := "Icehighway$Piece", name := "noteComing", desc := "(ZI)V" } : Jvm.MethodName)) ∈ WL := WL_t (in_tables_1_3 (List.mem_of_getElem? (i := 174) rfl)) rfl
theorem q655 : (Jvm.Cond.selects "Icehighway$Piece" ({ cls := "Icehighway$Piece", name := "noteComing", desc := "(ZI)V" } : Jvm.MethodName) ({ cls := "Icehighway$Piece", name := "noteComing", desc := "(ZI)V" } : Jvm.MethodName)) ∈ WL := WL_t (in_tables_1_3 (List.mem_of_getElem? (i := 175) rfl)) rfl
theorem q656 : (Jvm.Cond.code ({ cls := "Icehighway$Piece", name := "noteComing", desc := "(ZI)V" } : Jvm.MethodName) prog_3_method_14_code (3 : Nat) (Option.none : Option Jvm.ClassFile.FieldType)) ∈ WL := WL_t (in_tables_1_3 (List.mem_of_getElem? (i := 176) rfl)) rfl
theorem q657 : (Jvm.Cond.methodLink "Icehighway" (280 : Nat) ({ cls := "Icehighway$Piece", name := "breakUp", desc := "()V" } : Jvm.MethodName)) ∈ WL := WL_t (in_tables_1_3 (List.mem_of_getElem? (i := 177) rfl)) rfl
theorem q658 : (Jvm.Cond.instanceMethod ({ cls := "Icehighway$Piece", name := "breakUp", desc := "()V" } : Jvm.MethodName)) ∈ WL := WL_t (in_tables_1_3 (List.mem_of_getElem? (i := 178) rfl)) rfl
theorem q659 : (Jvm.Cond.selects "Icehighway$Piece" ({ cls := "Icehighway$Piece", name := "breakUp", desc := "()V" } : Jvm.MethodName) ({ cls := "Icehighway$Piece", name := "breakUp", desc := "()V" } : Jvm.MethodName)) ∈ WL := WL_t (in_tables_1_3 (List.mem_of_getElem? (i := 179) rfl)) rfl
theorem q660 : (Jvm.Cond.code ({ cls := "Icehighway$Piece", name := "breakUp", desc := "()V" } : Jvm.MethodName) prog_3_method_17_code (1 : Nat) (Option.none : Option Jvm.ClassFile.FieldType)) ∈ WL := WL_t (in_tables_1_3 (List.mem_of_getElem? (i := 180) rfl)) rfl
theorem q661 : (Jvm.Cond.methodLink "Icehighway" (206 : Nat) ({ cls := "Icehighway$Piece", name := "minutesOf", desc := "(LIcehighway$Vehicle;)I" } : Jvm.MethodName)) ∈ WL := WL_t (in_tables_1_3 (List.mem_of_getElem? (i := 181) rfl)) rfl
theorem q662 : (Jvm.Cond.instanceMethod ({ cls := "Icehighway$Piece", name := "minutesOf", desc := "(LIcehighway$Vehicle;)I" } : Jvm.MethodName)) ∈ WL := WL_t (in_tables_1_3 (List.mem_of_getElem? (i := 182) rfl)) rfl
theorem q663 : (Jvm.Cond.selects "Icehighway$Piece" ({ cls := "Icehighway$Piece", name := "minutesOf", desc := "(LIcehighway$Vehicle;)I" } : Jvm.MethodName) ({ cls := "Icehighway$Piece", name := "minutesOf", desc := "(LIcehighway$Vehicle;)I" } : Jvm.MethodName)) ∈ WL := WL_t (in_tables_1_3 (List.mem_of_getElem? (i := 183) rfl)) rfl
theorem q664 : (Jvm.Cond.code ({ cls := "Icehighway$Piece", name := "minutesOf", desc := "(LIcehighway$Vehicle;)I" } : Jvm.MethodName) prog_3_method_11_code (3 : Nat) (Option.some Jvm.ClassFile.FieldType.int)) ∈ WL := WL_t (in_tables_1_3 (List.mem_of_getElem? (i := 184) rfl)) rfl
theorem q665 : (Jvm.Cond.methodLink "Icehighway$Piece" (98 : Nat) ({ cls := "Icehighway$Piece", name := "speedOf", desc := "(LIcehighway$Vehicle;)I" } : Jvm.MethodName)) ∈ WL := WL_t (in_tables_1_3 (List.mem_of_getElem? (i := 185) rfl)) rfl
theorem q666 : (Jvm.Cond.instanceMethod ({ cls := "Icehighway$Piece", name := "speedOf", desc := "(LIcehighway$Vehicle;)I" } : Jvm.MethodName)) ∈ WL := WL_t (in_tables_1_3 (List.mem_of_getElem? (i := 186) rfl)) rfl
theorem q667 : (Jvm.Cond.selects "Icehighway$Piece" ({ cls := "Icehighway$Piece", name := "speedOf", desc := "(LIcehighway$Vehicle;)I" } : Jvm.MethodName) ({ cls := "Icehighway$Piece", name := "speedOf", desc := "(LIcehighway$Vehicle;)I" } : Jvm.MethodName)) ∈ WL := WL_t (in_tables_1_3 (List.mem_of_getElem? (i := 187) rfl)) rfl
theorem q668 : (Jvm.Cond.code ({ cls := "Icehighway$Piece", name := "speedOf", desc := "(LIcehighway$Vehicle;)I" } : Jvm.MethodName) prog_3_method_10_code (8 : Nat) (Option.some Jvm.ClassFile.FieldType.int)) ∈ WL := WL_t (in_tables_1_3 (List.mem_of_getElem? (i := 188) rfl)) rfl
theorem q669 : (Jvm.Cond.constantDouble "Icehighway$Piece" (94 : Nat) (4635217326480398746 : UInt64)) ∈ WL := WL_t (in_tables_1_3 (List.mem_of_getElem? (i := 189) rfl)) rfl
theorem q670 : (Jvm.Cond.constantDouble "Icehighway$Piece" (96 : Nat) (4637975781252163174 : UInt64)) ∈ WL := WL_t (in_tables_1_3 (List.mem_of_getElem? (i := 190) rfl)) rfl
theorem q671 : (Jvm.Cond.methodLink "Icehighway" (283 : Nat) ({ cls := "Icehighway$Piece", name := "takeOn", desc := "(LIcehighway$Vehicle;)V" } : Jvm.MethodName)) ∈ WL := WL_t (in_tables_1_3 (List.mem_of_getElem? (i := 191) rfl)) rfl
theorem q672 : (Jvm.Cond.instanceMethod ({ cls := "Icehighway$Piece", name := "takeOn", desc := "(LIcehighway$Vehicle;)V" } : Jvm.MethodName)) ∈ WL := WL_t (in_tables_1_3 (List.mem_of_getElem? (i := 192) rfl)) rfl
theorem q673 : (Jvm.Cond.selects "Icehighway$Piece" ({ cls := "Icehighway$Piece", name := "takeOn", desc := "(LIcehighway$Vehicle;)V" } : Jvm.MethodName) ({ cls := "Icehighway$Piece", name := "takeOn", desc := "(LIcehighway$Vehicle;)V" } : Jvm.MethodName)) ∈ WL := WL_t (in_tables_1_3 (List.mem_of_getElem? (i := 193) rfl)) rfl
theorem q674 : (Jvm.Cond.code ({ cls := "Icehighway$Piece", name := "takeOn", desc := "(LIcehighway$Vehicle;)V" } : Jvm.MethodName) prog_3_method_15_code (2 : Nat) (Option.none : Option Jvm.ClassFile.FieldType)) ∈ WL := WL_t (in_tables_1_3 (List.mem_of_getElem? (i := 194) rfl)) rfl
theorem q675 : (Jvm.Cond.methodLink "IcehighwayLaw" (160 : Nat) ({ cls := "IcehighwayLaw", name := "told", desc := "(LIcehighway;II[J)I" } : Jvm.MethodName)) ∈ WL := WL_t (in_tables_1_3 (List.mem_of_getElem? (i := 195) rfl)) rfl
theorem q676 : (Jvm.Cond.static ({ cls := "IcehighwayLaw", name := "told", desc := "(LIcehighway;II[J)I" } : Jvm.MethodName)) ∈ WL := WL_t (in_tables_1_3 (List.mem_of_getElem? (i := 196) rfl)) rfl
theorem q677 : (Jvm.Cond.codeWith ({ cls := "IcehighwayLaw", name := "told", desc := "(LIcehighway;II[J)I" } : Jvm.MethodName) method_18_code (5 : Nat) (Option.some Jvm.ClassFile.FieldType.int) [((0 : Nat), (10 : Nat), (13 : Nat), (27 : Nat)), ((0 : Nat), (10 : Nat), (17 : Nat), (13 : Nat))]) ∈ WL := WL_t (in_tables_1_3 (List.mem_of_getElem? (i := 197) rfl)) rfl
theorem q678 : (Jvm.Cond.methodLink "IcehighwayLaw" (65 : Nat) ({ cls := "Icehighway", name := "told", desc := "(II)I" } : Jvm.MethodName)) ∈ WL := WL_t (in_tables_1_3 (List.mem_of_getElem? (i := 198) rfl)) rfl
theorem q679 : (Jvm.Cond.instanceMethod ({ cls := "Icehighway", name := "told", desc := "(II)I" } : Jvm.MethodName)) ∈ WL := WL_t (in_tables_1_3 (List.mem_of_getElem? (i := 199) rfl)) rfl
theorem q680 : (Jvm.Cond.selects "Icehighway" ({ cls := "Icehighway", name := "told", desc := "(II)I" } : Jvm.MethodName) ({ cls := "Icehighway", name := "told", desc := "(II)I" } : Jvm.MethodName)) ∈ WL := WL_t (in_tables_1_3 (List.mem_of_getElem? (i := 200) rfl)) rfl
theorem q681 : (Jvm.Cond.code ({ cls := "Icehighway", name := "told", desc := "(II)I" } : Jvm.MethodName) prog_1_method_18_code (4 : Nat) (Option.some Jvm.ClassFile.FieldType.int)) ∈ WL := WL_t (in_tables_1_3 (List.mem_of_getElem? (i := 201) rfl)) rfl
theorem q682 : (Jvm.Cond.methodLink "IcehighwayLaw" (163 : Nat) ({ cls := "IcehighwayLaw", name := "thickness", desc := "(LIcehighway;IZ[D)I" } : Jvm.MethodName)) ∈ WL := WL_t (in_tables_1_3 (List.mem_of_getElem? (i := 202) rfl)) rfl
theorem q683 : (Jvm.Cond.static ({ cls := "IcehighwayLaw", name := "thickness", desc := "(LIcehighway;IZ[D)I" } : Jvm.MethodName)) ∈ WL := WL_t (in_tables_1_3 (List.mem_of_getElem? (i := 203) rfl)) rfl
theorem q684 : (Jvm.Cond.codeWith ({ cls := "IcehighwayLaw", name := "thickness", desc := "(LIcehighway;IZ[D)I" } : Jvm.MethodName) method_19_code (5 : Nat) (Option.some Jvm.ClassFile.FieldType.int) [((0 : Nat), (9 : Nat), (12 : Nat), (27 : Nat))]) ∈ WL := WL_t (in_tables_1_3 (List.mem_of_getElem? (i := 204) rfl)) rfl
theorem q685 : (Jvm.Cond.methodLink "IcehighwayLaw" (68 : Nat) ({ cls := "Icehighway", name := "thickness", desc := "(IZ)D" } : Jvm.MethodName)) ∈ WL := WL_t (in_tables_1_3 (List.mem_of_getElem? (i := 205) rfl)) rfl
theorem q686 : (Jvm.Cond.instanceMethod ({ cls := "Icehighway", name := "thickness", desc := "(IZ)D" } : Jvm.MethodName)) ∈ WL := WL_t (in_tables_1_3 (List.mem_of_getElem? (i := 206) rfl)) rfl
theorem q687 : (Jvm.Cond.selects "Icehighway" ({ cls := "Icehighway", name := "thickness", desc := "(IZ)D" } : Jvm.MethodName) ({ cls := "Icehighway", name := "thickness", desc := "(IZ)D" } : Jvm.MethodName)) ∈ WL := WL_t (in_tables_1_3 (List.mem_of_getElem? (i := 207) rfl)) rfl
theorem q688 : (Jvm.Cond.code ({ cls := "Icehighway", name := "thickness", desc := "(IZ)D" } : Jvm.MethodName) prog_1_method_19_code (3 : Nat) (Option.some Jvm.ClassFile.FieldType.double)) ∈ WL := WL_t (in_tables_1_3 (List.mem_of_getElem? (i := 208) rfl)) rfl
theorem q689 : (Jvm.Cond.methodLink "Icehighway" (179 : Nat) ({ cls := "Icehighway$Piece", name := "thicknessAs", desc := "(Z)D" } : Jvm.MethodName)) ∈ WL := WL_t (in_tables_1_3 (List.mem_of_getElem? (i := 209) rfl)) rfl
theorem q690 : (Jvm.Cond.methodLink "IcehighwayLaw" (167 : Nat) ({ cls := "IcehighwayLaw", name := "bears", desc := "(LIcehighway;IZ[J)I" } : Jvm.MethodName)) ∈ WL := WL_t (in_tables_1_3 (List.mem_of_getElem? (i := 210) rfl)) rfl
theorem q691 : (Jvm.Cond.static ({ cls := "IcehighwayLaw", name := "bears", desc := "(LIcehighway;IZ[J)I" } : Jvm.MethodName)) ∈ WL := WL_t (in_tables_1_3 (List.mem_of_getElem? (i := 211) rfl)) rfl
theorem q692 : (Jvm.Cond.codeWith ({ cls := "IcehighwayLaw", name := "bears", desc := "(LIcehighway;IZ[J)I" } : Jvm.MethodName) method_20_code (5 : Nat) (Option.some Jvm.ClassFile.FieldType.int) [((0 : Nat), (10 : Nat), (13 : Nat), (27 : Nat))]) ∈ WL := WL_t (in_tables_1_3 (List.mem_of_getElem? (i := 212) rfl)) rfl
theorem q693 : (Jvm.Cond.methodLink "IcehighwayLaw" (72 : Nat) ({ cls := "Icehighway", name := "bears", desc := "(IZ)I" } : Jvm.MethodName)) ∈ WL := WL_t (in_tables_1_3 (List.mem_of_getElem? (i := 213) rfl)) rfl
theorem q694 : (Jvm.Cond.instanceMethod ({ cls := "Icehighway", name := "bears", desc := "(IZ)I" } : Jvm.MethodName)) ∈ WL := WL_t (in_tables_1_3 (List.mem_of_getElem? (i := 214) rfl)) rfl
theorem q695 : (Jvm.Cond.selects "Icehighway" ({ cls := "Icehighway", name := "bears", desc := "(IZ)I" } : Jvm.MethodName) ({ cls := "Icehighway", name := "bears", desc := "(IZ)I" } : Jvm.MethodName)) ∈ WL := WL_t (in_tables_1_3 (List.mem_of_getElem? (i := 215) rfl)) rfl
theorem q696 : (Jvm.Cond.code ({ cls := "Icehighway", name := "bears", desc := "(IZ)I" } : Jvm.MethodName) prog_1_method_20_code (3 : Nat) (Option.some Jvm.ClassFile.FieldType.int)) ∈ WL := WL_t (in_tables_1_3 (List.mem_of_getElem? (i := 216) rfl)) rfl
theorem q697 : (Jvm.Cond.methodLink "IcehighwayLaw" (171 : Nat) ({ cls := "IcehighwayLaw", name := "ofVehicle", desc := "(LIcehighway;II[J)I" } : Jvm.MethodName)) ∈ WL := WL_t (in_tables_1_3 (List.mem_of_getElem? (i := 217) rfl)) rfl
theorem q698 : (Jvm.Cond.static ({ cls := "IcehighwayLaw", name := "ofVehicle", desc := "(LIcehighway;II[J)I" } : Jvm.MethodName)) ∈ WL := WL_t (in_tables_1_3 (List.mem_of_getElem? (i := 218) rfl)) rfl
theorem q699 : (Jvm.Cond.codeWith ({ cls := "IcehighwayLaw", name := "ofVehicle", desc := "(LIcehighway;II[J)I" } : Jvm.MethodName) method_21_code (5 : Nat) (Option.some Jvm.ClassFile.FieldType.int) [((0 : Nat), (10 : Nat), (13 : Nat), (27 : Nat)), ((0 : Nat), (10 : Nat), (17 : Nat), (13 : Nat))]) ∈ WL := WL_t (in_tables_1_3 (List.mem_of_getElem? (i := 219) rfl)) rfl
theorem q700 : (Jvm.Cond.methodLink "IcehighwayLaw" (76 : Nat) ({ cls := "Icehighway", name := "ofVehicle", desc := "(II)I" } : Jvm.MethodName)) ∈ WL := WL_t (in_tables_1_3 (List.mem_of_getElem? (i := 220) rfl)) rfl
theorem q701 : (Jvm.Cond.instanceMethod ({ cls := "Icehighway", name := "ofVehicle", desc := "(II)I" } : Jvm.MethodName)) ∈ WL := WL_t (in_tables_1_3 (List.mem_of_getElem? (i := 221) rfl)) rfl
theorem q702 : (Jvm.Cond.selects "Icehighway" ({ cls := "Icehighway", name := "ofVehicle", desc := "(II)I" } : Jvm.MethodName) ({ cls := "Icehighway", name := "ofVehicle", desc := "(II)I" } : Jvm.MethodName)) ∈ WL := WL_t (in_tables_1_3 (List.mem_of_getElem? (i := 222) rfl)) rfl
theorem q703 : (Jvm.Cond.code ({ cls := "Icehighway", name := "ofVehicle", desc := "(II)I" } : Jvm.MethodName) prog_1_method_21_code (4 : Nat) (Option.some Jvm.ClassFile.FieldType.int)) ∈ WL := WL_t (in_tables_1_3 (List.mem_of_getElem? (i := 223) rfl)) rfl
theorem q704 : (Jvm.Cond.methodLink "IcehighwayLaw" (174 : Nat) ({ cls := "IcehighwayLaw", name := "why", desc := "(LIcehighway;I[J)I" } : Jvm.MethodName)) ∈ WL := WL_t (in_tables_1_3 (List.mem_of_getElem? (i := 224) rfl)) rfl
theorem q705 : (Jvm.Cond.static ({ cls := "IcehighwayLaw", name := "why", desc := "(LIcehighway;I[J)I" } : Jvm.MethodName)) ∈ WL := WL_t (in_tables_1_3 (List.mem_of_getElem? (i := 225) rfl)) rfl
theorem q706 : (Jvm.Cond.codeWith ({ cls := "IcehighwayLaw", name := "why", desc := "(LIcehighway;I[J)I" } : Jvm.MethodName) method_22_code (4 : Nat) (Option.some Jvm.ClassFile.FieldType.int) [((0 : Nat), (9 : Nat), (12 : Nat), (27 : Nat))]) ∈ WL := WL_t (in_tables_1_3 (List.mem_of_getElem? (i := 226) rfl)) rfl
theorem q707 : (Jvm.Cond.methodLink "IcehighwayLaw" (79 : Nat) ({ cls := "Icehighway", name := "why", desc := "(I)I" } : Jvm.MethodName)) ∈ WL := WL_t (in_tables_1_3 (List.mem_of_getElem? (i := 227) rfl)) rfl
theorem q708 : (Jvm.Cond.instanceMethod ({ cls := "Icehighway", name := "why", desc := "(I)I" } : Jvm.MethodName)) ∈ WL := WL_t (in_tables_1_3 (List.mem_of_getElem? (i := 228) rfl)) rfl
theorem q709 : (Jvm.Cond.selects "Icehighway" ({ cls := "Icehighway", name := "why", desc := "(I)I" } : Jvm.MethodName) ({ cls := "Icehighway", name := "why", desc := "(I)I" } : Jvm.MethodName)) ∈ WL := WL_t (in_tables_1_3 (List.mem_of_getElem? (i := 229) rfl)) rfl
theorem q710 : (Jvm.Cond.code ({ cls := "Icehighway", name := "why", desc := "(I)I" } : Jvm.MethodName) prog_1_method_22_code (3 : Nat) (Option.some Jvm.ClassFile.FieldType.int)) ∈ WL := WL_t (in_tables_1_3 (List.mem_of_getElem? (i := 230) rfl)) rfl
theorem q711 : (Jvm.Cond.methodLink "IcehighwayLaw" (177 : Nat) ({ cls := "IcehighwayLaw", name := "speed", desc := "(LIcehighway;II[J)I" } : Jvm.MethodName)) ∈ WL := WL_t (in_tables_1_3 (List.mem_of_getElem? (i := 231) rfl)) rfl
theorem q712 : (Jvm.Cond.static ({ cls := "IcehighwayLaw", name := "speed", desc := "(LIcehighway;II[J)I" } : Jvm.MethodName)) ∈ WL := WL_t (in_tables_1_3 (List.mem_of_getElem? (i := 232) rfl)) rfl
theorem q713 : (Jvm.Cond.codeWith ({ cls := "IcehighwayLaw", name := "speed", desc := "(LIcehighway;II[J)I" } : Jvm.MethodName) method_23_code (5 : Nat) (Option.some Jvm.ClassFile.FieldType.int) [((0 : Nat), (10 : Nat), (13 : Nat), (27 : Nat))]) ∈ WL := WL_t (in_tables_1_3 (List.mem_of_getElem? (i := 233) rfl)) rfl
theorem q714 : (Jvm.Cond.methodLink "IcehighwayLaw" (82 : Nat) ({ cls := "Icehighway", name := "speed", desc := "(II)I" } : Jvm.MethodName)) ∈ WL := WL_t (in_tables_1_3 (List.mem_of_getElem? (i := 234) rfl)) rfl
theorem q715 : (Jvm.Cond.instanceMethod ({ cls := "Icehighway", name := "speed", desc := "(II)I" } : Jvm.MethodName)) ∈ WL := WL_t (in_tables_1_3 (List.mem_of_getElem? (i := 235) rfl)) rfl
theorem q716 : (Jvm.Cond.selects "Icehighway" ({ cls := "Icehighway", name := "speed", desc := "(II)I" } : Jvm.MethodName) ({ cls := "Icehighway", name := "speed", desc := "(II)I" } : Jvm.MethodName)) ∈ WL := WL_t (in_tables_1_3 (List.mem_of_getElem? (i := 236) rfl)) rfl
theorem q717 : (Jvm.Cond.code ({ cls := "Icehighway", name := "speed", desc := "(II)I" } : Jvm.MethodName) prog_1_method_23_code (3 : Nat) (Option.some Jvm.ClassFile.FieldType.int)) ∈ WL := WL_t (in_tables_1_3 (List.mem_of_getElem? (i := 237) rfl)) rfl
theorem q718 : (Jvm.Cond.methodLink "Icehighway" (203 : Nat) ({ cls := "Icehighway$Piece", name := "speedOf", desc := "(LIcehighway$Vehicle;)I" } : Jvm.MethodName)) ∈ WL := WL_t (in_tables_1_3 (List.mem_of_getElem? (i := 238) rfl)) rfl
theorem q719 : (Jvm.Cond.methodLink "IcehighwayLaw" (180 : Nat) ({ cls := "IcehighwayLaw", name := "minutes", desc := "(LIcehighway;II[J)I" } : Jvm.MethodName)) ∈ WL := WL_t (in_tables_1_3 (List.mem_of_getElem? (i := 239) rfl)) rfl
theorem q720 : (Jvm.Cond.static ({ cls := "IcehighwayLaw", name := "minutes", desc := "(LIcehighway;II[J)I" } : Jvm.MethodName)) ∈ WL := WL_t (in_tables_1_4 (List.mem_of_getElem? (i := 0) rfl)) rfl
theorem q721 : (Jvm.Cond.codeWith ({ cls := "IcehighwayLaw", name := "minutes", desc := "(LIcehighway;II[J)I" } : Jvm.MethodName) method_24_code (5 : Nat) (Option.some Jvm.ClassFile.FieldType.int) [((0 : Nat), (10 : Nat), (13 : Nat), (27 : Nat))]) ∈ WL := WL_t (in_tables_1_4 (List.mem_of_getElem? (i := 1) rfl)) rfl
theorem q722 : (Jvm.Cond.methodLink "IcehighwayLaw" (85 : Nat) ({ cls := "Icehighway", name := "minutes", desc := "(II)I" } : Jvm.MethodName)) ∈ WL := WL_t (in_tables_1_4 (List.mem_of_getElem? (i := 2) rfl)) rfl
theorem q723 : (Jvm.Cond.instanceMethod ({ cls := "Icehighway", name := "minutes", desc := "(II)I" } : Jvm.MethodName)) ∈ WL := WL_t (in_tables_1_4 (List.mem_of_getElem? (i := 3) rfl)) rfl
theorem q724 : (Jvm.Cond.selects "Icehighway" ({ cls := "Icehighway", name := "minutes", desc := "(II)I" } : Jvm.MethodName) ({ cls := "Icehighway", name := "minutes", desc := "(II)I" } : Jvm.MethodName)) ∈ WL := WL_t (in_tables_1_4 (List.mem_of_getElem? (i := 4) rfl)) rfl
theorem q725 : (Jvm.Cond.code ({ cls := "Icehighway", name := "minutes", desc := "(II)I" } : Jvm.MethodName) prog_1_method_24_code (3 : Nat) (Option.some Jvm.ClassFile.FieldType.int)) ∈ WL := WL_t (in_tables_1_4 (List.mem_of_getElem? (i := 5) rfl)) rfl
theorem q726 : (Jvm.Cond.methodLink "IcehighwayLaw" (183 : Nat) ({ cls := "IcehighwayLaw", name := "minutesAnew", desc := "(LIcehighway;II[J)I" } : Jvm.MethodName)) ∈ WL := WL_t (in_tables_1_4 (List.mem_of_getElem? (i := 6) rfl)) rfl
theorem q727 : (Jvm.Cond.static ({ cls := "IcehighwayLaw", name := "minutesAnew", desc := "(LIcehighway;II[J)I" } : Jvm.MethodName)) ∈ WL := WL_t (in_tables_1_4 (List.mem_of_getElem? (i := 7) rfl)) rfl
theorem q728 : (Jvm.Cond.codeWith ({ cls := "IcehighwayLaw", name := "minutesAnew", desc := "(LIcehighway;II[J)I" } : Jvm.MethodName) method_25_code (5 : Nat) (Option.some Jvm.ClassFile.FieldType.int) [((0 : Nat), (10 : Nat), (13 : Nat), (27 : Nat))]) ∈ WL := WL_t (in_tables_1_4 (List.mem_of_getElem? (i := 8) rfl)) rfl
theorem q729 : (Jvm.Cond.methodLink "IcehighwayLaw" (88 : Nat) ({ cls := "Icehighway", name := "minutesAnew", desc := "(II)I" } : Jvm.MethodName)) ∈ WL := WL_t (in_tables_1_4 (List.mem_of_getElem? (i := 9) rfl)) rfl
theorem q730 : (Jvm.Cond.instanceMethod ({ cls := "Icehighway", name := "minutesAnew", desc := "(II)I" } : Jvm.MethodName)) ∈ WL := WL_t (in_tables_1_4 (List.mem_of_getElem? (i := 10) rfl)) rfl
theorem q731 : (Jvm.Cond.selects "Icehighway" ({ cls := "Icehighway", name := "minutesAnew", desc := "(II)I" } : Jvm.MethodName) ({ cls := "Icehighway", name := "minutesAnew", desc := "(II)I" } : Jvm.MethodName)) ∈ WL := WL_t (in_tables_1_4 (List.mem_of_getElem? (i := 11) rfl)) rfl
theorem q732 : (Jvm.Cond.code ({ cls := "Icehighway", name := "minutesAnew", desc := "(II)I" } : Jvm.MethodName) prog_1_method_25_code (7 : Nat) (Option.some Jvm.ClassFile.FieldType.int)) ∈ WL := WL_t (in_tables_1_4 (List.mem_of_getElem? (i := 12) rfl)) rfl
theorem q733 : (Jvm.Cond.methodLink "IcehighwayLaw" (186 : Nat) ({ cls := "IcehighwayLaw", name := "kilos", desc := "(LIcehighway;II[J)I" } : Jvm.MethodName)) ∈ WL := WL_t (in_tables_1_4 (List.mem_of_getElem? (i := 13) rfl)) rfl
theorem q734 : (Jvm.Cond.static ({ cls := "IcehighwayLaw", name := "kilos", desc := "(LIcehighway;II[J)I" } : Jvm.MethodName)) ∈ WL := WL_t (in_tables_1_4 (List.mem_of_getElem? (i := 14) rfl)) rfl
theorem q735 : (Jvm.Cond.codeWith ({ cls := "IcehighwayLaw", name := "kilos", desc := "(LIcehighway;II[J)I" } : Jvm.MethodName) method_26_code (5 : Nat) (Option.some Jvm.ClassFile.FieldType.int) [((0 : Nat), (10 : Nat), (13 : Nat), (27 : Nat)), ((0 : Nat), (10 : Nat), (17 : Nat), (13 : Nat))]) ∈ WL := WL_t (in_tables_1_4 (List.mem_of_getElem? (i := 15) rfl)) rfl
theorem q736 : (Jvm.Cond.methodLink "IcehighwayLaw" (91 : Nat) ({ cls := "Icehighway", name := "kilos", desc := "(II)I" } : Jvm.MethodName)) ∈ WL := WL_t (in_tables_1_4 (List.mem_of_getElem? (i := 16) rfl)) rfl
theorem q737 : (Jvm.Cond.instanceMethod ({ cls := "Icehighway", name := "kilos", desc := "(II)I" } : Jvm.MethodName)) ∈ WL := WL_t (in_tables_1_4 (List.mem_of_getElem? (i := 17) rfl)) rfl
theorem q738 : (Jvm.Cond.selects "Icehighway" ({ cls := "Icehighway", name := "kilos", desc := "(II)I" } : Jvm.MethodName) ({ cls := "Icehighway", name := "kilos", desc := "(II)I" } : Jvm.MethodName)) ∈ WL := WL_t (in_tables_1_4 (List.mem_of_getElem? (i := 18) rfl)) rfl
theorem q739 : (Jvm.Cond.code ({ cls := "Icehighway", name := "kilos", desc := "(II)I" } : Jvm.MethodName) prog_1_method_26_code (3 : Nat) (Option.some Jvm.ClassFile.FieldType.int)) ∈ WL := WL_t (in_tables_1_4 (List.mem_of_getElem? (i := 19) rfl)) rfl
theorem q740 : (Jvm.Cond.methodLink "Icehighway" (212 : Nat) ({ cls := "Icehighway", name := "kilosInVehicles", desc := "(IZ)I" } : Jvm.MethodName)) ∈ WL := WL_t (in_tables_1_4 (List.mem_of_getElem? (i := 20) rfl)) rfl
theorem q741 : (Jvm.Cond.privateMethod ({ cls := "Icehighway", name := "kilosInVehicles", desc := "(IZ)I" } : Jvm.MethodName)) ∈ XL := XL_t (in_tables_1_4 (List.mem_of_getElem? (i := 21) rfl)) rfl
theorem q742 : (Jvm.Cond.instanceMethod ({ cls := "Icehighway", name := "kilosInVehicles", desc := "(IZ)I" } : Jvm.MethodName)) ∈ WL := WL_t (in_tables_1_4 (List.mem_of_getElem? (i := 22) rfl)) rfl
theorem q743 : (Jvm.Cond.code ({ cls := "Icehighway", name := "kilosInVehicles", desc := "(IZ)I" } : Jvm.MethodName) prog_1_method_33_code (6 : Nat) (Option.some Jvm.ClassFile.FieldType.int)) ∈ WL := WL_t (in_tables_1_4 (List.mem_of_getElem? (i := 23) rfl)) rfl
theorem q744 : (Jvm.Cond.methodLink "IcehighwayLaw" (189 : Nat) ({ cls := "IcehighwayLaw", name := "kilosAnew", desc := "(LIcehighway;I[J)I" } : Jvm.MethodName)) ∈ WL := WL_t (in_tables_1_4 (List.mem_of_getElem? (i := 24) rfl)) rfl
theorem q745 : (Jvm.Cond.static ({ cls := "IcehighwayLaw", name := "kilosAnew", desc := "(LIcehighway;I[J)I" } : Jvm.MethodName)) ∈ WL := WL_t (in_tables_1_4 (List.mem_of_getElem? (i := 25) rfl)) rfl
theorem q746 : (Jvm.Cond.codeWith ({ cls := "IcehighwayLaw", name := "kilosAnew", desc := "(LIcehighway;I[J)I" } : Jvm.MethodName) method_27_code (4 : Nat) (Option.some Jvm.ClassFile.FieldType.int) [((0 : Nat), (9 : Nat), (12 : Nat), (27 : Nat))]) ∈ WL := WL_t (in_tables_1_4 (List.mem_of_getElem? (i := 26) rfl)) rfl
theorem q747 : (Jvm.Cond.methodLink "IcehighwayLaw" (94 : Nat) ({ cls := "Icehighway", name := "kilosAnew", desc := "(I)I" } : Jvm.MethodName)) ∈ WL := WL_t (in_tables_1_4 (List.mem_of_getElem? (i := 27) rfl)) rfl
theorem q748 : (Jvm.Cond.instanceMethod ({ cls := "Icehighway", name := "kilosAnew", desc := "(I)I" } : Jvm.MethodName)) ∈ WL := WL_t (in_tables_1_4 (List.mem_of_getElem? (i := 28) rfl)) rfl
theorem q749 : (Jvm.Cond.selects "Icehighway" ({ cls := "Icehighway", name := "kilosAnew", desc := "(I)I" } : Jvm.MethodName) ({ cls := "Icehighway", name := "kilosAnew", desc := "(I)I" } : Jvm.MethodName)) ∈ WL := WL_t (in_tables_1_4 (List.mem_of_getElem? (i := 29) rfl)) rfl
theorem q750 : (Jvm.Cond.code ({ cls := "Icehighway", name := "kilosAnew", desc := "(I)I" } : Jvm.MethodName) prog_1_method_27_code (5 : Nat) (Option.some Jvm.ClassFile.FieldType.int)) ∈ WL := WL_t (in_tables_1_4 (List.mem_of_getElem? (i := 30) rfl)) rfl
theorem q751 : (Jvm.Cond.classLink "IcehighwayLaw" (98 : Nat) "IcehighwayModel") ∈ WL := WL_t (in_tables_1_4 (List.mem_of_getElem? (i := 31) rfl)) rfl
theorem q752 : (Jvm.Cond.instantiable "IcehighwayModel" (30 : Nat)) ∈ WL := WL_t (in_tables_1_4 (List.mem_of_getElem? (i := 32) rfl)) rfl
theorem q753 : (Jvm.Cond.methodLink "IcehighwayLaw" (100 : Nat) ({ cls := "IcehighwayModel", name := "<init>", desc := "()V" } : Jvm.MethodName)) ∈ WL := WL_t (in_tables_1_4 (List.mem_of_getElem? (i := 33) rfl)) rfl
theorem q754 : (Jvm.Cond.instanceMethod ({ cls := "IcehighwayModel", name := "<init>", desc := "()V" } : Jvm.MethodName)) ∈ WL := WL_t (in_tables_1_4 (List.mem_of_getElem? (i := 34) rfl)) rfl
theorem q755 : (Jvm.Cond.code ({ cls := "IcehighwayModel", name := "<init>", desc := "()V" } : Jvm.MethodName) prog_6_method_1_code (1 : Nat) (Option.none : Option Jvm.ClassFile.FieldType)) ∈ WL := WL_t (in_tables_1_4 (List.mem_of_getElem? (i := 35) rfl)) rfl
theorem q756 : (Jvm.Cond.methodLink "IcehighwayModel" (1 : Nat) ({ cls := "java/lang/Object", name := "<init>", desc := "()V" } : Jvm.MethodName)) ∈ WL := WL_t (in_tables_1_4 (List.mem_of_getElem? (i := 36) rfl)) rfl
theorem q757 : (Jvm.Cond.fieldLink "IcehighwayModel" (167 : Nat) "IcehighwayModel" "minute" "I") ∈ WL := WL_t (in_tables_1_4 (List.mem_of_getElem? (i := 37) rfl)) rfl
theorem q758 : (Jvm.Cond.fieldLink "IcehighwayModel" (106 : Nat) "IcehighwayModel" "cold" "I") ∈ WL := WL_t (in_tables_1_4 (List.mem_of_getElem? (i := 38) rfl)) rfl
theorem q759 : (Jvm.Cond.fieldLink "IcehighwayModel" (7 : Nat) "IcehighwayModel" "gap" "I") ∈ WL := WL_t (in_tables_1_4 (List.mem_of_getElem? (i := 39) rfl)) rfl
theorem q760 : (Jvm.Cond.fieldLink "IcehighwayModel" (91 : Nat) "IcehighwayModel" "pieces" "I") ∈ WL := WL_t (in_tables_1_4 (List.mem_of_getElem? (i := 40) rfl)) rfl
theorem q761 : (Jvm.Cond.fieldLink "IcehighwayModel" (13 : Nat) "IcehighwayModel" "kind" "[I") ∈ WL := WL_t (in_tables_1_4 (List.mem_of_getElem? (i := 41) rfl)) rfl
theorem q762 : (Jvm.Cond.fieldLink "IcehighwayModel" (17 : Nat) "IcehighwayModel" "metres" "[I") ∈ WL := WL_t (in_tables_1_4 (List.mem_of_getElem? (i := 42) rfl)) rfl
theorem q763 : (Jvm.Cond.fieldLink "IcehighwayModel" (20 : Nat) "IcehighwayModel" "depth" "[I") ∈ WL := WL_t (in_tables_1_4 (List.mem_of_getElem? (i := 43) rfl)) rfl
theorem q764 : (Jvm.Cond.fieldLink "IcehighwayModel" (23 : Nat) "IcehighwayModel" "black" "[I") ∈ WL := WL_t (in_tables_1_4 (List.mem_of_getElem? (i := 44) rfl)) rfl
theorem q765 : (Jvm.Cond.fieldLink "IcehighwayModel" (26 : Nat) "IcehighwayModel" "white" "[I") ∈ WL := WL_t (in_tables_1_4 (List.mem_of_getElem? (i := 45) rfl)) rfl
theorem q766 : (Jvm.Cond.fieldLink "IcehighwayModel" (29 : Nat) "IcehighwayModel" "water" "[I") ∈ WL := WL_t (in_tables_1_4 (List.mem_of_getElem? (i := 46) rfl)) rfl
theorem q767 : (Jvm.Cond.fieldLink "IcehighwayModel" (32 : Nat) "IcehighwayModel" "snow" "[I") ∈ WL := WL_t (in_tables_1_4 (List.mem_of_getElem? (i := 47) rfl)) rfl
theorem q768 : (Jvm.Cond.fieldLink "IcehighwayModel" (35 : Nat) "IcehighwayModel" "crack" "[I") ∈ WL := WL_t (in_tables_1_4 (List.mem_of_getElem? (i := 48) rfl)) rfl
theorem q769 : (Jvm.Cond.fieldLink "IcehighwayModel" (38 : Nat) "IcehighwayModel" "open" "[I") ∈ WL := WL_t (in_tables_1_4 (List.mem_of_getElem? (i := 49) rfl)) rfl
theorem q770 : (Jvm.Cond.fieldLink "IcehighwayModel" (41 : Nat) "IcehighwayModel" "limit" "[I") ∈ WL := WL_t (in_tables_1_4 (List.mem_of_getElem? (i := 50) rfl)) rfl
theorem q771 : (Jvm.Cond.fieldLink "IcehighwayModel" (44 : Nat) "IcehighwayModel" "known" "[D") ∈ WL := WL_t (in_tables_1_4 (List.mem_of_getElem? (i := 51) rfl)) rfl
theorem q772 : (Jvm.Cond.fieldLink "IcehighwayModel" (48 : Nat) "IcehighwayModel" "came" "[I") ∈ WL := WL_t (in_tables_1_4 (List.mem_of_getElem? (i := 52) rfl)) rfl
theorem q773 : (Jvm.Cond.fieldLink "IcehighwayModel" (98 : Nat) "IcehighwayModel" "vehicles" "I") ∈ WL := WL_t (in_tables_1_4 (List.mem_of_getElem? (i := 53) rfl)) rfl
theorem q774 : (Jvm.Cond.fieldLink "IcehighwayModel" (51 : Nat) "IcehighwayModel" "empty" "[I") ∈ WL := WL_t (in_tables_1_4 (List.mem_of_getElem? (i := 54) rfl)) rfl
theorem q775 : (Jvm.Cond.fieldLink "IcehighwayModel" (54 : Nat) "IcehighwayModel" "carries" "[I") ∈ WL := WL_t (in_tables_1_4 (List.mem_of_getElem? (i := 55) rfl)) rfl
theorem q776 : (Jvm.Cond.fieldLink "IcehighwayModel" (57 : Nat) "IcehighwayModel" "fast" "[I") ∈ WL := WL_t (in_tables_1_4 (List.mem_of_getElem? (i := 56) rfl)) rfl
theorem q777 : (Jvm.Cond.fieldLink "IcehighwayModel" (60 : Nat) "IcehighwayModel" "where" "[I") ∈ WL := WL_t (in_tables_1_4 (List.mem_of_getElem? (i := 57) rfl)) rfl
theorem q778 : (Jvm.Cond.fieldLink "IcehighwayModel" (63 : Nat) "IcehighwayModel" "at" "[I") ∈ WL := WL_t (in_tables_1_4 (List.mem_of_getElem? (i := 58) rfl)) rfl
theorem q779 : (Jvm.Cond.fieldLink "IcehighwayModel" (66 : Nat) "IcehighwayModel" "toMine" "[Z") ∈ WL := WL_t (in_tables_1_4 (List.mem_of_getElem? (i := 59) rfl)) rfl
theorem q780 : (Jvm.Cond.fieldLink "IcehighwayModel" (70 : Nat) "IcehighwayModel" "over" "[I") ∈ WL := WL_t (in_tables_1_4 (List.mem_of_getElem? (i := 60) rfl)) rfl
theorem q781 : (Jvm.Cond.fieldLink "IcehighwayModel" (73 : Nat) "IcehighwayModel" "load" "[I") ∈ WL := WL_t (in_tables_1_4 (List.mem_of_getElem? (i := 61) rfl)) rfl
theorem q782 : (Jvm.Cond.fieldLink "IcehighwayModel" (76 : Nat) "IcehighwayModel" "goods" "[I") ∈ WL := WL_t (in_tables_1_4 (List.mem_of_getElem? (i := 62) rfl)) rfl
theorem q783 : (Jvm.Cond.fieldLink "IcehighwayModel" (79 : Nat) "IcehighwayModel" "taken" "[I") ∈ WL := WL_t (in_tables_1_4 (List.mem_of_getElem? (i := 63) rfl)) rfl
theorem q784 : (Jvm.Cond.fieldLink "IcehighwayModel" (82 : Nat) "IcehighwayModel" "brought" "[I") ∈ WL := WL_t (in_tables_1_4 (List.mem_of_getElem? (i := 64) rfl)) rfl
theorem q785 : (Jvm.Cond.fieldLink "IcehighwayModel" (85 : Nat) "IcehighwayModel" "ordered" "[I") ∈ WL := WL_t (in_tables_1_4 (List.mem_of_getElem? (i := 65) rfl)) rfl
theorem q786 : (Jvm.Cond.fieldLink "IcehighwayModel" (88 : Nat) "IcehighwayModel" "thrown" "I") ∈ WL := WL_t (in_tables_1_4 (List.mem_of_getElem? (i := 66) rfl)) rfl
theorem q787 : (Jvm.Cond.lays "IcehighwayModel" "IcehighwayModel" "minute" "I") ∈ WL := WL_t (in_tables_1_4 (List.mem_of_getElem? (i := 67) rfl)) rfl
theorem q789 : (Jvm.Cond.lays "IcehighwayModel" "IcehighwayModel" "cold" "I") ∈ WL := WL_t (in_tables_1_4 (List.mem_of_getElem? (i := 69) rfl)) rfl
theorem q791 : (Jvm.Cond.lays "IcehighwayModel" "IcehighwayModel" "gap" "I") ∈ WL := WL_t (in_tables_1_4 (List.mem_of_getElem? (i := 71) rfl)) rfl
theorem q793 : (Jvm.Cond.lays "IcehighwayModel" "IcehighwayModel" "pieces" "I") ∈ WL := WL_t (in_tables_1_4 (List.mem_of_getElem? (i := 73) rfl)) rfl
theorem q795 : (Jvm.Cond.laysFinal "IcehighwayModel" "IcehighwayModel" "kind" "[I") ∈ WL := WL_t (in_tables_1_4 (List.mem_of_getElem? (i := 75) rfl)) rfl
theorem q797 : (Jvm.Cond.laysFinal "IcehighwayModel" "IcehighwayModel" "metres" "[I") ∈ WL := WL_t (in_tables_1_4 (List.mem_of_getElem? (i := 77) rfl)) rfl
theorem q799 : (Jvm.Cond.laysFinal "IcehighwayModel" "IcehighwayModel" "depth" "[I") ∈ WL := WL_t (in_tables_1_4 (List.mem_of_getElem? (i := 79) rfl)) rfl
theorem q801 : (Jvm.Cond.laysFinal "IcehighwayModel" "IcehighwayModel" "black" "[I") ∈ WL := WL_t (in_tables_1_4 (List.mem_of_getElem? (i := 81) rfl)) rfl
theorem q803 : (Jvm.Cond.laysFinal "IcehighwayModel" "IcehighwayModel" "white" "[I") ∈ WL := WL_t (in_tables_1_4 (List.mem_of_getElem? (i := 83) rfl)) rfl
theorem q805 : (Jvm.Cond.laysFinal "IcehighwayModel" "IcehighwayModel" "water" "[I") ∈ WL := WL_t (in_tables_1_4 (List.mem_of_getElem? (i := 85) rfl)) rfl
theorem q807 : (Jvm.Cond.laysFinal "IcehighwayModel" "IcehighwayModel" "snow" "[I") ∈ WL := WL_t (in_tables_1_4 (List.mem_of_getElem? (i := 87) rfl)) rfl
theorem q809 : (Jvm.Cond.laysFinal "IcehighwayModel" "IcehighwayModel" "crack" "[I") ∈ WL := WL_t (in_tables_1_4 (List.mem_of_getElem? (i := 89) rfl)) rfl
theorem q811 : (Jvm.Cond.laysFinal "IcehighwayModel" "IcehighwayModel" "open" "[I") ∈ WL := WL_t (in_tables_1_4 (List.mem_of_getElem? (i := 91) rfl)) rfl
theorem q813 : (Jvm.Cond.laysFinal "IcehighwayModel" "IcehighwayModel" "limit" "[I") ∈ WL := WL_t (in_tables_1_4 (List.mem_of_getElem? (i := 93) rfl)) rfl
theorem q815 : (Jvm.Cond.laysFinal "IcehighwayModel" "IcehighwayModel" "known" "[D") ∈ WL := WL_t (in_tables_1_4 (List.mem_of_getElem? (i := 95) rfl)) rfl
theorem q817 : (Jvm.Cond.laysFinal "IcehighwayModel" "IcehighwayModel" "came" "[I") ∈ WL := WL_t (in_tables_1_4 (List.mem_of_getElem? (i := 97) rfl)) rfl
theorem q819 : (Jvm.Cond.lays "IcehighwayModel" "IcehighwayModel" "vehicles" "I") ∈ WL := WL_t (in_tables_1_4 (List.mem_of_getElem? (i := 99) rfl)) rfl
theorem q821 : (Jvm.Cond.laysFinal "IcehighwayModel" "IcehighwayModel" "empty" "[I") ∈ WL := WL_t (in_tables_1_4 (List.mem_of_getElem? (i := 101) rfl)) rfl
theorem q823 : (Jvm.Cond.laysFinal "IcehighwayModel" "IcehighwayModel" "carries" "[I") ∈ WL := WL_t (in_tables_1_4 (List.mem_of_getElem? (i := 103) rfl)) rfl
theorem q825 : (Jvm.Cond.laysFinal "IcehighwayModel" "IcehighwayModel" "fast" "[I") ∈ WL := WL_t (in_tables_1_4 (List.mem_of_getElem? (i := 105) rfl)) rfl
theorem q827 : (Jvm.Cond.laysFinal "IcehighwayModel" "IcehighwayModel" "where" "[I") ∈ WL := WL_t (in_tables_1_4 (List.mem_of_getElem? (i := 107) rfl)) rfl
theorem q829 : (Jvm.Cond.laysFinal "IcehighwayModel" "IcehighwayModel" "at" "[I") ∈ WL := WL_t (in_tables_1_4 (List.mem_of_getElem? (i := 109) rfl)) rfl
theorem q831 : (Jvm.Cond.laysFinal "IcehighwayModel" "IcehighwayModel" "toMine" "[Z") ∈ WL := WL_t (in_tables_1_4 (List.mem_of_getElem? (i := 111) rfl)) rfl
theorem q833 : (Jvm.Cond.laysFinal "IcehighwayModel" "IcehighwayModel" "over" "[I") ∈ WL := WL_t (in_tables_1_4 (List.mem_of_getElem? (i := 113) rfl)) rfl
theorem q835 : (Jvm.Cond.laysFinal "IcehighwayModel" "IcehighwayModel" "load" "[I") ∈ WL := WL_t (in_tables_1_4 (List.mem_of_getElem? (i := 115) rfl)) rfl
theorem q837 : (Jvm.Cond.laysFinal "IcehighwayModel" "IcehighwayModel" "goods" "[I") ∈ WL := WL_t (in_tables_1_4 (List.mem_of_getElem? (i := 117) rfl)) rfl
theorem q839 : (Jvm.Cond.laysFinal "IcehighwayModel" "IcehighwayModel" "taken" "[I") ∈ WL := WL_t (in_tables_1_4 (List.mem_of_getElem? (i := 119) rfl)) rfl
theorem q841 : (Jvm.Cond.laysFinal "IcehighwayModel" "IcehighwayModel" "brought" "[I") ∈ WL := WL_t (in_tables_1_4 (List.mem_of_getElem? (i := 121) rfl)) rfl
theorem q843 : (Jvm.Cond.laysFinal "IcehighwayModel" "IcehighwayModel" "ordered" "[I") ∈ WL := WL_t (in_tables_1_4 (List.mem_of_getElem? (i := 123) rfl)) rfl
theorem q845 : (Jvm.Cond.lays "IcehighwayModel" "IcehighwayModel" "thrown" "I") ∈ WL := WL_t (in_tables_1_4 (List.mem_of_getElem? (i := 125) rfl)) rfl
theorem q848 : (Jvm.Cond.arrayClass Jvm.ClassFile.FieldType.double) ∈ WL := WL_t (in_tables_1_4 (List.mem_of_getElem? (i := 128) rfl)) rfl
theorem q849 : (Jvm.Cond.arrayClass Jvm.ClassFile.FieldType.boolean) ∈ WL := WL_t (in_tables_1_4 (List.mem_of_getElem? (i := 129) rfl)) rfl
theorem q850 : (Jvm.Cond.methodLink "IcehighwayLaw" (107 : Nat) ({ cls := "IcehighwayModel", name := "thrown", desc := "()I" } : Jvm.MethodName)) ∈ WL := WL_t (in_tables_1_4 (List.mem_of_getElem? (i := 130) rfl)) rfl
theorem q851 : (Jvm.Cond.instanceMethod ({ cls := "IcehighwayModel", name := "thrown", desc := "()I" } : Jvm.MethodName)) ∈ WL := WL_t (in_tables_1_4 (List.mem_of_getElem? (i := 131) rfl)) rfl
theorem q852 : (Jvm.Cond.selects "IcehighwayModel" ({ cls := "IcehighwayModel", name := "thrown", desc := "()I" } : Jvm.MethodName) ({ cls := "IcehighwayModel", name := "thrown", desc := "()I" } : Jvm.MethodName)) ∈ WL := WL_t (in_tables_1_4 (List.mem_of_getElem? (i := 132) rfl)) rfl
theorem q853 : (Jvm.Cond.code ({ cls := "IcehighwayModel", name := "thrown", desc := "()I" } : Jvm.MethodName) prog_6_method_2_code (1 : Nat) (Option.some Jvm.ClassFile.FieldType.int)) ∈ WL := WL_t (in_tables_1_4 (List.mem_of_getElem? (i := 133) rfl)) rfl
theorem q854 : (Jvm.Cond.methodLink "IcehighwayLaw" (106 : Nat) ({ cls := "IcehighwayModel", name := "piece", desc := "(III)I" } : Jvm.MethodName)) ∈ WL := WL_t (in_tables_1_4 (List.mem_of_getElem? (i := 134) rfl)) rfl
theorem q855 : (Jvm.Cond.instanceMethod ({ cls := "IcehighwayModel", name := "piece", desc := "(III)I" } : Jvm.MethodName)) ∈ WL := WL_t (in_tables_1_4 (List.mem_of_getElem? (i := 135) rfl)) rfl
theorem q856 : (Jvm.Cond.selects "IcehighwayModel" ({ cls := "IcehighwayModel", name := "piece", desc := "(III)I" } : Jvm.MethodName) ({ cls := "IcehighwayModel", name := "piece", desc := "(III)I" } : Jvm.MethodName)) ∈ WL := WL_t (in_tables_1_4 (List.mem_of_getElem? (i := 136) rfl)) rfl
theorem q857 : (Jvm.Cond.code ({ cls := "IcehighwayModel", name := "piece", desc := "(III)I" } : Jvm.MethodName) prog_6_method_9_code (5 : Nat) (Option.some Jvm.ClassFile.FieldType.int)) ∈ WL := WL_t (in_tables_1_4 (List.mem_of_getElem? (i := 137) rfl)) rfl
theorem q858 : (Jvm.Cond.methodLink "IcehighwayModel" (94 : Nat) ({ cls := "IcehighwayModel", name := "isIn", desc := "(III)Z" } : Jvm.MethodName)) ∈ WL := WL_t (in_tables_1_4 (List.mem_of_getElem? (i := 138) rfl)) rfl
theorem q859 : (Jvm.Cond.static ({ cls := "IcehighwayModel", name := "isIn", desc := "(III)Z" } : Jvm.MethodName)) ∈ WL := WL_t (in_tables_1_4 (List.mem_of_getElem? (i := 139) rfl)) rfl
theorem q860 : (Jvm.Cond.code ({ cls := "IcehighwayModel", name := "isIn", desc := "(III)Z" } : Jvm.MethodName) prog_6_method_4_code (3 : Nat) (Option.some Jvm.ClassFile.FieldType.boolean)) ∈ WL := WL_t (in_tables_1_4 (List.mem_of_getElem? (i := 140) rfl)) rfl
theorem q861 : (Jvm.Cond.methodLink "IcehighwayModel" (101 : Nat) ({ cls := "IcehighwayModel", name := "fails", desc := "(I)Z" } : Jvm.MethodName)) ∈ WL := WL_t (in_tables_1_4 (List.mem_of_getElem? (i := 141) rfl)) rfl
theorem q862 : (Jvm.Cond.privateMethod ({ cls := "IcehighwayModel", name := "fails", desc := "(I)Z" } : Jvm.MethodName)) ∈ XL := XL_t (in_tables_1_4 (List.mem_of_getElem? (i := 142) rfl)) rfl
theorem q863 : (Jvm.Cond.instanceMethod ({ cls := "IcehighwayModel", name := "fails", desc := "(I)Z" } : Jvm.MethodName)) ∈ WL := WL_t (in_tables_1_4 (List.mem_of_getElem? (i := 143) rfl)) rfl
theorem q864 : (Jvm.Cond.code ({ cls := "IcehighwayModel", name := "fails", desc := "(I)Z" } : Jvm.MethodName) prog_6_method_3_code (2 : Nat) (Option.some Jvm.ClassFile.FieldType.boolean)) ∈ WL := WL_t (in_tables_1_4 (List.mem_of_getElem? (i := 144) rfl)) rfl
theorem q865 : (Jvm.Cond.constant "IcehighwayModel" (105 : Nat) (-1000000 : Int32)) ∈ WL := WL_t (in_tables_1_4 (List.mem_of_getElem? (i := 145) rfl)) rfl
theorem q866 : (Jvm.Cond.methodLink "IcehighwayLaw" (114 : Nat) ({ cls := "IcehighwayModel", name := "weather", desc := "(I)I" } : Jvm.MethodName)) ∈ WL := WL_t (in_tables_1_4 (List.mem_of_getElem? (i := 146) rfl)) rfl
theorem q867 : (Jvm.Cond.instanceMethod ({ cls := "IcehighwayModel", name := "weather", desc := "(I)I" } : Jvm.MethodName)) ∈ WL := WL_t (in_tables_1_4 (List.mem_of_getElem? (i := 147) rfl)) rfl
theorem q868 : (Jvm.Cond.selects "IcehighwayModel" ({ cls := "IcehighwayModel", name := "weather", desc := "(I)I" } : Jvm.MethodName) ({ cls := "IcehighwayModel", name := "weather", desc := "(I)I" } : Jvm.MethodName)) ∈ WL := WL_t (in_tables_1_4 (List.mem_of_getElem? (i := 148) rfl)) rfl
theorem q869 : (Jvm.Cond.code ({ cls := "IcehighwayModel", name := "weather", desc := "(I)I" } : Jvm.MethodName) prog_6_method_10_code (3 : Nat) (Option.some Jvm.ClassFile.FieldType.int)) ∈ WL := WL_t (in_tables_1_4 (List.mem_of_getElem? (i := 149) rfl)) rfl
theorem q870 : (Jvm.Cond.methodLink "IcehighwayLaw" (117 : Nat) ({ cls := "IcehighwayModel", name := "snow", desc := "(I)I" } : Jvm.MethodName)) ∈ WL := WL_t (in_tables_1_4 (List.mem_of_getElem? (i := 150) rfl)) rfl
theorem q871 : (Jvm.Cond.instanceMethod ({ cls := "IcehighwayModel", name := "snow", desc := "(I)I" } : Jvm.MethodName)) ∈ WL := WL_t (in_tables_1_4 (List.mem_of_getElem? (i := 151) rfl)) rfl
theorem q872 : (Jvm.Cond.selects "IcehighwayModel" ({ cls := "IcehighwayModel", name := "snow", desc := "(I)I" } : Jvm.MethodName) ({ cls := "IcehighwayModel", name := "snow", desc := "(I)I" } : Jvm.MethodName)) ∈ WL := WL_t (in_tables_1_4 (List.mem_of_getElem? (i := 152) rfl)) rfl
theorem q873 : (Jvm.Cond.code ({ cls := "IcehighwayModel", name := "snow", desc := "(I)I" } : Jvm.MethodName) prog_6_method_11_code (3 : Nat) (Option.some Jvm.ClassFile.FieldType.int)) ∈ WL := WL_t (in_tables_1_4 (List.mem_of_getElem? (i := 153) rfl)) rfl
theorem q874 : (Jvm.Cond.methodLink "IcehighwayLaw" (120 : Nat) ({ cls := "IcehighwayModel", name := "plough", desc := "(I)I" } : Jvm.MethodName)) ∈ WL := WL_t (in_tables_1_4 (List.mem_of_getElem? (i := 154) rfl)) rfl
theorem q875 : (Jvm.Cond.instanceMethod ({ cls := "IcehighwayModel", name := "plough", desc := "(I)I" } : Jvm.MethodName)) ∈ WL := WL_t (in_tables_1_4 (List.mem_of_getElem? (i := 155) rfl)) rfl
theorem q876 : (Jvm.Cond.selects "IcehighwayModel" ({ cls := "IcehighwayModel", name := "plough", desc := "(I)I" } : Jvm.MethodName) ({ cls := "IcehighwayModel", name := "plough", desc := "(I)I" } : Jvm.MethodName)) ∈ WL := WL_t (in_tables_1_4 (List.mem_of_getElem? (i := 156) rfl)) rfl
theorem q877 : (Jvm.Cond.code ({ cls := "IcehighwayModel", name := "plough", desc := "(I)I" } : Jvm.MethodName) prog_6_method_12_code (3 : Nat) (Option.some Jvm.ClassFile.FieldType.int)) ∈ WL := WL_t (in_tables_1_4 (List.mem_of_getElem? (i := 157) rfl)) rfl
theorem q878 : (Jvm.Cond.methodLink "IcehighwayModel" (109 : Nat) ({ cls := "IcehighwayModel", name := "isPiece", desc := "(I)Z" } : Jvm.MethodName)) ∈ WL := WL_t (in_tables_1_4 (List.mem_of_getElem? (i := 158) rfl)) rfl
theorem q879 : (Jvm.Cond.privateMethod ({ cls := "IcehighwayModel", name := "isPiece", desc := "(I)Z" } : Jvm.MethodName)) ∈ XL := XL_t (in_tables_1_4 (List.mem_of_getElem? (i := 159) rfl)) rfl
theorem q880 : (Jvm.Cond.instanceMethod ({ cls := "IcehighwayModel", name := "isPiece", desc := "(I)Z" } : Jvm.MethodName)) ∈ WL := WL_t (in_tables_1_4 (List.mem_of_getElem? (i := 160) rfl)) rfl
theorem q881 : (Jvm.Cond.code ({ cls := "IcehighwayModel", name := "isPiece", desc := "(I)Z" } : Jvm.MethodName) prog_6_method_5_code (2 : Nat) (Option.some Jvm.ClassFile.FieldType.boolean)) ∈ WL := WL_t (in_tables_1_4 (List.mem_of_getElem? (i := 161) rfl)) rfl
theorem q882 : (Jvm.Cond.methodLink "IcehighwayLaw" (124 : Nat) ({ cls := "IcehighwayModel", name := "flood", desc := "(II)I" } : Jvm.MethodName)) ∈ WL := WL_t (in_tables_1_4 (List.mem_of_getElem? (i := 162) rfl)) rfl
theorem q883 : (Jvm.Cond.instanceMethod ({ cls := "IcehighwayModel", name := "flood", desc := "(II)I" } : Jvm.MethodName)) ∈ WL := WL_t (in_tables_1_4 (List.mem_of_getElem? (i := 163) rfl)) rfl
theorem q884 : (Jvm.Cond.selects "IcehighwayModel" ({ cls := "IcehighwayModel", name := "flood", desc := "(II)I" } : Jvm.MethodName) ({ cls := "IcehighwayModel", name := "flood", desc := "(II)I" } : Jvm.MethodName)) ∈ WL := WL_t (in_tables_1_4 (List.mem_of_getElem? (i := 164) rfl)) rfl
theorem q885 : (Jvm.Cond.code ({ cls := "IcehighwayModel", name := "flood", desc := "(II)I" } : Jvm.MethodName) prog_6_method_13_code (6 : Nat) (Option.some Jvm.ClassFile.FieldType.int)) ∈ WL := WL_t (in_tables_1_4 (List.mem_of_getElem? (i := 165) rfl)) rfl
theorem q886 : (Jvm.Cond.methodLink "IcehighwayModel" (112 : Nat) ({ cls := "IcehighwayModel", name := "isWater", desc := "(I)Z" } : Jvm.MethodName)) ∈ WL := WL_t (in_tables_1_4 (List.mem_of_getElem? (i := 166) rfl)) rfl
theorem q887 : (Jvm.Cond.privateMethod ({ cls := "IcehighwayModel", name := "isWater", desc := "(I)Z" } : Jvm.MethodName)) ∈ XL := XL_t (in_tables_1_4 (List.mem_of_getElem? (i := 167) rfl)) rfl
theorem q888 : (Jvm.Cond.instanceMethod ({ cls := "IcehighwayModel", name := "isWater", desc := "(I)Z" } : Jvm.MethodName)) ∈ WL := WL_t (in_tables_1_4 (List.mem_of_getElem? (i := 168) rfl)) rfl
theorem q889 : (Jvm.Cond.code ({ cls := "IcehighwayModel", name := "isWater", desc := "(I)Z" } : Jvm.MethodName) prog_6_method_8_code (2 : Nat) (Option.some Jvm.ClassFile.FieldType.boolean)) ∈ WL := WL_t (in_tables_1_4 (List.mem_of_getElem? (i := 169) rfl)) rfl
theorem q890 : (Jvm.Cond.methodLink "IcehighwayLaw" (128 : Nat) ({ cls := "IcehighwayModel", name := "drill", desc := "(I)D" } : Jvm.MethodName)) ∈ WL := WL_t (in_tables_1_4 (List.mem_of_getElem? (i := 170) rfl)) rfl
theorem q891 : (Jvm.Cond.instanceMethod ({ cls := "IcehighwayModel", name := "drill", desc := "(I)D" } : Jvm.MethodName)) ∈ WL := WL_t (in_tables_1_4 (List.mem_of_getElem? (i := 171) rfl)) rfl
theorem q892 : (Jvm.Cond.selects "IcehighwayModel" ({ cls := "IcehighwayModel", name := "drill", desc := "(I)D" } : Jvm.MethodName) ({ cls := "IcehighwayModel", name := "drill", desc := "(I)D" } : Jvm.MethodName)) ∈ WL := WL_t (in_tables_1_4 (List.mem_of_getElem? (i := 172) rfl)) rfl
theorem q893 : (Jvm.Cond.code ({ cls := "IcehighwayModel", name := "drill", desc := "(I)D" } : Jvm.MethodName) prog_6_method_15_code (2 : Nat) (Option.some Jvm.ClassFile.FieldType.double)) ∈ WL := WL_t (in_tables_1_4 (List.mem_of_getElem? (i := 173) rfl)) rfl
theorem q894 : (Jvm.Cond.methodLink "IcehighwayModel" (117 : Nat) ({ cls := "IcehighwayModel", name := "thick", desc := "(I)D" } : Jvm.MethodName)) ∈ WL := WL_t (in_tables_1_4 (List.mem_of_getElem? (i := 174) rfl)) rfl
theorem q895 : (Jvm.Cond.privateMethod ({ cls := "IcehighwayModel", name := "thick", desc := "(I)D" } : Jvm.MethodName)) ∈ XL := XL_t (in_tables_1_4 (List.mem_of_getElem? (i := 175) rfl)) rfl
theorem q896 : (Jvm.Cond.instanceMethod ({ cls := "IcehighwayModel", name := "thick", desc := "(I)D" } : Jvm.MethodName)) ∈ WL := WL_t (in_tables_1_4 (List.mem_of_getElem? (i := 176) rfl)) rfl
theorem q897 : (Jvm.Cond.code ({ cls := "IcehighwayModel", name := "thick", desc := "(I)D" } : Jvm.MethodName) prog_6_method_14_code (2 : Nat) (Option.some Jvm.ClassFile.FieldType.double)) ∈ WL := WL_t (in_tables_1_4 (List.mem_of_getElem? (i := 177) rfl)) rfl
theorem q898 : (Jvm.Cond.constantDouble "IcehighwayModel" (115 : Nat) (4602678819172646912 : UInt64)) ∈ WL := WL_t (in_tables_1_4 (List.mem_of_getElem? (i := 178) rfl)) rfl
theorem q899 : (Jvm.Cond.methodLink "IcehighwayLaw" (131 : Nat) ({ cls := "IcehighwayModel", name := "open", desc := "(II)I" } : Jvm.MethodName)) ∈ WL := WL_t (in_tables_1_4 (List.mem_of_getElem? (i := 179) rfl)) rfl
theorem q900 : (Jvm.Cond.instanceMethod ({ cls := "IcehighwayModel", name := "open", desc := "(II)I" } : Jvm.MethodName)) ∈ WL := WL_t (in_tables_1_4 (List.mem_of_getElem? (i := 180) rfl)) rfl
theorem q901 : (Jvm.Cond.selects "IcehighwayModel" ({ cls := "IcehighwayModel", name := "open", desc := "(II)I" } : Jvm.MethodName) ({ cls := "IcehighwayModel", name := "open", desc := "(II)I" } : Jvm.MethodName)) ∈ WL := WL_t (in_tables_1_4 (List.mem_of_getElem? (i := 181) rfl)) rfl
theorem q902 : (Jvm.Cond.code ({ cls := "IcehighwayModel", name := "open", desc := "(II)I" } : Jvm.MethodName) prog_6_method_16_code (4 : Nat) (Option.some Jvm.ClassFile.FieldType.int)) ∈ WL := WL_t (in_tables_1_4 (List.mem_of_getElem? (i := 182) rfl)) rfl
theorem q903 : (Jvm.Cond.methodLink "IcehighwayLaw" (134 : Nat) ({ cls := "IcehighwayModel", name := "limit", desc := "(II)I" } : Jvm.MethodName)) ∈ WL := WL_t (in_tables_1_4 (List.mem_of_getElem? (i := 183) rfl)) rfl
theorem q904 : (Jvm.Cond.instanceMethod ({ cls := "IcehighwayModel", name := "limit", desc := "(II)I" } : Jvm.MethodName)) ∈ WL := WL_t (in_tables_1_4 (List.mem_of_getElem? (i := 184) rfl)) rfl
theorem q905 : (Jvm.Cond.selects "IcehighwayModel" ({ cls := "IcehighwayModel", name := "limit", desc := "(II)I" } : Jvm.MethodName) ({ cls := "IcehighwayModel", name := "limit", desc := "(II)I" } : Jvm.MethodName)) ∈ WL := WL_t (in_tables_1_4 (List.mem_of_getElem? (i := 185) rfl)) rfl
theorem q906 : (Jvm.Cond.code ({ cls := "IcehighwayModel", name := "limit", desc := "(II)I" } : Jvm.MethodName) prog_6_method_17_code (4 : Nat) (Option.some Jvm.ClassFile.FieldType.int)) ∈ WL := WL_t (in_tables_1_4 (List.mem_of_getElem? (i := 186) rfl)) rfl
theorem q907 : (Jvm.Cond.methodLink "IcehighwayLaw" (137 : Nat) ({ cls := "IcehighwayModel", name := "gap", desc := "(I)I" } : Jvm.MethodName)) ∈ WL := WL_t (in_tables_1_4 (List.mem_of_getElem? (i := 187) rfl)) rfl
theorem q908 : (Jvm.Cond.instanceMethod ({ cls := "IcehighwayModel", name := "gap", desc := "(I)I" } : Jvm.MethodName)) ∈ WL := WL_t (in_tables_1_4 (List.mem_of_getElem? (i := 188) rfl)) rfl
theorem q909 : (Jvm.Cond.selects "IcehighwayModel" ({ cls := "IcehighwayModel", name := "gap", desc := "(I)I" } : Jvm.MethodName) ({ cls := "IcehighwayModel", name := "gap", desc := "(I)I" } : Jvm.MethodName)) ∈ WL := WL_t (in_tables_1_4 (List.mem_of_getElem? (i := 189) rfl)) rfl
theorem q910 : (Jvm.Cond.code ({ cls := "IcehighwayModel", name := "gap", desc := "(I)I" } : Jvm.MethodName) prog_6_method_18_code (3 : Nat) (Option.some Jvm.ClassFile.FieldType.int)) ∈ WL := WL_t (in_tables_1_4 (List.mem_of_getElem? (i := 190) rfl)) rfl
theorem q911 : (Jvm.Cond.methodLink "IcehighwayLaw" (140 : Nat) ({ cls := "IcehighwayModel", name := "vehicle", desc := "(III)I" } : Jvm.MethodName)) ∈ WL := WL_t (in_tables_1_4 (List.mem_of_getElem? (i := 191) rfl)) rfl
theorem q912 : (Jvm.Cond.instanceMethod ({ cls := "IcehighwayModel", name := "vehicle", desc := "(III)I" } : Jvm.MethodName)) ∈ WL := WL_t (in_tables_1_4 (List.mem_of_getElem? (i := 192) rfl)) rfl
theorem q913 : (Jvm.Cond.selects "IcehighwayModel" ({ cls := "IcehighwayModel", name := "vehicle", desc := "(III)I" } : Jvm.MethodName) ({ cls := "IcehighwayModel", name := "vehicle", desc := "(III)I" } : Jvm.MethodName)) ∈ WL := WL_t (in_tables_1_4 (List.mem_of_getElem? (i := 193) rfl)) rfl
theorem q914 : (Jvm.Cond.code ({ cls := "IcehighwayModel", name := "vehicle", desc := "(III)I" } : Jvm.MethodName) prog_6_method_19_code (5 : Nat) (Option.some Jvm.ClassFile.FieldType.int)) ∈ WL := WL_t (in_tables_1_4 (List.mem_of_getElem? (i := 194) rfl)) rfl
theorem q915 : (Jvm.Cond.constant "IcehighwayModel" (121 : Nat) (40000 : Int32)) ∈ WL := WL_t (in_tables_1_4 (List.mem_of_getElem? (i := 195) rfl)) rfl
theorem q916 : (Jvm.Cond.constant "IcehighwayModel" (122 : Nat) (60000 : Int32)) ∈ WL := WL_t (in_tables_1_4 (List.mem_of_getElem? (i := 196) rfl)) rfl
theorem q917 : (Jvm.Cond.methodLink "IcehighwayLaw" (143 : Nat) ({ cls := "IcehighwayModel", name := "load", desc := "(III)I" } : Jvm.MethodName)) ∈ WL := WL_t (in_tables_1_4 (List.mem_of_getElem? (i := 197) rfl)) rfl
theorem q918 : (Jvm.Cond.instanceMethod ({ cls := "IcehighwayModel", name := "load", desc := "(III)I" } : Jvm.MethodName)) ∈ WL := WL_t (in_tables_1_4 (List.mem_of_getElem? (i := 198) rfl)) rfl
theorem q919 : (Jvm.Cond.selects "IcehighwayModel" ({ cls := "IcehighwayModel", name := "load", desc := "(III)I" } : Jvm.MethodName) ({ cls := "IcehighwayModel", name := "load", desc := "(III)I" } : Jvm.MethodName)) ∈ WL := WL_t (in_tables_1_4 (List.mem_of_getElem? (i := 199) rfl)) rfl
theorem q920 : (Jvm.Cond.code ({ cls := "IcehighwayModel", name := "load", desc := "(III)I" } : Jvm.MethodName) prog_6_method_21_code (6 : Nat) (Option.some Jvm.ClassFile.FieldType.int)) ∈ WL := WL_t (in_tables_1_4 (List.mem_of_getElem? (i := 200) rfl)) rfl
theorem q921 : (Jvm.Cond.methodLink "IcehighwayModel" (123 : Nat) ({ cls := "IcehighwayModel", name := "isVehicle", desc := "(I)Z" } : Jvm.MethodName)) ∈ WL := WL_t (in_tables_1_4 (List.mem_of_getElem? (i := 201) rfl)) rfl
theorem q922 : (Jvm.Cond.privateMethod ({ cls := "IcehighwayModel", name := "isVehicle", desc := "(I)Z" } : Jvm.MethodName)) ∈ XL := XL_t (in_tables_1_4 (List.mem_of_getElem? (i := 202) rfl)) rfl
theorem q923 : (Jvm.Cond.instanceMethod ({ cls := "IcehighwayModel", name := "isVehicle", desc := "(I)Z" } : Jvm.MethodName)) ∈ WL := WL_t (in_tables_1_4 (List.mem_of_getElem? (i := 203) rfl)) rfl
theorem q924 : (Jvm.Cond.code ({ cls := "IcehighwayModel", name := "isVehicle", desc := "(I)Z" } : Jvm.MethodName) prog_6_method_6_code (2 : Nat) (Option.some Jvm.ClassFile.FieldType.boolean)) ∈ WL := WL_t (in_tables_1_4 (List.mem_of_getElem? (i := 204) rfl)) rfl
theorem q925 : (Jvm.Cond.methodLink "IcehighwayModel" (126 : Nat) ({ cls := "IcehighwayModel", name := "isGoods", desc := "(I)Z" } : Jvm.MethodName)) ∈ WL := WL_t (in_tables_1_4 (List.mem_of_getElem? (i := 205) rfl)) rfl
theorem q926 : (Jvm.Cond.static ({ cls := "IcehighwayModel", name := "isGoods", desc := "(I)Z" } : Jvm.MethodName)) ∈ WL := WL_t (in_tables_1_4 (List.mem_of_getElem? (i := 206) rfl)) rfl
theorem q927 : (Jvm.Cond.code ({ cls := "IcehighwayModel", name := "isGoods", desc := "(I)Z" } : Jvm.MethodName) prog_6_method_7_code (1 : Nat) (Option.some Jvm.ClassFile.FieldType.boolean)) ∈ WL := WL_t (in_tables_1_4 (List.mem_of_getElem? (i := 207) rfl)) rfl
theorem q928 : (Jvm.Cond.methodLink "IcehighwayModel" (129 : Nat) ({ cls := "IcehighwayModel", name := "weight", desc := "(I)I" } : Jvm.MethodName)) ∈ WL := WL_t (in_tables_1_4 (List.mem_of_getElem? (i := 208) rfl)) rfl
theorem q929 : (Jvm.Cond.privateMethod ({ cls := "IcehighwayModel", name := "weight", desc := "(I)I" } : Jvm.MethodName)) ∈ XL := XL_t (in_tables_1_4 (List.mem_of_getElem? (i := 209) rfl)) rfl
theorem q930 : (Jvm.Cond.instanceMethod ({ cls := "IcehighwayModel", name := "weight", desc := "(I)I" } : Jvm.MethodName)) ∈ WL := WL_t (in_tables_1_4 (List.mem_of_getElem? (i := 210) rfl)) rfl
theorem q931 : (Jvm.Cond.code ({ cls := "IcehighwayModel", name := "weight", desc := "(I)I" } : Jvm.MethodName) prog_6_method_20_code (2 : Nat) (Option.some Jvm.ClassFile.FieldType.int)) ∈ WL := WL_t (in_tables_1_4 (List.mem_of_getElem? (i := 211) rfl)) rfl
theorem q932 : (Jvm.Cond.methodLink "IcehighwayLaw" (146 : Nat) ({ cls := "IcehighwayModel", name := "go", desc := "(I)Z" } : Jvm.MethodName)) ∈ WL := WL_t (in_tables_1_4 (List.mem_of_getElem? (i := 212) rfl)) rfl
theorem q933 : (Jvm.Cond.instanceMethod ({ cls := "IcehighwayModel", name := "go", desc := "(I)Z" } : Jvm.MethodName)) ∈ WL := WL_t (in_tables_1_4 (List.mem_of_getElem? (i := 213) rfl)) rfl
theorem q934 : (Jvm.Cond.selects "IcehighwayModel" ({ cls := "IcehighwayModel", name := "go", desc := "(I)Z" } : Jvm.MethodName) ({ cls := "IcehighwayModel", name := "go", desc := "(I)Z" } : Jvm.MethodName)) ∈ WL := WL_t (in_tables_1_4 (List.mem_of_getElem? (i := 214) rfl)) rfl
theorem q935 : (Jvm.Cond.code ({ cls := "IcehighwayModel", name := "go", desc := "(I)Z" } : Jvm.MethodName) prog_6_method_23_code (3 : Nat) (Option.some Jvm.ClassFile.FieldType.boolean)) ∈ WL := WL_t (in_tables_1_4 (List.mem_of_getElem? (i := 215) rfl)) rfl
theorem q936 : (Jvm.Cond.methodLink "IcehighwayLaw" (149 : Nat) ({ cls := "IcehighwayModel", name := "turn", desc := "(I)Z" } : Jvm.MethodName)) ∈ WL := WL_t (in_tables_1_4 (List.mem_of_getElem? (i := 216) rfl)) rfl
theorem q937 : (Jvm.Cond.instanceMethod ({ cls := "IcehighwayModel", name := "turn", desc := "(I)Z" } : Jvm.MethodName)) ∈ WL := WL_t (in_tables_1_4 (List.mem_of_getElem? (i := 217) rfl)) rfl
theorem q938 : (Jvm.Cond.selects "IcehighwayModel" ({ cls := "IcehighwayModel", name := "turn", desc := "(I)Z" } : Jvm.MethodName) ({ cls := "IcehighwayModel", name := "turn", desc := "(I)Z" } : Jvm.MethodName)) ∈ WL := WL_t (in_tables_1_4 (List.mem_of_getElem? (i := 218) rfl)) rfl
theorem q939 : (Jvm.Cond.code ({ cls := "IcehighwayModel", name := "turn", desc := "(I)Z" } : Jvm.MethodName) prog_6_method_26_code (2 : Nat) (Option.some Jvm.ClassFile.FieldType.boolean)) ∈ WL := WL_t (in_tables_1_4 (List.mem_of_getElem? (i := 219) rfl)) rfl
theorem q940 : (Jvm.Cond.methodLink "IcehighwayModel" (137 : Nat) ({ cls := "IcehighwayModel", name := "isThere", desc := "(I)Z" } : Jvm.MethodName)) ∈ WL := WL_t (in_tables_1_4 (List.mem_of_getElem? (i := 220) rfl)) rfl
theorem q941 : (Jvm.Cond.privateMethod ({ cls := "IcehighwayModel", name := "isThere", desc := "(I)Z" } : Jvm.MethodName)) ∈ XL := XL_t (in_tables_1_4 (List.mem_of_getElem? (i := 221) rfl)) rfl
theorem q942 : (Jvm.Cond.instanceMethod ({ cls := "IcehighwayModel", name := "isThere", desc := "(I)Z" } : Jvm.MethodName)) ∈ WL := WL_t (in_tables_1_4 (List.mem_of_getElem? (i := 222) rfl)) rfl
theorem q943 : (Jvm.Cond.code ({ cls := "IcehighwayModel", name := "isThere", desc := "(I)Z" } : Jvm.MethodName) prog_6_method_24_code (2 : Nat) (Option.some Jvm.ClassFile.FieldType.boolean)) ∈ WL := WL_t (in_tables_1_4 (List.mem_of_getElem? (i := 223) rfl)) rfl
theorem q944 : (Jvm.Cond.methodLink "IcehighwayModel" (140 : Nat) ({ cls := "IcehighwayModel", name := "arrives", desc := "(I)V" } : Jvm.MethodName)) ∈ WL := WL_t (in_tables_1_4 (List.mem_of_getElem? (i := 224) rfl)) rfl
theorem q945 : (Jvm.Cond.privateMethod ({ cls := "IcehighwayModel", name := "arrives", desc := "(I)V" } : Jvm.MethodName)) ∈ XL := XL_t (in_tables_1_4 (List.mem_of_getElem? (i := 225) rfl)) rfl
theorem q946 : (Jvm.Cond.instanceMethod ({ cls := "IcehighwayModel", name := "arrives", desc := "(I)V" } : Jvm.MethodName)) ∈ WL := WL_t (in_tables_1_4 (List.mem_of_getElem? (i := 226) rfl)) rfl
theorem q947 : (Jvm.Cond.code ({ cls := "IcehighwayModel", name := "arrives", desc := "(I)V" } : Jvm.MethodName) prog_6_method_25_code (2 : Nat) (Option.none : Option Jvm.ClassFile.FieldType)) ∈ WL := WL_t (in_tables_1_4 (List.mem_of_getElem? (i := 227) rfl)) rfl
theorem q948 : (Jvm.Cond.methodLink "IcehighwayModel" (133 : Nat) ({ cls := "IcehighwayModel", name := "unloads", desc := "(IZ)V" } : Jvm.MethodName)) ∈ WL := WL_t (in_tables_1_4 (List.mem_of_getElem? (i := 228) rfl)) rfl
theorem q949 : (Jvm.Cond.privateMethod ({ cls := "IcehighwayModel", name := "unloads", desc := "(IZ)V" } : Jvm.MethodName)) ∈ XL := XL_t (in_tables_1_4 (List.mem_of_getElem? (i := 229) rfl)) rfl
theorem q950 : (Jvm.Cond.instanceMethod ({ cls := "IcehighwayModel", name := "unloads", desc := "(IZ)V" } : Jvm.MethodName)) ∈ WL := WL_t (in_tables_1_4 (List.mem_of_getElem? (i := 230) rfl)) rfl
theorem q951 : (Jvm.Cond.code ({ cls := "IcehighwayModel", name := "unloads", desc := "(IZ)V" } : Jvm.MethodName) prog_6_method_22_code (3 : Nat) (Option.none : Option Jvm.ClassFile.FieldType)) ∈ WL := WL_t (in_tables_1_4 (List.mem_of_getElem? (i := 231) rfl)) rfl
theorem q952 : (Jvm.Cond.methodLink "IcehighwayLaw" (152 : Nat) ({ cls := "IcehighwayModel", name := "order", desc := "(II)I" } : Jvm.MethodName)) ∈ WL := WL_t (in_tables_1_4 (List.mem_of_getElem? (i := 232) rfl)) rfl
theorem q953 : (Jvm.Cond.instanceMethod ({ cls := "IcehighwayModel", name := "order", desc := "(II)I" } : Jvm.MethodName)) ∈ WL := WL_t (in_tables_1_4 (List.mem_of_getElem? (i := 233) rfl)) rfl
theorem q954 : (Jvm.Cond.selects "IcehighwayModel" ({ cls := "IcehighwayModel", name := "order", desc := "(II)I" } : Jvm.MethodName) ({ cls := "IcehighwayModel", name := "order", desc := "(II)I" } : Jvm.MethodName)) ∈ WL := WL_t (in_tables_1_4 (List.mem_of_getElem? (i := 234) rfl)) rfl
theorem q955 : (Jvm.Cond.code ({ cls := "IcehighwayModel", name := "order", desc := "(II)I" } : Jvm.MethodName) prog_6_method_27_code (4 : Nat) (Option.some Jvm.ClassFile.FieldType.int)) ∈ WL := WL_t (in_tables_1_4 (List.mem_of_getElem? (i := 235) rfl)) rfl
theorem q956 : (Jvm.Cond.constant "IcehighwayModel" (144 : Nat) (1000000 : Int32)) ∈ WL := WL_t (in_tables_1_4 (List.mem_of_getElem? (i := 236) rfl)) rfl
theorem q957 : (Jvm.Cond.constant "IcehighwayModel" (145 : Nat) (10000000 : Int32)) ∈ WL := WL_t (in_tables_1_4 (List.mem_of_getElem? (i := 237) rfl)) rfl
theorem q958 : (Jvm.Cond.methodLink "IcehighwayLaw" (155 : Nat) ({ cls := "IcehighwayModel", name := "pass", desc := "(I)I" } : Jvm.MethodName)) ∈ WL := WL_t (in_tables_1_4 (List.mem_of_getElem? (i := 238) rfl)) rfl
theorem q959 : (Jvm.Cond.instanceMethod ({ cls := "IcehighwayModel", name := "pass", desc := "(I)I" } : Jvm.MethodName)) ∈ WL := WL_t (in_tables_1_4 (List.mem_of_getElem? (i := 239) rfl)) rfl
theorem q960 : (Jvm.Cond.selects "IcehighwayModel" ({ cls := "IcehighwayModel", name := "pass", desc := "(I)I" } : Jvm.MethodName) ({ cls := "IcehighwayModel", name := "pass", desc := "(I)I" } : Jvm.MethodName)) ∈ WL := WL_t (in_tables_1_5 (List.mem_of_getElem? (i := 0) rfl)) rfl
theorem q961 : (Jvm.Cond.code ({ cls := "IcehighwayModel", name := "pass", desc := "(I)I" } : Jvm.MethodName) prog_6_method_41_code (3 : Nat) (Option.some Jvm.ClassFile.FieldType.int)) ∈ WL := WL_t (in_tables_1_5 (List.mem_of_getElem? (i := 1) rfl)) rfl
theorem q962 : (Jvm.Cond.constant "IcehighwayModel" (196 : Nat) (200000 : Int32)) ∈ WL := WL_t (in_tables_1_5 (List.mem_of_getElem? (i := 2) rfl)) rfl
theorem q963 : (Jvm.Cond.methodLink "IcehighwayModel" (197 : Nat) ({ cls := "IcehighwayModel", name := "passes", desc := "()V" } : Jvm.MethodName)) ∈ WL := WL_t (in_tables_1_5 (List.mem_of_getElem? (i := 3) rfl)) rfl
theorem q964 : (Jvm.Cond.privateMethod ({ cls := "IcehighwayModel", name := "passes", desc := "()V" } : Jvm.MethodName)) ∈ XL := XL_t (in_tables_1_5 (List.mem_of_getElem? (i := 4) rfl)) rfl
theorem q965 : (Jvm.Cond.instanceMethod ({ cls := "IcehighwayModel", name := "passes", desc := "()V" } : Jvm.MethodName)) ∈ WL := WL_t (in_tables_1_5 (List.mem_of_getElem? (i := 5) rfl)) rfl
theorem q966 : (Jvm.Cond.code ({ cls := "IcehighwayModel", name := "passes", desc := "()V" } : Jvm.MethodName) prog_6_method_40_code (2 : Nat) (Option.none : Option Jvm.ClassFile.FieldType)) ∈ WL := WL_t (in_tables_1_5 (List.mem_of_getElem? (i := 6) rfl)) rfl
theorem q967 : (Jvm.Cond.methodLink "IcehighwayModel" (184 : Nat) ({ cls := "IcehighwayModel", name := "ends", desc := "()V" } : Jvm.MethodName)) ∈ WL := WL_t (in_tables_1_5 (List.mem_of_getElem? (i := 7) rfl)) rfl
theorem q968 : (Jvm.Cond.privateMethod ({ cls := "IcehighwayModel", name := "ends", desc := "()V" } : Jvm.MethodName)) ∈ XL := XL_t (in_tables_1_5 (List.mem_of_getElem? (i := 8) rfl)) rfl
theorem q969 : (Jvm.Cond.instanceMethod ({ cls := "IcehighwayModel", name := "ends", desc := "()V" } : Jvm.MethodName)) ∈ WL := WL_t (in_tables_1_5 (List.mem_of_getElem? (i := 9) rfl)) rfl
theorem q970 : (Jvm.Cond.code ({ cls := "IcehighwayModel", name := "ends", desc := "()V" } : Jvm.MethodName) prog_6_method_30_code (2 : Nat) (Option.none : Option Jvm.ClassFile.FieldType)) ∈ WL := WL_t (in_tables_1_5 (List.mem_of_getElem? (i := 10) rfl)) rfl
theorem q971 : (Jvm.Cond.methodLink "IcehighwayModel" (146 : Nat) ({ cls := "IcehighwayModel", name := "freezes", desc := "(I)V" } : Jvm.MethodName)) ∈ WL := WL_t (in_tables_1_5 (List.mem_of_getElem? (i := 11) rfl)) rfl
theorem q972 : (Jvm.Cond.privateMethod ({ cls := "IcehighwayModel", name := "freezes", desc := "(I)V" } : Jvm.MethodName)) ∈ XL := XL_t (in_tables_1_5 (List.mem_of_getElem? (i := 12) rfl)) rfl
theorem q973 : (Jvm.Cond.instanceMethod ({ cls := "IcehighwayModel", name := "freezes", desc := "(I)V" } : Jvm.MethodName)) ∈ WL := WL_t (in_tables_1_5 (List.mem_of_getElem? (i := 13) rfl)) rfl
theorem q974 : (Jvm.Cond.code ({ cls := "IcehighwayModel", name := "freezes", desc := "(I)V" } : Jvm.MethodName) prog_6_method_28_code (4 : Nat) (Option.none : Option Jvm.ClassFile.FieldType)) ∈ WL := WL_t (in_tables_1_5 (List.mem_of_getElem? (i := 14) rfl)) rfl
theorem q975 : (Jvm.Cond.methodLink "IcehighwayModel" (149 : Nat) ({ cls := "IcehighwayModel", name := "thaws", desc := "(I)V" } : Jvm.MethodName)) ∈ WL := WL_t (in_tables_1_5 (List.mem_of_getElem? (i := 15) rfl)) rfl
theorem q976 : (Jvm.Cond.privateMethod ({ cls := "IcehighwayModel", name := "thaws", desc := "(I)V" } : Jvm.MethodName)) ∈ XL := XL_t (in_tables_1_5 (List.mem_of_getElem? (i := 16) rfl)) rfl
theorem q977 : (Jvm.Cond.instanceMethod ({ cls := "IcehighwayModel", name := "thaws", desc := "(I)V" } : Jvm.MethodName)) ∈ WL := WL_t (in_tables_1_5 (List.mem_of_getElem? (i := 17) rfl)) rfl
theorem q978 : (Jvm.Cond.code ({ cls := "IcehighwayModel", name := "thaws", desc := "(I)V" } : Jvm.MethodName) prog_6_method_29_code (8 : Nat) (Option.none : Option Jvm.ClassFile.FieldType)) ∈ WL := WL_t (in_tables_1_5 (List.mem_of_getElem? (i := 18) rfl)) rfl
theorem q979 : (Jvm.Cond.methodLink "IcehighwayModel" (187 : Nat) ({ cls := "IcehighwayModel", name := "leaves", desc := "(I)V" } : Jvm.MethodName)) ∈ WL := WL_t (in_tables_1_5 (List.mem_of_getElem? (i := 19) rfl)) rfl
theorem q980 : (Jvm.Cond.privateMethod ({ cls := "IcehighwayModel", name := "leaves", desc := "(I)V" } : Jvm.MethodName)) ∈ XL := XL_t (in_tables_1_5 (List.mem_of_getElem? (i := 20) rfl)) rfl
theorem q981 : (Jvm.Cond.instanceMethod ({ cls := "IcehighwayModel", name := "leaves", desc := "(I)V" } : Jvm.MethodName)) ∈ WL := WL_t (in_tables_1_5 (List.mem_of_getElem? (i := 21) rfl)) rfl
theorem q982 : (Jvm.Cond.code ({ cls := "IcehighwayModel", name := "leaves", desc := "(I)V" } : Jvm.MethodName) prog_6_method_38_code (4 : Nat) (Option.none : Option Jvm.ClassFile.FieldType)) ∈ WL := WL_t (in_tables_1_5 (List.mem_of_getElem? (i := 22) rfl)) rfl
theorem q983 : (Jvm.Cond.methodLink "IcehighwayModel" (190 : Nat) ({ cls := "IcehighwayModel", name := "against", desc := "(I)I" } : Jvm.MethodName)) ∈ WL := WL_t (in_tables_1_5 (List.mem_of_getElem? (i := 23) rfl)) rfl
theorem q984 : (Jvm.Cond.privateMethod ({ cls := "IcehighwayModel", name := "against", desc := "(I)I" } : Jvm.MethodName)) ∈ XL := XL_t (in_tables_1_5 (List.mem_of_getElem? (i := 24) rfl)) rfl
theorem q985 : (Jvm.Cond.instanceMethod ({ cls := "IcehighwayModel", name := "against", desc := "(I)I" } : Jvm.MethodName)) ∈ WL := WL_t (in_tables_1_5 (List.mem_of_getElem? (i := 25) rfl)) rfl
theorem q986 : (Jvm.Cond.code ({ cls := "IcehighwayModel", name := "against", desc := "(I)I" } : Jvm.MethodName) prog_6_method_37_code (3 : Nat) (Option.some Jvm.ClassFile.FieldType.int)) ∈ WL := WL_t (in_tables_1_5 (List.mem_of_getElem? (i := 26) rfl)) rfl
theorem q987 : (Jvm.Cond.methodLink "IcehighwayModel" (164 : Nat) ({ cls := "IcehighwayModel", name := "nextPiece", desc := "(I)I" } : Jvm.MethodName)) ∈ WL := WL_t (in_tables_1_5 (List.mem_of_getElem? (i := 27) rfl)) rfl
theorem q988 : (Jvm.Cond.privateMethod ({ cls := "IcehighwayModel", name := "nextPiece", desc := "(I)I" } : Jvm.MethodName)) ∈ XL := XL_t (in_tables_1_5 (List.mem_of_getElem? (i := 28) rfl)) rfl
theorem q989 : (Jvm.Cond.instanceMethod ({ cls := "IcehighwayModel", name := "nextPiece", desc := "(I)I" } : Jvm.MethodName)) ∈ WL := WL_t (in_tables_1_5 (List.mem_of_getElem? (i := 29) rfl)) rfl
theorem q990 : (Jvm.Cond.code ({ cls := "IcehighwayModel", name := "nextPiece", desc := "(I)I" } : Jvm.MethodName) prog_6_method_36_code (2 : Nat) (Option.some Jvm.ClassFile.FieldType.int)) ∈ WL := WL_t (in_tables_1_5 (List.mem_of_getElem? (i := 30) rfl)) rfl
theorem q991 : (Jvm.Cond.methodLink "IcehighwayModel" (170 : Nat) ({ cls := "IcehighwayModel", name := "isMet", desc := "(II)Z" } : Jvm.MethodName)) ∈ WL := WL_t (in_tables_1_5 (List.mem_of_getElem? (i := 31) rfl)) rfl
theorem q992 : (Jvm.Cond.privateMethod ({ cls := "IcehighwayModel", name := "isMet", desc := "(II)Z" } : Jvm.MethodName)) ∈ XL := XL_t (in_tables_1_5 (List.mem_of_getElem? (i := 32) rfl)) rfl
theorem q993 : (Jvm.Cond.instanceMethod ({ cls := "IcehighwayModel", name := "isMet", desc := "(II)Z" } : Jvm.MethodName)) ∈ WL := WL_t (in_tables_1_5 (List.mem_of_getElem? (i := 33) rfl)) rfl
theorem q994 : (Jvm.Cond.code ({ cls := "IcehighwayModel", name := "isMet", desc := "(II)Z" } : Jvm.MethodName) prog_6_method_35_code (5 : Nat) (Option.some Jvm.ClassFile.FieldType.boolean)) ∈ WL := WL_t (in_tables_1_5 (List.mem_of_getElem? (i := 34) rfl)) rfl
theorem q995 : (Jvm.Cond.methodLink "IcehighwayModel" (174 : Nat) ({ cls := "IcehighwayModel", name := "weights", desc := "(I)I" } : Jvm.MethodName)) ∈ WL := WL_t (in_tables_1_5 (List.mem_of_getElem? (i := 35) rfl)) rfl
theorem q996 : (Jvm.Cond.privateMethod ({ cls := "IcehighwayModel", name := "weights", desc := "(I)I" } : Jvm.MethodName)) ∈ XL := XL_t (in_tables_1_5 (List.mem_of_getElem? (i := 36) rfl)) rfl
theorem q997 : (Jvm.Cond.instanceMethod ({ cls := "IcehighwayModel", name := "weights", desc := "(I)I" } : Jvm.MethodName)) ∈ WL := WL_t (in_tables_1_5 (List.mem_of_getElem? (i := 37) rfl)) rfl
theorem q998 : (Jvm.Cond.code ({ cls := "IcehighwayModel", name := "weights", desc := "(I)I" } : Jvm.MethodName) prog_6_method_34_code (4 : Nat) (Option.some Jvm.ClassFile.FieldType.int)) ∈ WL := WL_t (in_tables_1_5 (List.mem_of_getElem? (i := 38) rfl)) rfl
theorem q999 : (Jvm.Cond.methodLink "IcehighwayModel" (177 : Nat) ({ cls := "IcehighwayModel", name := "bearsBy", desc := "(ID)I" } : Jvm.MethodName)) ∈ WL := WL_t (in_tables_1_5 (List.mem_of_getElem? (i := 39) rfl)) rfl
theorem q1000 : (Jvm.Cond.privateMethod ({ cls := "IcehighwayModel", name := "bearsBy", desc := "(ID)I" } : Jvm.MethodName)) ∈ XL := XL_t (in_tables_1_5 (List.mem_of_getElem? (i := 40) rfl)) rfl
theorem q1001 : (Jvm.Cond.instanceMethod ({ cls := "IcehighwayModel", name := "bearsBy", desc := "(ID)I" } : Jvm.MethodName)) ∈ WL := WL_t (in_tables_1_5 (List.mem_of_getElem? (i := 41) rfl)) rfl
theorem q1002 : (Jvm.Cond.code ({ cls := "IcehighwayModel", name := "bearsBy", desc := "(ID)I" } : Jvm.MethodName) prog_6_method_31_code (4 : Nat) (Option.some Jvm.ClassFile.FieldType.int)) ∈ WL := WL_t (in_tables_1_5 (List.mem_of_getElem? (i := 42) rfl)) rfl
theorem q1003 : (Jvm.Cond.constantDouble "IcehighwayModel" (152 : Nat) (4585925428558828667 : UInt64)) ∈ WL := WL_t (in_tables_1_5 (List.mem_of_getElem? (i := 43) rfl)) rfl
theorem q1004 : (Jvm.Cond.constantDouble "IcehighwayModel" (154 : Nat) (4604930618986332160 : UInt64)) ∈ WL := WL_t (in_tables_1_5 (List.mem_of_getElem? (i := 44) rfl)) rfl
theorem q1005 : (Jvm.Cond.methodLink "IcehighwayModel" (193 : Nat) ({ cls := "IcehighwayModel", name := "comes", desc := "(I)V" } : Jvm.MethodName)) ∈ WL := WL_t (in_tables_1_5 (List.mem_of_getElem? (i := 45) rfl)) rfl
theorem q1006 : (Jvm.Cond.privateMethod ({ cls := "IcehighwayModel", name := "comes", desc := "(I)V" } : Jvm.MethodName)) ∈ XL := XL_t (in_tables_1_5 (List.mem_of_getElem? (i := 46) rfl)) rfl
theorem q1007 : (Jvm.Cond.instanceMethod ({ cls := "IcehighwayModel", name := "comes", desc := "(I)V" } : Jvm.MethodName)) ∈ WL := WL_t (in_tables_1_5 (List.mem_of_getElem? (i := 47) rfl)) rfl
theorem q1008 : (Jvm.Cond.code ({ cls := "IcehighwayModel", name := "comes", desc := "(I)V" } : Jvm.MethodName) prog_6_method_39_code (4 : Nat) (Option.none : Option Jvm.ClassFile.FieldType)) ∈ WL := WL_t (in_tables_1_5 (List.mem_of_getElem? (i := 48) rfl)) rfl
theorem q1009 : (Jvm.Cond.methodLink "IcehighwayModel" (181 : Nat) ({ cls := "IcehighwayModel", name := "minutesOn", desc := "(II)I" } : Jvm.MethodName)) ∈ WL := WL_t (in_tables_1_5 (List.mem_of_getElem? (i := 49) rfl)) rfl
theorem q1010 : (Jvm.Cond.privateMethod ({ cls := "IcehighwayModel", name := "minutesOn", desc := "(II)I" } : Jvm.MethodName)) ∈ XL := XL_t (in_tables_1_5 (List.mem_of_getElem? (i := 50) rfl)) rfl
theorem q1011 : (Jvm.Cond.instanceMethod ({ cls := "IcehighwayModel", name := "minutesOn", desc := "(II)I" } : Jvm.MethodName)) ∈ WL := WL_t (in_tables_1_5 (List.mem_of_getElem? (i := 51) rfl)) rfl
theorem q1012 : (Jvm.Cond.code ({ cls := "IcehighwayModel", name := "minutesOn", desc := "(II)I" } : Jvm.MethodName) prog_6_method_33_code (4 : Nat) (Option.some Jvm.ClassFile.FieldType.int)) ∈ WL := WL_t (in_tables_1_5 (List.mem_of_getElem? (i := 52) rfl)) rfl
theorem q1013 : (Jvm.Cond.methodLink "IcehighwayModel" (160 : Nat) ({ cls := "IcehighwayModel", name := "speedOn", desc := "(II)I" } : Jvm.MethodName)) ∈ WL := WL_t (in_tables_1_5 (List.mem_of_getElem? (i := 53) rfl)) rfl
theorem q1014 : (Jvm.Cond.privateMethod ({ cls := "IcehighwayModel", name := "speedOn", desc := "(II)I" } : Jvm.MethodName)) ∈ XL := XL_t (in_tables_1_5 (List.mem_of_getElem? (i := 54) rfl)) rfl
theorem q1015 : (Jvm.Cond.instanceMethod ({ cls := "IcehighwayModel", name := "speedOn", desc := "(II)I" } : Jvm.MethodName)) ∈ WL := WL_t (in_tables_1_5 (List.mem_of_getElem? (i := 55) rfl)) rfl
theorem q1016 : (Jvm.Cond.code ({ cls := "IcehighwayModel", name := "speedOn", desc := "(II)I" } : Jvm.MethodName) prog_6_method_32_code (10 : Nat) (Option.some Jvm.ClassFile.FieldType.int)) ∈ WL := WL_t (in_tables_1_5 (List.mem_of_getElem? (i := 56) rfl)) rfl
theorem q1017 : (Jvm.Cond.constantDouble "IcehighwayModel" (156 : Nat) (4635217326480398746 : UInt64)) ∈ WL := WL_t (in_tables_1_5 (List.mem_of_getElem? (i := 57) rfl)) rfl
theorem q1018 : (Jvm.Cond.constantDouble "IcehighwayModel" (158 : Nat) (4637975781252163174 : UInt64)) ∈ WL := WL_t (in_tables_1_5 (List.mem_of_getElem? (i := 58) rfl)) rfl
theorem q1019 : (Jvm.Cond.methodLink "IcehighwayLaw" (159 : Nat) ({ cls := "IcehighwayModel", name := "minute", desc := "()I" } : Jvm.MethodName)) ∈ WL := WL_t (in_tables_1_5 (List.mem_of_getElem? (i := 59) rfl)) rfl
theorem q1020 : (Jvm.Cond.instanceMethod ({ cls := "IcehighwayModel", name := "minute", desc := "()I" } : Jvm.MethodName)) ∈ WL := WL_t (in_tables_1_5 (List.mem_of_getElem? (i := 60) rfl)) rfl
theorem q1021 : (Jvm.Cond.selects "IcehighwayModel" ({ cls := "IcehighwayModel", name := "minute", desc := "()I" } : Jvm.MethodName) ({ cls := "IcehighwayModel", name := "minute", desc := "()I" } : Jvm.MethodName)) ∈ WL := WL_t (in_tables_1_5 (List.mem_of_getElem? (i := 61) rfl)) rfl
theorem q1022 : (Jvm.Cond.code ({ cls := "IcehighwayModel", name := "minute", desc := "()I" } : Jvm.MethodName) prog_6_method_42_code (1 : Nat) (Option.some Jvm.ClassFile.FieldType.int)) ∈ WL := WL_t (in_tables_1_5 (List.mem_of_getElem? (i := 62) rfl)) rfl
theorem q1023 : (Jvm.Cond.methodLink "IcehighwayLaw" (162 : Nat) ({ cls := "IcehighwayModel", name := "told", desc := "(II)I" } : Jvm.MethodName)) ∈ WL := WL_t (in_tables_1_5 (List.mem_of_getElem? (i := 63) rfl)) rfl
theorem q1024 : (Jvm.Cond.instanceMethod ({ cls := "IcehighwayModel", name := "told", desc := "(II)I" } : Jvm.MethodName)) ∈ WL := WL_t (in_tables_1_5 (List.mem_of_getElem? (i := 64) rfl)) rfl
theorem q1025 : (Jvm.Cond.selects "IcehighwayModel" ({ cls := "IcehighwayModel", name := "told", desc := "(II)I" } : Jvm.MethodName) ({ cls := "IcehighwayModel", name := "told", desc := "(II)I" } : Jvm.MethodName)) ∈ WL := WL_t (in_tables_1_5 (List.mem_of_getElem? (i := 65) rfl)) rfl
theorem q1026 : (Jvm.Cond.code ({ cls := "IcehighwayModel", name := "told", desc := "(II)I" } : Jvm.MethodName) prog_6_method_43_code (3 : Nat) (Option.some Jvm.ClassFile.FieldType.int)) ∈ WL := WL_t (in_tables_1_5 (List.mem_of_getElem? (i := 66) rfl)) rfl
theorem q1027 : (Jvm.Cond.methodLink "IcehighwayModel" (200 : Nat) ({ cls := "IcehighwayModel", name := "many", desc := "(I)I" } : Jvm.MethodName)) ∈ WL := WL_t (in_tables_1_5 (List.mem_of_getElem? (i := 67) rfl)) rfl
theorem q1028 : (Jvm.Cond.privateMethod ({ cls := "IcehighwayModel", name := "many", desc := "(I)I" } : Jvm.MethodName)) ∈ XL := XL_t (in_tables_1_5 (List.mem_of_getElem? (i := 68) rfl)) rfl
theorem q1029 : (Jvm.Cond.instanceMethod ({ cls := "IcehighwayModel", name := "many", desc := "(I)I" } : Jvm.MethodName)) ∈ WL := WL_t (in_tables_1_5 (List.mem_of_getElem? (i := 69) rfl)) rfl
theorem q1030 : (Jvm.Cond.code ({ cls := "IcehighwayModel", name := "many", desc := "(I)I" } : Jvm.MethodName) prog_6_method_44_code (4 : Nat) (Option.some Jvm.ClassFile.FieldType.int)) ∈ WL := WL_t (in_tables_1_5 (List.mem_of_getElem? (i := 70) rfl)) rfl
theorem q1031 : (Jvm.Cond.methodLink "IcehighwayLaw" (166 : Nat) ({ cls := "IcehighwayModel", name := "thickness", desc := "(IZ)D" } : Jvm.MethodName)) ∈ WL := WL_t (in_tables_1_5 (List.mem_of_getElem? (i := 71) rfl)) rfl
theorem q1032 : (Jvm.Cond.instanceMethod ({ cls := "IcehighwayModel", name := "thickness", desc := "(IZ)D" } : Jvm.MethodName)) ∈ WL := WL_t (in_tables_1_5 (List.mem_of_getElem? (i := 72) rfl)) rfl
theorem q1033 : (Jvm.Cond.selects "IcehighwayModel" ({ cls := "IcehighwayModel", name := "thickness", desc := "(IZ)D" } : Jvm.MethodName) ({ cls := "IcehighwayModel", name := "thickness", desc := "(IZ)D" } : Jvm.MethodName)) ∈ WL := WL_t (in_tables_1_5 (List.mem_of_getElem? (i := 73) rfl)) rfl
theorem q1034 : (Jvm.Cond.code ({ cls := "IcehighwayModel", name := "thickness", desc := "(IZ)D" } : Jvm.MethodName) prog_6_method_45_code (3 : Nat) (Option.some Jvm.ClassFile.FieldType.double)) ∈ WL := WL_t (in_tables_1_5 (List.mem_of_getElem? (i := 74) rfl)) rfl
theorem q1035 : (Jvm.Cond.methodLink "IcehighwayLaw" (170 : Nat) ({ cls := "IcehighwayModel", name := "bears", desc := "(IZ)I" } : Jvm.MethodName)) ∈ WL := WL_t (in_tables_1_5 (List.mem_of_getElem? (i := 75) rfl)) rfl
theorem q1036 : (Jvm.Cond.instanceMethod ({ cls := "IcehighwayModel", name := "bears", desc := "(IZ)I" } : Jvm.MethodName)) ∈ WL := WL_t (in_tables_1_5 (List.mem_of_getElem? (i := 76) rfl)) rfl
theorem q1037 : (Jvm.Cond.selects "IcehighwayModel" ({ cls := "IcehighwayModel", name := "bears", desc := "(IZ)I" } : Jvm.MethodName) ({ cls := "IcehighwayModel", name := "bears", desc := "(IZ)I" } : Jvm.MethodName)) ∈ WL := WL_t (in_tables_1_5 (List.mem_of_getElem? (i := 77) rfl)) rfl
theorem q1038 : (Jvm.Cond.code ({ cls := "IcehighwayModel", name := "bears", desc := "(IZ)I" } : Jvm.MethodName) prog_6_method_46_code (3 : Nat) (Option.some Jvm.ClassFile.FieldType.int)) ∈ WL := WL_t (in_tables_1_5 (List.mem_of_getElem? (i := 78) rfl)) rfl
theorem q1039 : (Jvm.Cond.methodLink "IcehighwayLaw" (173 : Nat) ({ cls := "IcehighwayModel", name := "ofVehicle", desc := "(II)I" } : Jvm.MethodName)) ∈ WL := WL_t (in_tables_1_5 (List.mem_of_getElem? (i := 79) rfl)) rfl
theorem q1040 : (Jvm.Cond.instanceMethod ({ cls := "IcehighwayModel", name := "ofVehicle", desc := "(II)I" } : Jvm.MethodName)) ∈ WL := WL_t (in_tables_1_5 (List.mem_of_getElem? (i := 80) rfl)) rfl
theorem q1041 : (Jvm.Cond.selects "IcehighwayModel" ({ cls := "IcehighwayModel", name := "ofVehicle", desc := "(II)I" } : Jvm.MethodName) ({ cls := "IcehighwayModel", name := "ofVehicle", desc := "(II)I" } : Jvm.MethodName)) ∈ WL := WL_t (in_tables_1_5 (List.mem_of_getElem? (i := 81) rfl)) rfl
theorem q1042 : (Jvm.Cond.code ({ cls := "IcehighwayModel", name := "ofVehicle", desc := "(II)I" } : Jvm.MethodName) prog_6_method_47_code (3 : Nat) (Option.some Jvm.ClassFile.FieldType.int)) ∈ WL := WL_t (in_tables_1_5 (List.mem_of_getElem? (i := 82) rfl)) rfl
theorem q1043 : (Jvm.Cond.methodLink "IcehighwayLaw" (176 : Nat) ({ cls := "IcehighwayModel", name := "why", desc := "(I)I" } : Jvm.MethodName)) ∈ WL := WL_t (in_tables_1_5 (List.mem_of_getElem? (i := 83) rfl)) rfl
theorem q1044 : (Jvm.Cond.instanceMethod ({ cls := "IcehighwayModel", name := "why", desc := "(I)I" } : Jvm.MethodName)) ∈ WL := WL_t (in_tables_1_5 (List.mem_of_getElem? (i := 84) rfl)) rfl
theorem q1045 : (Jvm.Cond.selects "IcehighwayModel" ({ cls := "IcehighwayModel", name := "why", desc := "(I)I" } : Jvm.MethodName) ({ cls := "IcehighwayModel", name := "why", desc := "(I)I" } : Jvm.MethodName)) ∈ WL := WL_t (in_tables_1_5 (List.mem_of_getElem? (i := 85) rfl)) rfl
theorem q1046 : (Jvm.Cond.code ({ cls := "IcehighwayModel", name := "why", desc := "(I)I" } : Jvm.MethodName) prog_6_method_48_code (2 : Nat) (Option.some Jvm.ClassFile.FieldType.int)) ∈ WL := WL_t (in_tables_1_5 (List.mem_of_getElem? (i := 86) rfl)) rfl
theorem q1047 : (Jvm.Cond.methodLink "IcehighwayLaw" (179 : Nat) ({ cls := "IcehighwayModel", name := "speed", desc := "(II)I" } : Jvm.MethodName)) ∈ WL := WL_t (in_tables_1_5 (List.mem_of_getElem? (i := 87) rfl)) rfl
theorem q1048 : (Jvm.Cond.instanceMethod ({ cls := "IcehighwayModel", name := "speed", desc := "(II)I" } : Jvm.MethodName)) ∈ WL := WL_t (in_tables_1_5 (List.mem_of_getElem? (i := 88) rfl)) rfl
theorem q1049 : (Jvm.Cond.selects "IcehighwayModel" ({ cls := "IcehighwayModel", name := "speed", desc := "(II)I" } : Jvm.MethodName) ({ cls := "IcehighwayModel", name := "speed", desc := "(II)I" } : Jvm.MethodName)) ∈ WL := WL_t (in_tables_1_5 (List.mem_of_getElem? (i := 89) rfl)) rfl
theorem q1050 : (Jvm.Cond.code ({ cls := "IcehighwayModel", name := "speed", desc := "(II)I" } : Jvm.MethodName) prog_6_method_49_code (3 : Nat) (Option.some Jvm.ClassFile.FieldType.int)) ∈ WL := WL_t (in_tables_1_5 (List.mem_of_getElem? (i := 90) rfl)) rfl
theorem q1051 : (Jvm.Cond.methodLink "IcehighwayLaw" (182 : Nat) ({ cls := "IcehighwayModel", name := "minutes", desc := "(II)I" } : Jvm.MethodName)) ∈ WL := WL_t (in_tables_1_5 (List.mem_of_getElem? (i := 91) rfl)) rfl
theorem q1052 : (Jvm.Cond.instanceMethod ({ cls := "IcehighwayModel", name := "minutes", desc := "(II)I" } : Jvm.MethodName)) ∈ WL := WL_t (in_tables_1_5 (List.mem_of_getElem? (i := 92) rfl)) rfl
theorem q1053 : (Jvm.Cond.selects "IcehighwayModel" ({ cls := "IcehighwayModel", name := "minutes", desc := "(II)I" } : Jvm.MethodName) ({ cls := "IcehighwayModel", name := "minutes", desc := "(II)I" } : Jvm.MethodName)) ∈ WL := WL_t (in_tables_1_5 (List.mem_of_getElem? (i := 93) rfl)) rfl
theorem q1054 : (Jvm.Cond.code ({ cls := "IcehighwayModel", name := "minutes", desc := "(II)I" } : Jvm.MethodName) prog_6_method_50_code (3 : Nat) (Option.some Jvm.ClassFile.FieldType.int)) ∈ WL := WL_t (in_tables_1_5 (List.mem_of_getElem? (i := 94) rfl)) rfl
theorem q1055 : (Jvm.Cond.methodLink "IcehighwayLaw" (185 : Nat) ({ cls := "IcehighwayModel", name := "minutesAnew", desc := "(II)I" } : Jvm.MethodName)) ∈ WL := WL_t (in_tables_1_5 (List.mem_of_getElem? (i := 95) rfl)) rfl
theorem q1056 : (Jvm.Cond.instanceMethod ({ cls := "IcehighwayModel", name := "minutesAnew", desc := "(II)I" } : Jvm.MethodName)) ∈ WL := WL_t (in_tables_1_5 (List.mem_of_getElem? (i := 96) rfl)) rfl
theorem q1057 : (Jvm.Cond.selects "IcehighwayModel" ({ cls := "IcehighwayModel", name := "minutesAnew", desc := "(II)I" } : Jvm.MethodName) ({ cls := "IcehighwayModel", name := "minutesAnew", desc := "(II)I" } : Jvm.MethodName)) ∈ WL := WL_t (in_tables_1_5 (List.mem_of_getElem? (i := 97) rfl)) rfl
theorem q1058 : (Jvm.Cond.code ({ cls := "IcehighwayModel", name := "minutesAnew", desc := "(II)I" } : Jvm.MethodName) prog_6_method_51_code (3 : Nat) (Option.some Jvm.ClassFile.FieldType.int)) ∈ WL := WL_t (in_tables_1_5 (List.mem_of_getElem? (i := 98) rfl)) rfl
theorem q1059 : (Jvm.Cond.methodLink "IcehighwayModel" (203 : Nat) ({ cls := "IcehighwayModel", name := "minutes", desc := "(II)I" } : Jvm.MethodName)) ∈ WL := WL_t (in_tables_1_5 (List.mem_of_getElem? (i := 99) rfl)) rfl
theorem q1060 : (Jvm.Cond.methodLink "IcehighwayLaw" (188 : Nat) ({ cls := "IcehighwayModel", name := "kilos", desc := "(II)I" } : Jvm.MethodName)) ∈ WL := WL_t (in_tables_1_5 (List.mem_of_getElem? (i := 100) rfl)) rfl
theorem q1061 : (Jvm.Cond.instanceMethod ({ cls := "IcehighwayModel", name := "kilos", desc := "(II)I" } : Jvm.MethodName)) ∈ WL := WL_t (in_tables_1_5 (List.mem_of_getElem? (i := 101) rfl)) rfl
theorem q1062 : (Jvm.Cond.selects "IcehighwayModel" ({ cls := "IcehighwayModel", name := "kilos", desc := "(II)I" } : Jvm.MethodName) ({ cls := "IcehighwayModel", name := "kilos", desc := "(II)I" } : Jvm.MethodName)) ∈ WL := WL_t (in_tables_1_5 (List.mem_of_getElem? (i := 102) rfl)) rfl
theorem q1063 : (Jvm.Cond.code ({ cls := "IcehighwayModel", name := "kilos", desc := "(II)I" } : Jvm.MethodName) prog_6_method_54_code (3 : Nat) (Option.some Jvm.ClassFile.FieldType.int)) ∈ WL := WL_t (in_tables_1_5 (List.mem_of_getElem? (i := 103) rfl)) rfl
theorem q1064 : (Jvm.Cond.methodLink "IcehighwayModel" (206 : Nat) ({ cls := "IcehighwayModel", name := "missing", desc := "(I)I" } : Jvm.MethodName)) ∈ WL := WL_t (in_tables_1_5 (List.mem_of_getElem? (i := 104) rfl)) rfl
theorem q1065 : (Jvm.Cond.privateMethod ({ cls := "IcehighwayModel", name := "missing", desc := "(I)I" } : Jvm.MethodName)) ∈ XL := XL_t (in_tables_1_5 (List.mem_of_getElem? (i := 105) rfl)) rfl
theorem q1066 : (Jvm.Cond.instanceMethod ({ cls := "IcehighwayModel", name := "missing", desc := "(I)I" } : Jvm.MethodName)) ∈ WL := WL_t (in_tables_1_5 (List.mem_of_getElem? (i := 106) rfl)) rfl
theorem q1067 : (Jvm.Cond.code ({ cls := "IcehighwayModel", name := "missing", desc := "(I)I" } : Jvm.MethodName) prog_6_method_53_code (2 : Nat) (Option.some Jvm.ClassFile.FieldType.int)) ∈ WL := WL_t (in_tables_1_5 (List.mem_of_getElem? (i := 107) rfl)) rfl
theorem q1068 : (Jvm.Cond.methodLink "IcehighwayModel" (209 : Nat) ({ cls := "IcehighwayModel", name := "carried", desc := "(IZ)I" } : Jvm.MethodName)) ∈ WL := WL_t (in_tables_1_5 (List.mem_of_getElem? (i := 108) rfl)) rfl
theorem q1069 : (Jvm.Cond.privateMethod ({ cls := "IcehighwayModel", name := "carried", desc := "(IZ)I" } : Jvm.MethodName)) ∈ XL := XL_t (in_tables_1_5 (List.mem_of_getElem? (i := 109) rfl)) rfl
theorem q1070 : (Jvm.Cond.instanceMethod ({ cls := "IcehighwayModel", name := "carried", desc := "(IZ)I" } : Jvm.MethodName)) ∈ WL := WL_t (in_tables_1_5 (List.mem_of_getElem? (i := 110) rfl)) rfl
theorem q1071 : (Jvm.Cond.code ({ cls := "IcehighwayModel", name := "carried", desc := "(IZ)I" } : Jvm.MethodName) prog_6_method_52_code (5 : Nat) (Option.some Jvm.ClassFile.FieldType.int)) ∈ WL := WL_t (in_tables_1_5 (List.mem_of_getElem? (i := 111) rfl)) rfl
theorem q1072 : (Jvm.Cond.methodLink "IcehighwayLaw" (191 : Nat) ({ cls := "IcehighwayModel", name := "kilosAnew", desc := "(I)I" } : Jvm.MethodName)) ∈ WL := WL_t (in_tables_1_5 (List.mem_of_getElem? (i := 112) rfl)) rfl
theorem q1073 : (Jvm.Cond.instanceMethod ({ cls := "IcehighwayModel", name := "kilosAnew", desc := "(I)I" } : Jvm.MethodName)) ∈ WL := WL_t (in_tables_1_5 (List.mem_of_getElem? (i := 113) rfl)) rfl
theorem q1074 : (Jvm.Cond.selects "IcehighwayModel" ({ cls := "IcehighwayModel", name := "kilosAnew", desc := "(I)I" } : Jvm.MethodName) ({ cls := "IcehighwayModel", name := "kilosAnew", desc := "(I)I" } : Jvm.MethodName)) ∈ WL := WL_t (in_tables_1_5 (List.mem_of_getElem? (i := 114) rfl)) rfl
theorem q1075 : (Jvm.Cond.code ({ cls := "IcehighwayModel", name := "kilosAnew", desc := "(I)I" } : Jvm.MethodName) prog_6_method_55_code (2 : Nat) (Option.some Jvm.ClassFile.FieldType.int)) ∈ WL := WL_t (in_tables_1_5 (List.mem_of_getElem? (i := 115) rfl)) rfl
theorem q1076 : (Jvm.Cond.methodLink "IcehighwayLaw" (196 : Nat) ({ cls := "IcehighwayModel", name := "bill", desc := "()J" } : Jvm.MethodName)) ∈ WL := WL_t (in_tables_1_5 (List.mem_of_getElem? (i := 116) rfl)) rfl
theorem q1077 : (Jvm.Cond.instanceMethod ({ cls := "IcehighwayModel", name := "bill", desc := "()J" } : Jvm.MethodName)) ∈ WL := WL_t (in_tables_1_5 (List.mem_of_getElem? (i := 117) rfl)) rfl
theorem q1078 : (Jvm.Cond.selects "IcehighwayModel" ({ cls := "IcehighwayModel", name := "bill", desc := "()J" } : Jvm.MethodName) ({ cls := "IcehighwayModel", name := "bill", desc := "()J" } : Jvm.MethodName)) ∈ WL := WL_t (in_tables_1_5 (List.mem_of_getElem? (i := 118) rfl)) rfl
theorem q1079 : (Jvm.Cond.code ({ cls := "IcehighwayModel", name := "bill", desc := "()J" } : Jvm.MethodName) prog_6_method_56_code (4 : Nat) (Option.some Jvm.ClassFile.FieldType.long)) ∈ WL := WL_t (in_tables_1_5 (List.mem_of_getElem? (i := 119) rfl)) rfl
theorem q1080 : (Jvm.Cond.constantLong "IcehighwayModel" (213 : Nat) (40 : Int64)) ∈ WL := WL_t (in_tables_1_5 (List.mem_of_getElem? (i := 120) rfl)) rfl
theorem q1081 : (Jvm.Cond.arrayClass Jvm.ClassFile.FieldType.long) ∈ WL := WL_t (in_tables_1_5 (List.mem_of_getElem? (i := 121) rfl)) rfl
theorem q1082 : (Jvm.Cond.sameMethod "java/lang/Throwable" "java/lang/Throwable" "fillInStackTrace" "(I)Ljava/lang/Throwable;") ∈ WL := WL_t (in_tables_1_5 (List.mem_of_getElem? (i := 122) rfl)) rfl
theorem q1083 : (Jvm.Cond.castable "Icehighway" "java/lang/Object") ∈ XL := XL_t (in_tables_1_5 (List.mem_of_getElem? (i := 123) rfl)) rfl
theorem q1084 : (Jvm.Cond.castable "java/util/ArrayList" "java/lang/Object") ∈ XL := XL_t (in_tables_1_5 (List.mem_of_getElem? (i := 124) rfl)) rfl
theorem q1085 : (Jvm.Cond.castable "IcehighwayModel" "java/lang/Object") ∈ XL := XL_t (in_tables_1_5 (List.mem_of_getElem? (i := 125) rfl)) rfl
theorem q1086 : (Jvm.Cond.castable "java/lang/IllegalArgumentException" "java/lang/Object") ∈ XL := XL_t (in_tables_1_5 (List.mem_of_getElem? (i := 126) rfl)) rfl
theorem q1087 : (Jvm.Cond.castable "java/lang/IllegalStateException" "java/lang/Object") ∈ XL := XL_t (in_tables_1_5 (List.mem_of_getElem? (i := 127) rfl)) rfl
theorem q1088 : (Jvm.Cond.castable "Icehighway$Piece" "java/lang/Object") ∈ XL := XL_t (in_tables_1_5 (List.mem_of_getElem? (i := 128) rfl)) rfl
theorem q1089 : (Jvm.Cond.castable "java/lang/IndexOutOfBoundsException" "java/lang/Object") ∈ XL := XL_t (in_tables_1_5 (List.mem_of_getElem? (i := 129) rfl)) rfl
theorem q1090 : (Jvm.Cond.castable "Icehighway$Vehicle" "java/lang/Object") ∈ XL := XL_t (in_tables_1_5 (List.mem_of_getElem? (i := 130) rfl)) rfl
theorem q1091 : (Jvm.Cond.castable "Icehighway$Load" "java/lang/Object") ∈ XL := XL_t (in_tables_1_5 (List.mem_of_getElem? (i := 131) rfl)) rfl
theorem q1092 : (Jvm.Cond.castable "java/lang/Throwable" "java/lang/Object") ∈ XL := XL_t (in_tables_1_5 (List.mem_of_getElem? (i := 132) rfl)) rfl
theorem q1093 : (Jvm.Cond.castable "java/lang/String" "java/lang/Object") ∈ XL := XL_t (in_tables_1_5 (List.mem_of_getElem? (i := 133) rfl)) rfl
theorem q1094 : (Jvm.Cond.sameMethod "[Ljava/lang/Object;" "java/lang/Object" "getClass" "()Ljava/lang/Class;") ∈ WL := WL_t (in_tables_1_5 (List.mem_of_getElem? (i := 134) rfl)) rfl
theorem q1095 : (Jvm.Cond.selects "[Ljava/lang/Object;" ({ cls := "java/lang/Object", name := "getClass", desc := "()Ljava/lang/Class;" } : Jvm.MethodName) ({ cls := "java/lang/Object", name := "getClass", desc := "()Ljava/lang/Class;" } : Jvm.MethodName)) ∈ WL := WL_t (in_tables_1_5 (List.mem_of_getElem? (i := 135) rfl)) rfl
theorem q1096 : (Jvm.Cond.declares ({ cls := "java/lang/Object", name := "getClass", desc := "()Ljava/lang/Class;" } : Jvm.MethodName)) ∈ XL := XL_t (in_tables_1_5 (List.mem_of_getElem? (i := 136) rfl)) rfl
theorem q1097 : (Jvm.Cond.castable "[I" "java/lang/Object") ∈ XL := XL_t (in_tables_1_5 (List.mem_of_getElem? (i := 137) rfl)) rfl
theorem q1098 : (Jvm.Cond.castable "[B" "java/lang/Object") ∈ XL := XL_t (in_tables_1_5 (List.mem_of_getElem? (i := 138) rfl)) rfl
theorem q1099 : (Jvm.Cond.castable "[Ljava/lang/Object;" "java/lang/Object") ∈ XL := XL_t (in_tables_1_5 (List.mem_of_getElem? (i := 139) rfl)) rfl
theorem q1100 : (Jvm.Cond.castable "[D" "java/lang/Object") ∈ XL := XL_t (in_tables_1_5 (List.mem_of_getElem? (i := 140) rfl)) rfl
theorem q1101 : (Jvm.Cond.castable "[Z" "java/lang/Object") ∈ XL := XL_t (in_tables_1_5 (List.mem_of_getElem? (i := 141) rfl)) rfl
theorem q1102 : (Jvm.Cond.castable "[J" "java/lang/Object") ∈ XL := XL_t (in_tables_1_5 (List.mem_of_getElem? (i := 142) rfl)) rfl
theorem in_lw_privs_1 {w : MethodName × Nat} (h : w ∈ lw_privs_1) : w ∈ lw_privs := List.mem_append_left _ h
theorem qp0 : Cond.selects "Icehighway" ⟨"Icehighway", "kilosMissing", "(I)I"⟩ ⟨"Icehighway", "kilosMissing", "(I)I"⟩ ∈ WL := WL_p (in_lw_privs_1 (List.mem_of_getElem? (i := 0) rfl))
theorem qp1 : Cond.selects "java/lang/Throwable" ⟨"java/lang/Throwable", "fillInStackTrace", "(I)Ljava/lang/Throwable;"⟩ ⟨"java/lang/Throwable", "fillInStackTrace", "(I)Ljava/lang/Throwable;"⟩ ∈ WL := WL_p (in_lw_privs_1 (List.mem_of_getElem? (i := 1) rfl))
theorem qp2 : Cond.selects "java/util/ArrayList" ⟨"java/util/ArrayList", "add", "(Ljava/lang/Object;[Ljava/lang/Object;I)V"⟩ ⟨"java/util/ArrayList", "add", "(Ljava/lang/Object;[Ljava/lang/Object;I)V"⟩ ∈ WL := WL_p (in_lw_privs_1 (List.mem_of_getElem? (i := 2) rfl))
theorem qp3 : Cond.selects "java/util/ArrayList" ⟨"java/util/ArrayList", "grow", "()[Ljava/lang/Object;"⟩ ⟨"java/util/ArrayList", "grow", "()[Ljava/lang/Object;"⟩ ∈ WL := WL_p (in_lw_privs_1 (List.mem_of_getElem? (i := 3) rfl))
theorem qp4 : Cond.selects "java/util/ArrayList" ⟨"java/util/ArrayList", "grow", "(I)[Ljava/lang/Object;"⟩ ⟨"java/util/ArrayList", "grow", "(I)[Ljava/lang/Object;"⟩ ∈ WL := WL_p (in_lw_privs_1 (List.mem_of_getElem? (i := 4) rfl))
theorem qp5 : Cond.selects "Icehighway" ⟨"Icehighway", "pieceNumbered", "(I)LIcehighway$Piece;"⟩ ⟨"Icehighway", "pieceNumbered", "(I)LIcehighway$Piece;"⟩ ∈ WL := WL_p (in_lw_privs_1 (List.mem_of_getElem? (i := 5) rfl))
theorem qp6 : Cond.selects "Icehighway" ⟨"Icehighway", "vehicleNumbered", "(I)LIcehighway$Vehicle;"⟩ ⟨"Icehighway", "vehicleNumbered", "(I)LIcehighway$Vehicle;"⟩ ∈ WL := WL_p (in_lw_privs_1 (List.mem_of_getElem? (i := 6) rfl))
theorem qp7 : Cond.selects "Icehighway" ⟨"Icehighway", "stopAtEnd", "(LIcehighway$Vehicle;)V"⟩ ⟨"Icehighway", "stopAtEnd", "(LIcehighway$Vehicle;)V"⟩ ∈ WL := WL_p (in_lw_privs_1 (List.mem_of_getElem? (i := 7) rfl))
theorem qp8 : Cond.selects "Icehighway" ⟨"Icehighway", "unload", "(LIcehighway$Vehicle;)V"⟩ ⟨"Icehighway", "unload", "(LIcehighway$Vehicle;)V"⟩ ∈ WL := WL_p (in_lw_privs_1 (List.mem_of_getElem? (i := 8) rfl))
theorem qp9 : Cond.selects "Icehighway" ⟨"Icehighway", "passOneMinute", "()V"⟩ ⟨"Icehighway", "passOneMinute", "()V"⟩ ∈ WL := WL_p (in_lw_privs_1 (List.mem_of_getElem? (i := 9) rfl))
theorem qp10 : Cond.selects "Icehighway" ⟨"Icehighway", "endDay", "()V"⟩ ⟨"Icehighway", "endDay", "()V"⟩ ∈ WL := WL_p (in_lw_privs_1 (List.mem_of_getElem? (i := 10) rfl))
theorem qp11 : Cond.selects "Icehighway$Piece" ⟨"Icehighway$Piece", "growth", "(I)I"⟩ ⟨"Icehighway$Piece", "growth", "(I)I"⟩ ∈ WL := WL_p (in_lw_privs_1 (List.mem_of_getElem? (i := 11) rfl))
theorem qp12 : Cond.selects "Icehighway" ⟨"Icehighway", "moveOn", "(LIcehighway$Vehicle;)V"⟩ ⟨"Icehighway", "moveOn", "(LIcehighway$Vehicle;)V"⟩ ∈ WL := WL_p (in_lw_privs_1 (List.mem_of_getElem? (i := 12) rfl))
theorem qp13 : Cond.selects "Icehighway" ⟨"Icehighway", "leave", "(LIcehighway$Vehicle;)V"⟩ ⟨"Icehighway", "leave", "(LIcehighway$Vehicle;)V"⟩ ∈ WL := WL_p (in_lw_privs_1 (List.mem_of_getElem? (i := 13) rfl))
theorem qp14 : Cond.selects "Icehighway" ⟨"Icehighway", "whatIsAgainst", "(LIcehighway$Vehicle;)I"⟩ ⟨"Icehighway", "whatIsAgainst", "(LIcehighway$Vehicle;)I"⟩ ∈ WL := WL_p (in_lw_privs_1 (List.mem_of_getElem? (i := 14) rfl))
theorem qp15 : Cond.selects "Icehighway" ⟨"Icehighway", "pieceAhead", "(LIcehighway$Vehicle;)LIcehighway$Piece;"⟩ ⟨"Icehighway", "pieceAhead", "(LIcehighway$Vehicle;)LIcehighway$Piece;"⟩ ∈ WL := WL_p (in_lw_privs_1 (List.mem_of_getElem? (i := 15) rfl))
theorem in_lw_privs_2 {w : MethodName × Nat} (h : w ∈ lw_privs_2) : w ∈ lw_privs := List.mem_append_right _ (List.mem_append_left _ h)
theorem qp16 : Cond.selects "Icehighway" ⟨"Icehighway", "comeOnto", "(LIcehighway$Vehicle;)V"⟩ ⟨"Icehighway", "comeOnto", "(LIcehighway$Vehicle;)V"⟩ ∈ WL := WL_p (in_lw_privs_2 (List.mem_of_getElem? (i := 0) rfl))
theorem qp17 : Cond.selects "Icehighway" ⟨"Icehighway", "kilosInVehicles", "(IZ)I"⟩ ⟨"Icehighway", "kilosInVehicles", "(IZ)I"⟩ ∈ WL := WL_p (in_lw_privs_2 (List.mem_of_getElem? (i := 1) rfl))
theorem qp18 : Cond.selects "IcehighwayModel" ⟨"IcehighwayModel", "fails", "(I)Z"⟩ ⟨"IcehighwayModel", "fails", "(I)Z"⟩ ∈ WL := WL_p (in_lw_privs_2 (List.mem_of_getElem? (i := 2) rfl))
theorem qp19 : Cond.selects "IcehighwayModel" ⟨"IcehighwayModel", "isPiece", "(I)Z"⟩ ⟨"IcehighwayModel", "isPiece", "(I)Z"⟩ ∈ WL := WL_p (in_lw_privs_2 (List.mem_of_getElem? (i := 3) rfl))
theorem qp20 : Cond.selects "IcehighwayModel" ⟨"IcehighwayModel", "isWater", "(I)Z"⟩ ⟨"IcehighwayModel", "isWater", "(I)Z"⟩ ∈ WL := WL_p (in_lw_privs_2 (List.mem_of_getElem? (i := 4) rfl))
theorem qp21 : Cond.selects "IcehighwayModel" ⟨"IcehighwayModel", "thick", "(I)D"⟩ ⟨"IcehighwayModel", "thick", "(I)D"⟩ ∈ WL := WL_p (in_lw_privs_2 (List.mem_of_getElem? (i := 5) rfl))
theorem qp22 : Cond.selects "IcehighwayModel" ⟨"IcehighwayModel", "isVehicle", "(I)Z"⟩ ⟨"IcehighwayModel", "isVehicle", "(I)Z"⟩ ∈ WL := WL_p (in_lw_privs_2 (List.mem_of_getElem? (i := 6) rfl))
theorem qp23 : Cond.selects "IcehighwayModel" ⟨"IcehighwayModel", "weight", "(I)I"⟩ ⟨"IcehighwayModel", "weight", "(I)I"⟩ ∈ WL := WL_p (in_lw_privs_2 (List.mem_of_getElem? (i := 7) rfl))
theorem qp24 : Cond.selects "IcehighwayModel" ⟨"IcehighwayModel", "isThere", "(I)Z"⟩ ⟨"IcehighwayModel", "isThere", "(I)Z"⟩ ∈ WL := WL_p (in_lw_privs_2 (List.mem_of_getElem? (i := 8) rfl))
theorem qp25 : Cond.selects "IcehighwayModel" ⟨"IcehighwayModel", "arrives", "(I)V"⟩ ⟨"IcehighwayModel", "arrives", "(I)V"⟩ ∈ WL := WL_p (in_lw_privs_2 (List.mem_of_getElem? (i := 9) rfl))
theorem qp26 : Cond.selects "IcehighwayModel" ⟨"IcehighwayModel", "unloads", "(IZ)V"⟩ ⟨"IcehighwayModel", "unloads", "(IZ)V"⟩ ∈ WL := WL_p (in_lw_privs_2 (List.mem_of_getElem? (i := 10) rfl))
theorem qp27 : Cond.selects "IcehighwayModel" ⟨"IcehighwayModel", "passes", "()V"⟩ ⟨"IcehighwayModel", "passes", "()V"⟩ ∈ WL := WL_p (in_lw_privs_2 (List.mem_of_getElem? (i := 11) rfl))
theorem qp28 : Cond.selects "IcehighwayModel" ⟨"IcehighwayModel", "ends", "()V"⟩ ⟨"IcehighwayModel", "ends", "()V"⟩ ∈ WL := WL_p (in_lw_privs_2 (List.mem_of_getElem? (i := 12) rfl))
theorem qp29 : Cond.selects "IcehighwayModel" ⟨"IcehighwayModel", "freezes", "(I)V"⟩ ⟨"IcehighwayModel", "freezes", "(I)V"⟩ ∈ WL := WL_p (in_lw_privs_2 (List.mem_of_getElem? (i := 13) rfl))
theorem qp30 : Cond.selects "IcehighwayModel" ⟨"IcehighwayModel", "thaws", "(I)V"⟩ ⟨"IcehighwayModel", "thaws", "(I)V"⟩ ∈ WL := WL_p (in_lw_privs_2 (List.mem_of_getElem? (i := 14) rfl))
theorem qp31 : Cond.selects "IcehighwayModel" ⟨"IcehighwayModel", "leaves", "(I)V"⟩ ⟨"IcehighwayModel", "leaves", "(I)V"⟩ ∈ WL := WL_p (in_lw_privs_2 (List.mem_of_getElem? (i := 15) rfl))
theorem in_lw_privs_3 {w : MethodName × Nat} (h : w ∈ lw_privs_3) : w ∈ lw_privs := List.mem_append_right _ (List.mem_append_right _ (h))
theorem qp32 : Cond.selects "IcehighwayModel" ⟨"IcehighwayModel", "against", "(I)I"⟩ ⟨"IcehighwayModel", "against", "(I)I"⟩ ∈ WL := WL_p (in_lw_privs_3 (List.mem_of_getElem? (i := 0) rfl))
theorem qp33 : Cond.selects "IcehighwayModel" ⟨"IcehighwayModel", "nextPiece", "(I)I"⟩ ⟨"IcehighwayModel", "nextPiece", "(I)I"⟩ ∈ WL := WL_p (in_lw_privs_3 (List.mem_of_getElem? (i := 1) rfl))
theorem qp34 : Cond.selects "IcehighwayModel" ⟨"IcehighwayModel", "isMet", "(II)Z"⟩ ⟨"IcehighwayModel", "isMet", "(II)Z"⟩ ∈ WL := WL_p (in_lw_privs_3 (List.mem_of_getElem? (i := 2) rfl))
theorem qp35 : Cond.selects "IcehighwayModel" ⟨"IcehighwayModel", "weights", "(I)I"⟩ ⟨"IcehighwayModel", "weights", "(I)I"⟩ ∈ WL := WL_p (in_lw_privs_3 (List.mem_of_getElem? (i := 3) rfl))
theorem qp36 : Cond.selects "IcehighwayModel" ⟨"IcehighwayModel", "bearsBy", "(ID)I"⟩ ⟨"IcehighwayModel", "bearsBy", "(ID)I"⟩ ∈ WL := WL_p (in_lw_privs_3 (List.mem_of_getElem? (i := 4) rfl))
theorem qp37 : Cond.selects "IcehighwayModel" ⟨"IcehighwayModel", "comes", "(I)V"⟩ ⟨"IcehighwayModel", "comes", "(I)V"⟩ ∈ WL := WL_p (in_lw_privs_3 (List.mem_of_getElem? (i := 5) rfl))
theorem qp38 : Cond.selects "IcehighwayModel" ⟨"IcehighwayModel", "minutesOn", "(II)I"⟩ ⟨"IcehighwayModel", "minutesOn", "(II)I"⟩ ∈ WL := WL_p (in_lw_privs_3 (List.mem_of_getElem? (i := 6) rfl))
theorem qp39 : Cond.selects "IcehighwayModel" ⟨"IcehighwayModel", "speedOn", "(II)I"⟩ ⟨"IcehighwayModel", "speedOn", "(II)I"⟩ ∈ WL := WL_p (in_lw_privs_3 (List.mem_of_getElem? (i := 7) rfl))
theorem qp40 : Cond.selects "IcehighwayModel" ⟨"IcehighwayModel", "many", "(I)I"⟩ ⟨"IcehighwayModel", "many", "(I)I"⟩ ∈ WL := WL_p (in_lw_privs_3 (List.mem_of_getElem? (i := 8) rfl))
theorem qp41 : Cond.selects "IcehighwayModel" ⟨"IcehighwayModel", "missing", "(I)I"⟩ ⟨"IcehighwayModel", "missing", "(I)I"⟩ ∈ WL := WL_p (in_lw_privs_3 (List.mem_of_getElem? (i := 9) rfl))
theorem qp42 : Cond.selects "IcehighwayModel" ⟨"IcehighwayModel", "carried", "(IZ)I"⟩ ⟨"IcehighwayModel", "carried", "(IZ)I"⟩ ∈ WL := WL_p (in_lw_privs_3 (List.mem_of_getElem? (i := 10) rfl))
end
section
/-! ===== worlds as functions of (kind, index): a world is a partial map to addresses and what lies there ===== -/
abbrev WD : Type := Nat → Nat → Option (Nat × va_E)
def fP (D : va_G) (w : WD) (H : Heap) : Prop := ∀ (k i : Nat) (q : Nat × va_E), w k i = some q → va_at D vwCl q H
def fD (A : Nat → Prop) (w : WD) : Prop := (∀ (k i k' i' : Nat) (q q' : Nat × va_E), w k i = some q → w k' i' = some q' → q.1 = q'.1 → k = k' ∧ i = i') ∧ ∀ (k i : Nat) (q : Nat × va_E), w k i = some q → A q.1
def fU (w : WD) (k i : Nat) (x : Nat × va_E) : WD := fun k' i' => if k' = k ∧ i' = i then some x else w k' i'
def fA (w : WD) (sz : Nat) : Nat → Prop := fun q => (∃ (k i : Nat) (e : va_E), w k i = some (q, e)) ∨ sz ≤ q
abbrev TYS (T : Nat → ClassId) : List (ClassId × FieldType) := [(T 0, .int), (T 1, .double), (T 2, .boolean), (T 3, .long), (T 4, .object "java/lang/Object")]
/-- world, distinctness, frame: all that a walk carries of the heap -/
def fI (D : va_G) (A : Nat → Prop) (H0 : Heap) (w : WD) (H : Heap) (locs : List Loc) : Prop := fP D w H ∧ fD A w ∧ va_S A H0 H locs ∧ ∀ q, H0.size ≤ q → A q
theorem fU_same {w : WD} {k i : Nat} {x : Nat × va_E} : fU w k i x k i = some x := if_pos ⟨rfl, rfl⟩
theorem fU_ne {w : WD} {k i k' i' : Nat} {x : Nat × va_E} (h : ¬ (k' = k ∧ i' = i)) : fU w k i x k' i' = w k' i' := if_neg h
theorem fP.lt {D : va_G} {w : WD} {H : Heap} (h : fP D w H) {k i : Nat} {q : Nat × va_E} (hk : w k i = some q) : q.1 < H.size := (h k i q hk).lt
theorem fA.in {w : WD} {sz k i : Nat} {q : Nat × va_E} (h : w k i = some q) : fA w sz q.1 := Or.inl ⟨k, i, q.2, h⟩
theorem fD.weaken {A B : Nat → Prop} {w : WD} (h : fD A w) (hAB : ∀ q, A q → B q) : fD B w := ⟨h.1, fun k i q hk => hAB _ (h.2 k i q hk)⟩
theorem fI.free {D : va_G} {A : Nat → Prop} {H0 : Heap} {w : WD} {H : Heap} {locs : List Loc} (h : fI D A H0 w H locs) : ∀ q, fA w H.size q → A q := by
  intro q hq
  rcases hq with ⟨k, i, e, he⟩ | hq
  · exact h.2.1.2 k i (q, e) he
  · exact h.2.2.2 q (Nat.le_trans h.2.2.1.1 hq)
theorem fI.set {D : va_G} {A : Nat → Prop} {H0 : Heap} {w : WD} {H H1 : Heap} {locs : List Loc} (h : fI D A H0 w H locs) {k i a j : Nat} {e0 e : va_E} (he : w k i = some (a, e0)) (hat : va_at D vwCl (a, e) H1) (z : H1.size = H.size) (oq : ∀ q : Nat, q ≠ a → H1[q]? = H[q]?) : fI D A H0 (fU w k i (a, e)) H1 (locs ++ [⟨a, j⟩]) := by
  obtain ⟨hP, hD, hS, hA⟩ := h
  refine ⟨fun k' i' q hq => ?_, ⟨fun k1 i1 k2 i2 q1 q2 h1 h2 h3 => ?_, fun k' i' q hq => ?_⟩, hS.put z oq (hD.2 k i _ he), hA⟩
  · by_cases c : k' = k ∧ i' = i
    · obtain ⟨rfl, rfl⟩ := c
      rw [fU_same] at hq
      cases hq
      exact hat
    · rw [fU_ne c] at hq
      exact (hP k' i' q hq).kept (oq q.1 (fun z => c (hD.1 k' i' k i q (a, e0) hq he z)))
  · have key : ∀ (k' i' : Nat) (q : Nat × va_E), fU w k i (a, e) k' i' = some q → ∃ q0, w k' i' = some q0 ∧ q0.1 = q.1 := by
      intro k' i' q hq
      by_cases c : k' = k ∧ i' = i
      · obtain ⟨rfl, rfl⟩ := c
        rw [fU_same] at hq
        cases hq
        exact ⟨_, he, rfl⟩
      · rw [fU_ne c] at hq
        exact ⟨q, hq, rfl⟩
    obtain ⟨p1, a1, b1⟩ := key k1 i1 q1 h1
    obtain ⟨p2, a2, b2⟩ := key k2 i2 q2 h2
    exact hD.1 k1 i1 k2 i2 p1 p2 a1 a2 (b1.trans (h3.trans b2.symm))
  · by_cases c : k' = k ∧ i' = i
    · obtain ⟨rfl, rfl⟩ := c
      rw [fU_same] at hq
      cases hq
      exact (show A a from hD.2 k' i' (a, e0) he)
    · rw [fU_ne c] at hq
      exact hD.2 k' i' q hq
theorem fI.push {D : va_G} {A : Nat → Prop} {H0 : Heap} {w : WD} {H H1 : Heap} {locs : List Loc} (h : fI D A H0 w H locs) {k i : Nat} {e : va_E} (hn : w k i = none) (hat : va_at D vwCl (H.size, e) H1) (z : H1.size = H.size + 1) (oq : ∀ q : Nat, q < H.size → H1[q]? = H[q]?) : fI D A H0 (fU w k i (H.size, e)) H1 locs := by
  obtain ⟨hP, hD, hS, hA⟩ := h
  have key : ∀ (k' i' : Nat) (q : Nat × va_E), fU w k i (H.size, e) k' i' = some q → (k' = k ∧ i' = i ∧ q = (H.size, e)) ∨ (w k' i' = some q ∧ q.1 < H.size) := by
    intro k' i' q hq
    by_cases c : k' = k ∧ i' = i
    · obtain ⟨rfl, rfl⟩ := c
      rw [fU_same] at hq
      cases hq
      exact Or.inl ⟨rfl, rfl, rfl⟩
    · rw [fU_ne c] at hq
      exact Or.inr ⟨hq, (hP k' i' q hq).lt⟩
  refine ⟨fun k' i' q hq => ?_, ⟨fun k1 i1 k2 i2 q1 q2 h1 h2 h3 => ?_, fun k' i' q hq => ?_⟩, ⟨Nat.le_trans hS.1 (by omega), fun x h1 h2 => (oq x (Nat.lt_of_lt_of_le h1 hS.1)).trans (hS.2.1 x h1 h2), hS.2.2⟩, hA⟩
  · rcases key k' i' q hq with ⟨-, -, rfl⟩ | ⟨g, gl⟩
    · exact hat
    · exact (hP k' i' q g).kept (oq q.1 gl)
  · rcases key k1 i1 q1 h1 with ⟨e1, e2, rfl⟩ | ⟨g1, l1⟩ <;> rcases key k2 i2 q2 h2 with ⟨e3, e4, rfl⟩ | ⟨g2, l2⟩
    · exact ⟨e1.trans e3.symm, e2.trans e4.symm⟩
    · exact absurd h3 (fun z => by simp only at z; omega)
    · exact absurd h3 (fun z => by simp only at z; omega)
    · exact hD.1 k1 i1 k2 i2 q1 q2 g1 g2 h3
  · rcases key k' i' q hq with ⟨-, -, rfl⟩ | ⟨g, -⟩
    · exact hA _ hS.1
    · exact hD.2 k' i' q g
/-- a world that is a part of another -/
theorem fI.sub {D : va_G} {A : Nat → Prop} {H0 : Heap} {w w' : WD} {H : Heap} {locs : List Loc} (h : fI D A H0 w H locs) (hs : ∀ k i q, w' k i = some q → w k i = some q) : fI D A H0 w' H locs :=
  ⟨fun k i q hq => h.1 k i q (hs k i q hq), ⟨fun k i k' i' q q' a b => h.2.1.1 k i k' i' q q' (hs _ _ _ a) (hs _ _ _ b), fun k i q hq => h.2.1.2 k i q (hs k i q hq)⟩, h.2.2.1, h.2.2.2⟩
/-! ===== what a method takes of the launch: words of faces, texts, statics ===== -/
def SLs : List (String × Nat × String) := [("Icehighway", 227, "a value is out of range"), ("Icehighway", 58, "no more pieces can be laid"), ("Icehighway", 235, "there is no such piece"), ("Icehighway", 91, "the piece can't be flooded so"), ("Icehighway", 109, "no vehicle can be added"), ("Icehighway", 237, "there is no such vehicle"), ("Icehighway", 232, "there are no such goods"), ("Icehighway", 132, "the vehicle can't be loaded"), ("Icehighway", 142, "the vehicle is not at the base or the mine"), ("Icehighway", 148, "the vehicle is not at a ramp"), ("Icehighway", 156, "the mine would have ordered too much"), ("Icehighway", 159, "the minute would be too high")]
def EV (z : Nat) (A : Nat → Prop) (U : State) (H : Heap) : Prop :=
  (∀ w ∈ XL, w.before #[] U = true) ∧ (∀ q ∈ SLs, ∃ a, vk_R q.1 q.2.1 q.2.2 a U) ∧ vx_Zq Bundle.tN "UNASSIGNED_STACK" Bundle.steD A U H ∧ vx_Zq Bundle.tN "SUPPRESSED_SENTINEL" Bundle.listD A U H ∧ va_Z "java/util/ArrayList" "DEFAULTCAPACITY_EMPTY_ELEMENTDATA" "[Ljava/lang/Object;" (.ref z) A U H ∧ va_T (.object "java/lang/Object") z 0 (fun _ => .null) A U H
theorem XL_warm {s U : State} (hW : s.WarmedH U.vm) {w : Cond} (hw : w ∈ XL) (h : w.before #[] s = true) : w.before #[] U = true := by
  have hx := (List.mem_filter.mp hw).2
  simp only [XF, Bool.and_eq_true] at hx
  exact va_tabs hx.1 (rfl : (s.setVm U.vm).vm = U.vm) (Cond.faceAtom_setVm hW.alike w hx.2 h)
theorem XL_use {s : State} {args : Array Value} {w : Cond} (hw : w ∈ XL) (h : w.before #[] s = true) : w.before args s = true := by
  have hx := (List.mem_filter.mp hw).2
  simp only [XF, Bool.and_eq_true] at hx
  exact va_tabs hx.1 rfl h
theorem EV.next {z : Nat} {A B : Nat → Prop} {s U : State} {H : Heap} {locs : List Loc} (h : EV z A s s.heap) (hS : va_S A s.heap H locs) (hW : s.WarmedH U.vm) (hAB : ∀ q, B q → A q) : EV z B U H := by
  obtain ⟨h1, h2, h3, h4, h5, h6⟩ := h
  refine ⟨fun w hw => XL_warm hW hw (h1 w hw), fun q hq => ?_, ?_, ?_, ?_, ?_⟩
  · obtain ⟨a, ha⟩ := h2 q hq
    exact ⟨a, ha.warm hW⟩
  · exact ((h3.kept hS.2.1).moved hW.alike).narrow hAB
  · exact ((h4.kept hS.2.1).moved hW.alike).narrow hAB
  · exact ((h5.kept hS.2.1).moved hW.alike).narrow hAB
  · exact ((h6.kept hS.2.1).moved hW.alike).narrow hAB
theorem EV.calling {z : Nat} {A : Nat → Prop} {U : State} {g : JFrame} {mk : MethodId} {a : Array Value} (h : EV z A U U.heap) : EV z A (U.calling g mk a) (U.calling g mk a).heap := by
  obtain ⟨h1, h2, h3, h4, h5, h6⟩ := h
  have hv : U.vm.Alike (U.calling g mk a).vm := Vm.Alike.refl U.vm
  refine ⟨fun w hw => ?_, fun q hq => ?_, h3.moved hv, h4.moved hv, h5.moved hv, h6.moved hv⟩
  · have hx := (List.mem_filter.mp hw).2
    simp only [XF, Bool.and_eq_true] at hx
    exact va_tabs hx.1 (u := U) rfl (h1 w hw)
  · obtain ⟨a, ha⟩ := h2 q hq
    exact ⟨a, ha.same rfl⟩
/-- the launch, the empty array's address, the classes' numbers and slots, the array classes -/
abbrev GX : Type := Launch × Nat × va_G × (Nat → ClassId)
def FPre (G : GX) (w : WD) (sz : Nat) (U : State) : Prop := U.heap.size = sz ∧ fP G.2.2.1 w U.heap ∧ va_K G.2.2.1 vwCl (TYS G.2.2.2) U ∧ fD (fun _ => True) w ∧ EV G.2.1 (fA w sz) U U.heap
def FQ (G : GX) (w : WD) (sz : Nat) (po : Option Value → WD → Prop) : Array Value → State → Outcome → State → Prop := fun _ st oc t =>
  (∃ (v : Option Value) (w' : WD), oc = .returned v ∧ po v w' ∧ fP G.2.2.1 w' t.heap ∧ fD (fA w sz) w') ∧ va_F (fA w sz) st t
def FXq (G : GX) (w : WD) (sz : Nat) (px : String → WD → Prop) : String → State → State → Prop := fun E st t =>
  (∃ w' : WD, px E w' ∧ fP G.2.2.1 w' t.heap ∧ fD (fA w sz) w') ∧ va_F (fA w sz) st t
/-- a method's contract: from a world w and the arguments as it comes to an answer v and a world w' with po v w' -/
def FC (G : GX) (y : MethodName) (cc : ByteArray) (nL : Nat) (ret : Option FieldType) (rm : Room) (as : List Value) (w : WD) (po : Option Value → WD → Prop) : Prop :=
  ∀ sz, Met G.1 y (Cond.code y cc nL ret :: WL) rm (va_Pc as (FPre G w sz)) (FQ G w sz po) rm.cells rm.slots (fA w sz)
/-- the same of a method that may throw: px of the class' name and the world then -/
def FX (G : GX) (y : MethodName) (cc : ByteArray) (nL : Nat) (ret : Option FieldType) (rm : Room) (as : List Value) (w : WD) (po : Option Value → WD → Prop) (px : String → WD → Prop) : Prop :=
  ∀ sz, vx_Met G.1 y (Cond.code y cc nL ret :: WL) rm (va_Pc as (FPre G w sz)) (FQ G w sz po) (FXq G w sz px) rm.cells rm.slots (fA w sz)
theorem FPre.blind {G : GX} {w : WD} {sz : Nat} {as : List Value} : FrameBlind (va_Pc as (FPre G w sz)) := by
  intro a U g mk h
  obtain ⟨h0, h1, h2, h3, h4, h5⟩ := h
  exact ⟨h0, h1, h2, va_K.moved (u := U) (U := U.calling g mk a) (Vm.Alike.refl U.vm) h3, h4, h5.calling⟩
/-- what a caller owes at a call -/
theorem FPre.go {G : GX} {A : Nat → Prop} {s : State} {w : WD} {H : Heap} {locs : List Loc} (hK : va_K G.2.2.1 vwCl (TYS G.2.2.2) s) (hE : EV G.2.1 A s s.heap) (hI : fI G.2.2.1 A s.heap w H locs) {as : List Value} {U : State} (hU : U.heap = H) (hW : s.WarmedH U.vm) : va_Pc as (FPre G w H.size) as.toArray U := by
  refine ⟨rfl, by rw [hU], by rw [hU]; exact hI.1, va_K.moved hW.alike hK, hI.2.1.weaken (fun _ _ => trivial), ?_⟩
  rw [hU]
  exact hE.next hI.2.2.1 hW hI.free
theorem FC.of {G : GX} {y : MethodName} {cc : ByteArray} {nL : Nat} {ret : Option FieldType} {rm : Room} {as : List Value} {w : WD} {po : Option Value → WD → Prop} (hy : plainName y.cls = true) (hlen : (lg_sl as).length ≤ nL)
    (body : ∀ (p : Program) (e : Env) (s : State) (m : MethodId) (below : List Frame) (meth : Method) (c : Code) (A : Nat → Prop) (ls : Array Slot), p.tables.exec = Jvm.exec → c.code = cc → meth.sig.returnType = ret → (∀ w ∈ WL, w.before as.toArray s = true) → s.vm.findClass y.cls = some m.cls → c.maxLocals = nL → meth.locks = false → meth.name = y.name → va_K G.2.2.1 vwCl (TYS G.2.2.2) s → EV G.2.1 A s s.heap → fI G.2.2.1 A s.heap w s.heap [] → A = fA w s.heap.size → lv_has ls nL (lv_args 0 as) →
      W p G.1 e rm s m as.toArray below meth c s.heap [] 0 0 (MQ below (FQ G w s.heap.size po) as.toArray s rm.cells rm.slots (fA w s.heap.size)) (F0 m 0 ls [])) : FC G y cc nL ret rm as w po := by
  intro sz
  refine Met.ofW (cc := cc) (maxL := nL) (ret := ret) hy rfl ?_
  intro p e s m args below meth c s₁ B hml hv
  obtain ⟨rfl, hsz, hP, hK, hD0, hE⟩ := hv
  subst hsz
  have hts := atoms_spec (ws := Cond.code y cc nL ret :: WL) B.pre
  have hD : fD (fA w s.heap.size) w := ⟨hD0.1, fun k i q hq => fA.in hq⟩
  rw [lg_entry_eq]
  exact body p e s m below meth c (fA w s.heap.size) _ B.exec B.bytes B.returns (fun x hx => hts x (List.mem_cons_of_mem _ hx)) (findClass_of_methodNamed B.named) hml B.notSynchronized (name_of_methodNamed B.named B.method).1 hK hE ⟨hP, hD, va_S.rf, fun q h => Or.inr h⟩ rfl (lv_entry as hlen)
theorem FX.of {G : GX} {y : MethodName} {cc : ByteArray} {nL : Nat} {ret : Option FieldType} {rm : Room} {as : List Value} {w : WD} {po : Option Value → WD → Prop} {px : String → WD → Prop} (hy : plainName y.cls = true) (hlen : (lg_sl as).length ≤ nL)
    (body : ∀ (p : Program) (e : Env) (s : State) (m : MethodId) (below : List Frame) (meth : Method) (c : Code) (A : Nat → Prop) (ls : Array Slot), p.tables.exec = Jvm.exec → c.code = cc → meth.sig.returnType = ret → (∀ w ∈ WL, w.before as.toArray s = true) → s.vm.findClass y.cls = some m.cls → c.maxLocals = nL → meth.locks = false → (∀ x ∈ c.exceptionTable.toList, ∀ pc, covers x pc = false) → va_K G.2.2.1 vwCl (TYS G.2.2.2) s → EV G.2.1 A s s.heap → fI G.2.2.1 A s.heap w s.heap [] → A = fA w s.heap.size → lv_has ls nL (lv_args 0 as) →
      W p G.1 e rm s m as.toArray below meth c s.heap [] 0 0 (vx_MQ below (FQ G w s.heap.size po) (FXq G w s.heap.size px) as.toArray s rm.cells rm.slots (fA w s.heap.size)) (F0 m 0 ls [])) : FX G y cc nL ret rm as w po px := by
  intro sz
  refine vx_ofW (cc := cc) (maxL := nL) (ret := ret) hy rfl ?_
  intro p e s m args below meth c s₁ B hml ht hv
  obtain ⟨rfl, hsz, hP, hK, hD0, hE⟩ := hv
  subst hsz
  have hts := atoms_spec (ws := Cond.code y cc nL ret :: WL) B.pre
  have hD : fD (fA w s.heap.size) w := ⟨hD0.1, fun k i q hq => fA.in hq⟩
  rw [lg_entry_eq]
  exact body p e s m below meth c (fA w s.heap.size) _ B.exec B.bytes B.returns (fun x hx => hts x (List.mem_cons_of_mem _ hx)) (findClass_of_methodNamed B.named) hml B.notSynchronized (fun x hx => (ht x hx).elim) hK hE ⟨hP, hD, va_S.rf, fun q h => Or.inr h⟩ rfl (lv_entry as hlen)
end
section
/-! ===== rows over worlds that are functions ===== -/
/-- a call's words: of a virtual (or private) method, of a static one, of a constructor, of an interface's -/
def CkV (own : String) (index : Nat) (y : MethodName) (cc : ByteArray) (nL : Nat) (ret : Option FieldType) (n : Nat) : Prop :=
  Cond.code y cc nL ret ∈ WL ∧ Cond.methodLink own index y ∈ WL ∧ Cond.instanceMethod y ∈ WL ∧ Cond.selects y.cls y y ∈ WL ∧ Cond.initialized y.cls ∈ WL ∧ y.cls ≠ "java/lang/invoke/MethodHandle" ∧ y.cls ≠ "java/lang/invoke/VarHandle" ∧ (parseMethodDescriptor y.desc).map (fun d => d.parameters.length) = some n
def CkS (own : String) (index : Nat) (y : MethodName) (cc : ByteArray) (nL : Nat) (ret : Option FieldType) (n : Nat) : Prop :=
  Cond.code y cc nL ret ∈ WL ∧ Cond.methodLink own index y ∈ WL ∧ Cond.static y ∈ WL ∧ Cond.initialized y.cls ∈ WL ∧ y.cls ≠ "java/lang/invoke/MethodHandle" ∧ y.cls ≠ "java/lang/invoke/VarHandle" ∧ (parseMethodDescriptor y.desc).map (fun d => d.parameters.length) = some n
def CkI (own : String) (index : Nat) (y : MethodName) (cc : ByteArray) (nL : Nat) (n : Nat) : Prop :=
  Cond.code y cc nL none ∈ WL ∧ Cond.methodLink own index y ∈ WL ∧ Cond.instanceMethod y ∈ WL ∧ Cond.initialized y.cls ∈ WL ∧ y.name = "<init>" ∧ y.cls ≠ "java/lang/invoke/MethodHandle" ∧ y.cls ≠ "java/lang/invoke/VarHandle" ∧ (parseMethodDescriptor y.desc).map (fun d => d.parameters.length) = some n
def CkF (own : String) (index : Nat) (x y : MethodName) (cc : ByteArray) (nL : Nat) (ret : Option FieldType) (n : Nat) : Prop :=
  Cond.code y cc nL ret ∈ WL ∧ Cond.methodLink own index x ∈ WL ∧ Cond.selects y.cls x y ∈ WL ∧ Cond.instanceMethod y ∈ WL ∧ Cond.initialized y.cls ∈ WL ∧ (Cond.declares x ∈ XL ∧ Cond.interfaceMethod x.cls x.cls x.name x.desc ∈ XL ∧ Cond.publicMethod y ∈ XL ∧ Cond.unhidden y.cls x.name x.desc ∈ XL ∧ Cond.castable y.cls x.cls ∈ XL) ∧ x.cls ≠ "java/lang/invoke/MethodHandle" ∧ x.cls ≠ "java/lang/invoke/VarHandle" ∧ (parseMethodDescriptor x.desc).map (fun d => d.parameters.length) = some n
/-- contracts that tell answer and world outright -/
def pv (vv : Value) (w1 : WD) : Option Value → WD → Prop := fun v w' => v = some vv ∧ w' = w1
def p0 (w1 : WD) : Option Value → WD → Prop := fun v w' => v = none ∧ w' = w1
def pvx (thr : Option String) (vv : Value) (w1 : WD) : Option Value → WD → Prop := fun v w' => thr = none ∧ v = some vv ∧ w' = w1
def p0x (thr : Option String) (w1 : WD) : Option Value → WD → Prop := fun v w' => thr = none ∧ v = none ∧ w' = w1
def px (thr : Option String) (w0 : WD) : String → WD → Prop := fun E w' => thr = some E ∧ w' = w0
section FXR
variable {p : Program} {e : Env} {R : Room} {s : State} {m : MethodId} {args : Array Value} {below : List Frame} {meth : Method} {c : Code} {H : Heap} {locs : List Loc} {cells slots : Nat} {Q : State → Prop}
variable {cc : ByteArray} {pc : Nat} {ls : Array Slot} {rest : List Value} {G : GX} {A : Nat → Prop} {w : WD} {H0 : Heap} {own : String} {nL : Nat}
theorem fx_get (hx : p.tables.exec = Jvm.exec) (hb : c.code = cc) (hts : ∀ w ∈ WL, w.before args s = true) (hown : s.vm.findClass own = some m.cls) (hK : va_K G.2.2.1 vwCl (TYS G.2.2.2) s) (hI : fI G.2.2.1 A H0 w H locs) {ref C : String} {T : u_T} {N ci index : Nat} (hin : ∀ w ∈ u_ws C T N, w ∈ WL) (hc : vwCl[ci]? = some (C, T, N)) (f : Nat) (hf : f < N) (hlink : Cond.fieldLink own index ref (T f).2.1 (T f).2.2.1 ∈ WL) (hsame : ∀ x, s.fieldFound? (T f).1 (T f).2.1 (T f).2.2.1 = some x → s.fieldFound? ref (T f).2.1 (T f).2.2.1 = some x) {k i a : Nat} {fs : List Value} (he : w k i = some (a, .inr (ci, fs))) {v : Value} (hv : fs[f]? = some v) (hdg : decode cc pc = .ok (.getfield index, 3))
    (kk : W p G.1 e R s m args below meth c H locs cells slots Q (F0 m (pc + 3) ls (v :: rest))) : W p G.1 e R s m args below meth c H locs cells slots Q (F0 m pc ls (.ref a :: rest)) :=
  va_get (D := G.2.2.1) (cl := vwCl) (tys := TYS G.2.2.2) (ws := [(a, .inr (ci, fs))]) hx hb hts hin hown hK (fun n q hq => by
    cases n with
    | zero => cases hq; exact hI.1 k i _ he
    | succ n => simp at hq) 0 rfl hc f hf (hts _ hlink) hsame hv hdg kk
theorem fx_put (hx : p.tables.exec = Jvm.exec) (hb : c.code = cc) (hts : ∀ w ∈ WL, w.before args s = true) (hown : s.vm.findClass own = some m.cls) (hK : va_K G.2.2.1 vwCl (TYS G.2.2.2) s) (hI : fI G.2.2.1 A H0 w H locs) {ref C : String} {T : u_T} {N ci index : Nat} (hin : ∀ w ∈ u_ws C T N, w ∈ WL) (hc : vwCl[ci]? = some (C, T, N)) (ty0 : Nat → FieldType) (hty : ∀ k, k < N → parseFieldDescriptor (T k).2.2.1 = some (ty0 k)) (hnm : ∀ a, a < N → ∀ b, b < N → a ≠ b → (T a).2.1 ≠ (T b).2.1) (f : Nat) (hf : f < N) (hlink : Cond.fieldLink own index ref (T f).2.1 (T f).2.2.1 ∈ WL) (hsame : ∀ x, s.fieldFound? (T f).1 (T f).2.1 (T f).2.2.1 = some x → s.fieldFound? ref (T f).2.1 (T f).2.2.1 = some x) (hfin : (T f).2.2.2 = false) {k i a : Nat} {fs : List Value} (he : w k i = some (a, .inr (ci, fs))) {v : Value} (hn : narrow (ty0 f) v = v) (hfit : fits (ty0 f) v = true) (hl : f < fs.length) {w' : WD} (hw : fU w k i (a, .inr (ci, fs.set f v)) = w') (hdg : decode cc pc = .ok (.putfield index, 3))
    (kk : ∀ (H1 : Heap) (locs1 : List Loc), fI G.2.2.1 A H0 w' H1 locs1 → W p G.1 e R s m args below meth c H1 locs1 cells slots Q (F0 m (pc + 3) ls rest)) : W p G.1 e R s m args below meth c H locs cells slots Q (F0 m pc ls (v :: .ref a :: rest)) := by
  have hap := va_apart (own := own) hts hin ty0 hty hnm hK hc
  obtain ⟨r, h1, cell, q1, q2, q3, q4⟩ := hI.1 k i _ he
  have hr : r = (C, T, N) := Option.some.inj (h1.symm.trans hc)
  subst hr
  obtain ⟨hS, hfc, kC, hkC, hkind⟩ := hK.1 ci _ hc
  obtain ⟨cf, kf, fi, fd, hi, hsl⟩ := hS f hf
  have hlay := hts _ (hin _ (u_in_lay hf))
  unfold u_lay at hlay
  rw [if_neg (by rw [hfin]; decide)] at hlay
  have hst := (u_facts hfc hkC (u_lays hts hin hf) hi).1
  have h6 := u_store hfc hkC hkind hlay hi (hty f hf) hn hfit
  refine W.putK hx hb (f := fd) ⟨hown, hts _ hlink, ⟨_, _, _, hsame _ hi⟩, hst⟩ (by rw [q2]; exact h6) q1 q3 (by rw [hsl]; exact k2_hasslot (q4 f hf)) rfl rfl hdg fun H' e1 e2 e3 => ?_
  rw [hsl] at e1 ⊢
  have hI' := hI.set (e := .inr (ci, fs.set f v)) (j := G.2.2.1.2 ci f) he ⟨_, hc, t_OB.to (V := updV (vp_V fs) f v) ⟨_, e1, q2, q3, t_set q4 hap hf v⟩ (fun j _ => vp_updV_set hl v j)⟩ e2 e3
  rw [hw] at hI'
  exact kk H' _ hI'
theorem fx_putF (hx : p.tables.exec = Jvm.exec) (hb : c.code = cc) (hts : ∀ w ∈ WL, w.before args s = true) (hown : s.vm.findClass own = some m.cls) (hK : va_K G.2.2.1 vwCl (TYS G.2.2.2) s) (hI : fI G.2.2.1 A H0 w H locs) {ref C : String} {T : u_T} {N ci index : Nat} (hin : ∀ w ∈ u_ws C T N, w ∈ WL) (hc : vwCl[ci]? = some (C, T, N)) (ty0 : Nat → FieldType) (hty : ∀ k, k < N → parseFieldDescriptor (T k).2.2.1 = some (ty0 k)) (hnm : ∀ a, a < N → ∀ b, b < N → a ≠ b → (T a).2.1 ≠ (T b).2.1) (f : Nat) (hf : f < N) (hlink : Cond.fieldLink own index ref (T f).2.1 (T f).2.2.1 ∈ WL) (hsame : ∀ x, s.fieldFound? (T f).1 (T f).2.1 (T f).2.2.1 = some x → s.fieldFound? ref (T f).2.1 (T f).2.2.1 = some x) (hfin : (T f).2.2.2 = true) (hin2 : meth.name = "<init>") (hdecl : (T f).1 = own) {k i a : Nat} {fs : List Value} (he : w k i = some (a, .inr (ci, fs))) {v : Value} (hn : narrow (ty0 f) v = v) (hfit : fits (ty0 f) v = true) (hl : f < fs.length) {w' : WD} (hw : fU w k i (a, .inr (ci, fs.set f v)) = w') (hdg : decode cc pc = .ok (.putfield index, 3))
    (kk : ∀ (H1 : Heap) (locs1 : List Loc), fI G.2.2.1 A H0 w' H1 locs1 → W p G.1 e R s m args below meth c H1 locs1 cells slots Q (F0 m (pc + 3) ls rest)) : W p G.1 e R s m args below meth c H locs cells slots Q (F0 m pc ls (v :: .ref a :: rest)) := by
  have hap := va_apart (own := own) hts hin ty0 hty hnm hK hc
  obtain ⟨r, h1, cell, q1, q2, q3, q4⟩ := hI.1 k i _ he
  have hr : r = (C, T, N) := Option.some.inj (h1.symm.trans hc)
  subst hr
  obtain ⟨hS, hfc, kC, hkC, hkind⟩ := hK.1 ci _ hc
  obtain ⟨cf, kf, fi, fd, hi, hsl⟩ := hS f hf
  have hlay := hts _ (hin _ (u_in_lay hf))
  unfold u_lay at hlay
  rw [if_pos hfin] at hlay
  have hst := (u_facts hfc hkC (u_lays hts hin hf) hi).1
  have hcf : m.cls = cf := by
    obtain ⟨_, _, c', _, _, _, -, -, hf', -, -, -, hown2, -⟩ := Cond.laysFinal_spec hlay
    have e1 : c' = cf := by have := hi.symm.trans hf'; simp at this; exact this.1.symm
    rw [hdecl] at hown2
    rw [← e1]; exact Option.some.inj (hown.symm.trans hown2)
  have h6 := u_fits hfc hkC hkind (Or.inr hlay) hi (hty f hf) hn hfit
  refine W.putFinK hx hb hown (hts _ hlink) (hsame _ hi) hst hcf hin2 (by rw [q2]; exact h6) q1 q3 (by rw [hsl]; exact k2_hasslot (q4 f hf)) rfl rfl hdg fun H' e1 e2 e3 => ?_
  rw [hsl] at e1 ⊢
  have hI' := hI.set (e := .inr (ci, fs.set f v)) (j := G.2.2.1.2 ci f) he ⟨_, hc, t_OB.to (V := updV (vp_V fs) f v) ⟨_, e1, q2, q3, t_set q4 hap hf v⟩ (fun j _ => vp_updV_set hl v j)⟩ e2 e3
  rw [hw] at hI'
  exact kk H' _ hI'
theorem fx_new (hx : p.tables.exec = Jvm.exec) (hb : c.code = cc) (hts : ∀ w ∈ WL, w.before args s = true) (hown : s.vm.findClass own = some m.cls) (hK : va_K G.2.2.1 vwCl (TYS G.2.2.2) s) (hI : fI G.2.2.1 A H0 w H locs) {C : String} {T : u_T} {N ci index : Nat} (hin : ∀ w ∈ u_ws C T N, w ∈ WL) (hc : vwCl[ci]? = some (C, T, N)) (ty0 : Nat → FieldType) (hty : ∀ k, k < N → parseFieldDescriptor (T k).2.2.1 = some (ty0 k)) (hcl : Cond.classLink own index C ∈ WL) (hinst : Cond.instantiable C N ∈ WL) (hini : Cond.initialized C ∈ WL) {fs : List Value} (hfs : ∀ j, j < N → defaultValue (ty0 j) = vp_V fs j) (hcells : cells + 1 ≤ R.cells) (hslots : slots + N ≤ R.slots) {k i : Nat} (hn : w k i = none) (hdg : decode cc pc = .ok (.new index, 3))
    (kk : ∀ (H1 : Heap), fI G.2.2.1 A H0 (fU w k i (H.size, .inr (ci, fs))) H1 locs → H1.size = H.size + 1 → W p G.1 e R s m args below meth c H1 locs (cells + 1) (slots + N) Q (F0 m (pc + 3) ls (.ref H.size :: rest))) : W p G.1 e R s m args below meth c H locs cells slots Q (F0 m pc ls rest) := by
  have hKn := hK.1 ci _ hc
  refine W.newcK hx hb hown (hts _ hcl) (hts _ hinst) (hts _ hini) rfl hdg hcells hslots hKn.2.1 rfl fun H1 kC hkC e1 z1 o1 => ?_
  exact kk H1 (hI.push hn ⟨_, hc, (u_born ty0 hts hin hKn hkC e1 hty).to hfs⟩ z1 o1) z1
theorem fx_iald (hx : p.tables.exec = Jvm.exec) (hb : c.code = cc) (hK : va_K G.2.2.1 vwCl (TYS G.2.2.2) s) (hI : fI G.2.2.1 A H0 w H locs) {k j a n : Nat} {f : Nat → Int32} (he : w k j = some (a, .inl (G.2.2.2 0, n, .inl f))) {i : Int32} (hin : vp_in i n) (hdg : decode cc pc = .ok (.iaload, 1))
    (kk : W p G.1 e R s m args below meth c H locs cells slots Q (F0 m (pc + 1) ls (.int (f i.toNatClampNeg) :: rest))) : W p G.1 e R s m args below meth c H locs cells slots Q (F0 m pc ls (.int i :: .ref a :: rest)) := by
  have hlt : i.toNatClampNeg < n := Nat.not_le.mp fun q => hin (Or.inr q)
  exact W.iald (v := .int (f i.toNatClampNeg)) hx hb (hI.1 k j _ he) ((hK.2 0 _ rfl).1 n (fun j => .int (f j))) (fun q => by cases q) (by show ¬ (i < 0 ∨ (arrV _ _ _).slots.size ≤ _); rw [arrV_size]; exact hin) (by show (arrV _ _ _).slots[_]? = _; rw [arrV_read _ _ hlt]) rfl rfl hdg kk
theorem fx_zald (hx : p.tables.exec = Jvm.exec) (hb : c.code = cc) (hK : va_K G.2.2.1 vwCl (TYS G.2.2.2) s) (hI : fI G.2.2.1 A H0 w H locs) {k j a n : Nat} {f : Nat → Int32} (he : w k j = some (a, .inl (G.2.2.2 2, n, .inl f))) {i : Int32} (hin : vp_in i n) (hdg : decode cc pc = .ok (.baload, 1))
    (kk : W p G.1 e R s m args below meth c H locs cells slots Q (F0 m (pc + 1) ls (.int (f i.toNatClampNeg) :: rest))) : W p G.1 e R s m args below meth c H locs cells slots Q (F0 m pc ls (.int i :: .ref a :: rest)) := by
  have hlt : i.toNatClampNeg < n := Nat.not_le.mp fun q => hin (Or.inr q)
  exact W.zald (v := .int (f i.toNatClampNeg)) hx hb (hI.1 k j _ he) ((hK.2 2 _ rfl).1 n (fun j => .int (f j))) (fun q => by cases q) (by show ¬ (i < 0 ∨ (arrV _ _ _).slots.size ≤ _); rw [arrV_size]; exact hin) (by show (arrV _ _ _).slots[_]? = _; rw [arrV_read _ _ hlt]) rfl rfl hdg kk
theorem fx_dald (hx : p.tables.exec = Jvm.exec) (hb : c.code = cc) (hK : va_K G.2.2.1 vwCl (TYS G.2.2.2) s) (hI : fI G.2.2.1 A H0 w H locs) {k j a n : Nat} {f : Nat → UInt64} (he : w k j = some (a, .inl (G.2.2.2 1, n, .inr (.inr (.inr (.inl f)))))) {i : Int32} (hin : vp_in i n) (hdg : decode cc pc = .ok (.daload, 1))
    (kk : W p G.1 e R s m args below meth c H locs cells slots Q (F0 m (pc + 1) ls (.double (f i.toNatClampNeg) :: rest))) : W p G.1 e R s m args below meth c H locs cells slots Q (F0 m pc ls (.int i :: .ref a :: rest)) := by
  have hlt : i.toNatClampNeg < n := Nat.not_le.mp fun q => hin (Or.inr q)
  exact W.dald (v := .double (f i.toNatClampNeg)) hx hb (hI.1 k j _ he) ((hK.2 1 _ rfl).1 n (fun j => .double (f j))) (fun q => by cases q) (by show ¬ (i < 0 ∨ (arrV _ _ _).slots.size ≤ _); rw [arrV_size]; exact hin) (by show (arrV _ _ _).slots[_]? = _; rw [arrV_read _ _ hlt]) rfl rfl hdg kk
theorem fx_lald (hx : p.tables.exec = Jvm.exec) (hb : c.code = cc) (hK : va_K G.2.2.1 vwCl (TYS G.2.2.2) s) (hI : fI G.2.2.1 A H0 w H locs) {k j a n : Nat} {f : Nat → Int64} (he : w k j = some (a, .inl (G.2.2.2 3, n, .inr (.inl f)))) {i : Int32} (hin : vp_in i n) (hdg : decode cc pc = .ok (.laload, 1))
    (kk : W p G.1 e R s m args below meth c H locs cells slots Q (F0 m (pc + 1) ls (.long (f i.toNatClampNeg) :: rest))) : W p G.1 e R s m args below meth c H locs cells slots Q (F0 m pc ls (.int i :: .ref a :: rest)) := by
  have hlt : i.toNatClampNeg < n := Nat.not_le.mp fun q => hin (Or.inr q)
  exact W.lald (v := .long (f i.toNatClampNeg)) hx hb (hI.1 k j _ he) ((hK.2 3 _ rfl).1 n (fun j => .long (f j))) (fun q => by cases q) (by show ¬ (i < 0 ∨ (arrV _ _ _).slots.size ≤ _); rw [arrV_size]; exact hin) (by show (arrV _ _ _).slots[_]? = _; rw [arrV_read _ _ hlt]) rfl rfl hdg kk
theorem fx_iast (hx : p.tables.exec = Jvm.exec) (hb : c.code = cc) (hK : va_K G.2.2.1 vwCl (TYS G.2.2.2) s) (hI : fI G.2.2.1 A H0 w H locs) {k j a n : Nat} {f : Nat → Int32} (he : w k j = some (a, .inl (G.2.2.2 0, n, .inl f))) {i x : Int32} (hin : vp_in i n) {w' : WD} (hw : fU w k j (a, .inl (G.2.2.2 0, n, .inl (upd f i.toNatClampNeg x))) = w') (hdg : decode cc pc = .ok (.iastore, 1))
    (kk : ∀ (H1 : Heap) (locs1 : List Loc), fI G.2.2.1 A H0 w' H1 locs1 → W p G.1 e R s m args below meth c H1 locs1 cells slots Q (F0 m (pc + 1) ls rest)) : W p G.1 e R s m args below meth c H locs cells slots Q (F0 m pc ls (.int x :: .int i :: .ref a :: rest)) := by
  refine W.iast hx hb (hI.1 k j _ he) ((hK.2 0 _ rfl).1 n (fun j => .int (f j))) (fun q => by cases q) (by show ¬ (i < 0 ∨ (arrV _ _ _).slots.size ≤ _); rw [arrV_size]; exact hin) rfl rfl hdg fun H1 e z oq => ?_
  have hI' := hI.set (e := .inl (G.2.2.2 0, n, .inl (upd f i.toNatClampNeg x))) (j := i.toNatClampNeg) he (by
    show H1[a]? = some (vp_cell _ _)
    rw [e]
    rw [vp_cell_i, vp_cell_i, arrV_store]
    congr 2
    funext q
    by_cases hq : q = i.toNatClampNeg
    · subst hq
      simp [updV, upd]
    · simp [updV, upd, hq]) z oq
  rw [hw] at hI'
  exact kk H1 _ hI'
theorem fx_zast (hx : p.tables.exec = Jvm.exec) (hb : c.code = cc) (hK : va_K G.2.2.1 vwCl (TYS G.2.2.2) s) (hI : fI G.2.2.1 A H0 w H locs) {k j a n : Nat} {f : Nat → Int32} (he : w k j = some (a, .inl (G.2.2.2 2, n, .inl f))) {i x : Int32} (hin : vp_in i n) (hnx : vp_nar .boolean x = x) {w' : WD} (hw : fU w k j (a, .inl (G.2.2.2 2, n, .inl (upd f i.toNatClampNeg x))) = w') (hdg : decode cc pc = .ok (.bastore, 1))
    (kk : ∀ (H1 : Heap) (locs1 : List Loc), fI G.2.2.1 A H0 w' H1 locs1 → W p G.1 e R s m args below meth c H1 locs1 cells slots Q (F0 m (pc + 1) ls rest)) : W p G.1 e R s m args below meth c H locs cells slots Q (F0 m pc ls (.int x :: .int i :: .ref a :: rest)) := by
  refine W.zast hx hb (hI.1 k j _ he) ((hK.2 2 _ rfl).1 n (fun j => .int (f j))) (fun q => by cases q) (by show ¬ (i < 0 ∨ (arrV _ _ _).slots.size ≤ _); rw [arrV_size]; exact hin) rfl rfl hdg fun H1 e z oq => ?_
  have hI' := hI.set (e := .inl (G.2.2.2 2, n, .inl (upd f i.toNatClampNeg (vp_nar .boolean x)))) (j := i.toNatClampNeg) he (by
    show H1[a]? = some (vp_cell _ _)
    rw [e]
    rw [vp_cell_i, vp_cell_i, arrV_store]
    congr 2
    funext q
    by_cases hq : q = i.toNatClampNeg
    · subst hq
      simp [updV, upd, vp_nar]
      try rfl
    · simp [updV, upd, hq]) z oq
  rw [hnx, hw] at hI'
  exact kk H1 _ hI'
theorem fx_last (hx : p.tables.exec = Jvm.exec) (hb : c.code = cc) (hK : va_K G.2.2.1 vwCl (TYS G.2.2.2) s) (hI : fI G.2.2.1 A H0 w H locs) {k j a n : Nat} {f : Nat → Int64} (he : w k j = some (a, .inl (G.2.2.2 3, n, .inr (.inl f)))) {i : Int32} {x : Int64} (hin : vp_in i n) {w' : WD} (hw : fU w k j (a, .inl (G.2.2.2 3, n, .inr (.inl (vp_updL f i.toNatClampNeg x)))) = w') (hdg : decode cc pc = .ok (.lastore, 1))
    (kk : ∀ (H1 : Heap) (locs1 : List Loc), fI G.2.2.1 A H0 w' H1 locs1 → W p G.1 e R s m args below meth c H1 locs1 cells slots Q (F0 m (pc + 1) ls rest)) : W p G.1 e R s m args below meth c H locs cells slots Q (F0 m pc ls (.long x :: .int i :: .ref a :: rest)) := by
  refine W.last hx hb (hI.1 k j _ he) ((hK.2 3 _ rfl).1 n (fun j => .long (f j))) (fun q => by cases q) (by show ¬ (i < 0 ∨ (arrV _ _ _).slots.size ≤ _); rw [arrV_size]; exact hin) rfl rfl hdg fun H1 e z oq => ?_
  have hI' := hI.set (e := .inl (G.2.2.2 3, n, .inr (.inl (vp_updL f i.toNatClampNeg x)))) (j := i.toNatClampNeg) he (by
    show H1[a]? = some (vp_cell _ _)
    rw [e]
    rw [vp_cell_l, vp_cell_l, arrV_store]
    congr 2
    funext q
    by_cases hq : q = i.toNatClampNeg
    · subst hq
      simp [updV, vp_updL]
    · simp [updV, vp_updL, hq]) z oq
  rw [hw] at hI'
  exact kk H1 _ hI'
theorem fx_dast (hx : p.tables.exec = Jvm.exec) (hb : c.code = cc) (hK : va_K G.2.2.1 vwCl (TYS G.2.2.2) s) (hI : fI G.2.2.1 A H0 w H locs) {k j a n : Nat} {f : Nat → UInt64} (he : w k j = some (a, .inl (G.2.2.2 1, n, .inr (.inr (.inr (.inl f)))))) {i : Int32} {x : UInt64} (hin : vp_in i n) {w' : WD} (hw : fU w k j (a, .inl (G.2.2.2 1, n, .inr (.inr (.inr (.inl (vf_upd f i.toNatClampNeg x)))))) = w') (hdg : decode cc pc = .ok (.dastore, 1))
    (kk : ∀ (H1 : Heap) (locs1 : List Loc), fI G.2.2.1 A H0 w' H1 locs1 → W p G.1 e R s m args below meth c H1 locs1 cells slots Q (F0 m (pc + 1) ls rest)) : W p G.1 e R s m args below meth c H locs cells slots Q (F0 m pc ls (.double x :: .int i :: .ref a :: rest)) := by
  refine W.dast hx hb (hI.1 k j _ he) ((hK.2 1 _ rfl).1 n (fun j => .double (f j))) (fun q => by cases q) (by show ¬ (i < 0 ∨ (arrV _ _ _).slots.size ≤ _); rw [arrV_size]; exact hin) rfl rfl hdg fun H1 e z oq => ?_
  have hI' := hI.set (e := .inl (G.2.2.2 1, n, .inr (.inr (.inr (.inl (vf_upd f i.toNatClampNeg x)))))) (j := i.toNatClampNeg) he (by
    show H1[a]? = some (vp_cell _ _)
    rw [e]
    rw [vp_cell_d, vp_cell_d, arrV_store]
    congr 2
    funext q
    by_cases hq : q = i.toNatClampNeg
    · subst hq
      simp [updV, vf_upd]
    · simp [updV, vf_upd, hq]) z oq
  rw [hw] at hI'
  exact kk H1 _ hI'
end FXR
end
section
/-! ===== calls and ends over worlds that are functions ===== -/
section FXC
variable {p : Program} {e : Env} {R : Room} {s : State} {m : MethodId} {args : Array Value} {below : List Frame} {meth : Method} {c : Code} {H : Heap} {locs : List Loc} {cells slots : Nat} {Q : State → Prop}
variable {cc : ByteArray} {pc : Nat} {ls : Array Slot} {rest st0 : List Value} {G : GX} {A : Nat → Prop} {w w0 w1 : WD} {own : String} {nL mc ms : Nat} {a : Array Value} {po : Option Value → WD → Prop} {pX : String → WD → Prop} {vv : Value} {thr : Option String}
theorem fx_recv {b k i ci : Nat} {fs : List Value} {q : vw_C} (hK : va_K G.2.2.1 vwCl (TYS G.2.2.2) s) (hP : fP G.2.2.1 w H) (he : w k i = some (b, .inr (ci, fs))) (hc : vwCl[ci]? = some q) : ∃ cell : Cell, H[b]? = some cell ∧ cell.vm.isStatics = false ∧ s.vm.findClass q.1 = some cell.cls := by
  obtain ⟨q', h1, cell, g1, g2, g3, -⟩ := hP k i _ he
  exact ⟨cell, g1, by rw [g3]; rfl, by rw [g2]; exact (hK.1 ci q hc).2.1⟩
theorem fx_kk (hr : va_Run p G.1 e R s m args below meth c H locs cells slots mc ms (F0 m pc ls st0) rest (FQ G w H.size po a) (fA w H.size)) (hI : fI G.2.2.1 A s.heap w H locs)
    (k : ∀ (v : Option Value) (w' : WD) (H1 : Heap) (locs1 : List Loc), po v w' → fI G.2.2.1 A s.heap w' H1 locs1 → W p G.1 e R s m args below meth c H1 locs1 (cells + mc) (slots + ms) Q (F0 m (pc + 3) ls (v.toList ++ rest))) : W p G.1 e R s m args below meth c H locs cells slots Q (F0 m pc ls st0) := by
  intro T hT X
  obtain ⟨v, st₀, t, T', L, h0, X', hL, e1, e2, ⟨⟨v', w', hv, hp, hPw, hDw⟩, hF⟩, st⟩ := hr T hT X
  cases hv
  obtain ⟨hz, hk, hS⟩ := vx_keep h0 e1 hI.2.2.1 (fun q _ h => hI.free q h) hI.free hL hF
  obtain ⟨t2, a1, b1⟩ := k v w' T'.heap (locs ++ L) hp ⟨by rw [e1]; exact hPw, hDw.weaken hI.free, hS, hI.2.2.2⟩ T' rfl X'
  exact ⟨t2, st t2 a1, b1⟩
theorem fx_kk5 (hr : va_Run5 p G.1 e R s m args below meth c H locs cells slots mc ms (F0 m pc ls st0) rest (FQ G w H.size po a) (fA w H.size)) (hI : fI G.2.2.1 A s.heap w H locs)
    (k : ∀ (v : Option Value) (w' : WD) (H1 : Heap) (locs1 : List Loc), po v w' → fI G.2.2.1 A s.heap w' H1 locs1 → W p G.1 e R s m args below meth c H1 locs1 (cells + mc) (slots + ms) Q (F0 m (pc + 5) ls (v.toList ++ rest))) : W p G.1 e R s m args below meth c H locs cells slots Q (F0 m pc ls st0) := by
  intro T hT X
  obtain ⟨v, st₀, t, T', L, h0, X', hL, e1, e2, ⟨⟨v', w', hv, hp, hPw, hDw⟩, hF⟩, st⟩ := hr T hT X
  cases hv
  obtain ⟨hz, hk, hS⟩ := vx_keep h0 e1 hI.2.2.1 (fun q _ h => hI.free q h) hI.free hL hF
  obtain ⟨t2, a1, b1⟩ := k v w' T'.heap (locs ++ L) hp ⟨by rw [e1]; exact hPw, hDw.weaken hI.free, hS, hI.2.2.2⟩ T' rfl X'
  exact ⟨t2, st t2 a1, b1⟩
theorem fx_xkk (hr : vx_Run p G.1 e R s m args below meth c H locs cells slots mc ms (F0 m pc ls st0) rest (FQ G w H.size po a) (FXq G w H.size pX) (fA w H.size)) (hI : fI G.2.2.1 A s.heap w H locs)
    (kx : ∀ (E : String) (ce : Cell) (q9 : Addr) (w' : WD) (H1 : Heap) (locs1 : List Loc), pX E w' → fI G.2.2.1 A s.heap w' H1 locs1 → H1[q9]? = some ce → ce.vm = .none → s.vm.findClass E = some ce.cls → vx_W p G.1 e R s m args below meth c H1 locs1 (cells + mc) (slots + ms) Q (F0 m pc ls rest) q9)
    (k : ∀ (v : Option Value) (w' : WD) (H1 : Heap) (locs1 : List Loc), po v w' → fI G.2.2.1 A s.heap w' H1 locs1 → W p G.1 e R s m args below meth c H1 locs1 (cells + mc) (slots + ms) Q (F0 m (pc + 3) ls (v.toList ++ rest))) : W p G.1 e R s m args below meth c H locs cells slots Q (F0 m pc ls st0) := by
  intro T hT X
  rcases hr T hT X with ⟨v, st₀, t, T', L, h0, X', hL, e1, e2, ⟨⟨v', w', hv, hp, hPw, hDw⟩, hF⟩, st⟩ | ⟨q, st₀, t, T', L, E, ce, h0, X', hL, e1, e2, ⟨⟨w', hp, hPw, hDw⟩, hF⟩, hce, hcv, hcl, st⟩
  · cases hv
    obtain ⟨hz, hk, hS⟩ := vx_keep h0 e1 hI.2.2.1 (fun q _ h => hI.free q h) hI.free hL hF
    obtain ⟨t2, a1, b1⟩ := k v w' T'.heap (locs ++ L) hp ⟨by rw [e1]; exact hPw, hDw.weaken hI.free, hS, hI.2.2.2⟩ T' rfl X'
    exact ⟨t2, st t2 a1, b1⟩
  · obtain ⟨hz, hk, hS⟩ := vx_keep h0 e1 hI.2.2.1 (fun q _ h => hI.free q h) hI.free hL hF
    obtain ⟨t2, a1, b1⟩ := kx E ce q w' T'.heap (locs ++ L) hp ⟨by rw [e1]; exact hPw, hDw.weaken hI.free, hS, hI.2.2.2⟩ (by rw [e1]; exact hce) hcv hcl T' rfl X'
    exact ⟨t2, st.trans a1, b1⟩
theorem CkV.good {y : MethodName} {cc' : ByteArray} {nL' index n : Nat} {ret' : Option FieldType} (hk : CkV own index y cc' nL' ret' n) : GoodIn WL (wsV own index y.cls y (Cond.code y cc' nL' ret' :: WL)) := by
  obtain ⟨h1, h2, h3, h4, h5, -⟩ := hk
  intro x hx
  have key : x ∈ WL := by
    unfold wsV at hx
    rcases List.mem_append.mp hx with hx | hx
    · simp only [List.mem_cons, List.not_mem_nil, or_false] at hx
      rcases hx with rfl | rfl | rfl | rfl
      · exact h2
      · exact h3
      · exact h4
      · exact h5
    · rcases List.mem_cons.mp hx with rfl | hx
      · exact h1
      · exact hx
  exact ⟨key, good_of_word (WL_good key)⟩
theorem fx_cwV {y : MethodName} {cc' : ByteArray} {nL' index n : Nat} {ret' : Option FieldType} {rm : Room} (hts : ∀ w ∈ WL, w.before args s = true) (hk : CkV own index y cc' nL' ret' n) (hR : rm.frames + 1 ≤ R.frames ∧ 8 + (nL' + 11) + rm.locals ≤ R.locals) : CallW R s args own y.cls index y cc' nL' ret' (Cond.code y cc' nL' ret' :: WL) rm rm.cells rm.slots n :=
  cwV n hts hk.good rfl rfl rfl ⟨rfl, hk.2.2.2.2.2⟩ hR
theorem fx_cwS {y : MethodName} {cc' : ByteArray} {nL' index n : Nat} {ret' : Option FieldType} {rm : Room} (hts : ∀ w ∈ WL, w.before args s = true) (hk : CkS own index y cc' nL' ret' n) (hR : rm.frames + 1 ≤ R.frames ∧ 8 + (nL' + 11) + rm.locals ≤ R.locals) : CallB R s args own index y cc' nL' ret' (Cond.code y cc' nL' ret' :: WL) rm rm.cells rm.slots n ∧ (Cond.static y).before args s = true :=
  ⟨callB_of n hts (WL_in0 hk.1) rfl rfl rfl (hts _ hk.2.2.2.1) (hts _ hk.2.1) hk.2.2.2.2 hR, hts _ hk.2.2.1⟩
theorem fx_cwI {y : MethodName} {cc' : ByteArray} {nL' index n : Nat} {rm : Room} (hts : ∀ w ∈ WL, w.before args s = true) (hk : CkI own index y cc' nL' n) (hR : rm.frames + 1 ≤ R.frames ∧ 8 + (nL' + 11) + rm.locals ≤ R.locals) : CallB R s args own index y cc' nL' none (Cond.code y cc' nL' none :: WL) rm rm.cells rm.slots n ∧ y.name = "<init>" ∧ (Cond.instanceMethod y).before args s = true :=
  ⟨callB_of n hts (WL_in0 hk.1) rfl rfl rfl (hts _ hk.2.2.2.1) (hts _ hk.2.1) hk.2.2.2.2.2 hR, hk.2.2.2.2.1, hts _ hk.2.2.1⟩
theorem CkF.good {x y : MethodName} {cc' : ByteArray} {nL' index n : Nat} {ret' : Option FieldType} (hk : CkF own index x y cc' nL' ret' n) : GoodIn WL (va_wsF own index y.cls x y (Cond.code y cc' nL' ret' :: WL)) := by
  obtain ⟨h1, h2, h3, h4, h5, -⟩ := hk
  intro x hx
  have key : x ∈ WL := by
    unfold va_wsF at hx
    rcases List.mem_append.mp hx with hx | hx
    · simp only [List.mem_cons, List.not_mem_nil, or_false] at hx
      rcases hx with rfl | rfl | rfl | rfl
      · exact h2
      · exact h3
      · exact h4
      · exact h5
    · rcases List.mem_cons.mp hx with rfl | hx
      · exact h1
      · exact hx
  exact ⟨key, good_of_word (WL_good key)⟩
theorem fx_cwF {x y : MethodName} {cc' : ByteArray} {nL' index n : Nat} {ret' : Option FieldType} {rm : Room} (hts : ∀ w ∈ WL, w.before args s = true) (hX : ∀ w ∈ XL, w.before #[] s = true) (hk : CkF own index x y cc' nL' ret' n) (hR : rm.frames + 1 ≤ R.frames ∧ 8 + (nL' + 11) + rm.locals ≤ R.locals) : va_CI R s args own y.cls index x y cc' nL' ret' (Cond.code y cc' nL' ret' :: WL) rm rm.cells rm.slots n := by
  obtain ⟨-, -, -, -, -, ⟨f1, f2, f3, f4, f5⟩, hd⟩ := id hk
  exact va_cwF n hts hk.good rfl rfl rfl ⟨hX _ f1, hX _ f2, hX _ f3, hX _ f4, hX _ f5⟩ hd hR
/-! calls -/
theorem fx_callV {y : MethodName} {cc' : ByteArray} {nL' index : Nat} {ret' : Option FieldType} {rm : Room} {as : List Value} {b : Nat} (hx : p.tables.exec = Jvm.exec) (hb : c.code = cc) (hml : c.maxLocals = nL) (hts : ∀ w ∈ WL, w.before args s = true) (hown : s.vm.findClass own = some m.cls) (hK : va_K G.2.2.1 vwCl (TYS G.2.2.2) s) (hE : EV G.2.1 A s s.heap) (hI : fI G.2.2.1 A s.heap w H locs) (hC : FC G y cc' nL' ret' rm (.ref b :: as) w po) (hk : CkV own index y cc' nL' ret' as.length) (hR : rm.frames + 1 ≤ R.frames ∧ 8 + (nL' + 11) + rm.locals ≤ R.locals) {kk ii ci : Nat} {fs : List Value} {q : vw_C} (he : w kk ii = some (b, .inr (ci, fs))) (hc : vwCl[ci]? = some q) (hq : q.1 = y.cls) (hsize : ls.size = nL) (hroom : (rest.map fun v => v.category).sum ≤ 8) (hdg : decode cc pc = .ok (.invokevirtual index, 3)) (hf : cells + rm.cells ≤ R.cells ∧ slots + rm.slots ≤ R.slots)
    (k : ∀ (v : Option Value) (w' : WD) (H1 : Heap) (locs1 : List Loc), po v w' → fI G.2.2.1 A s.heap w' H1 locs1 → W p G.1 e R s m args below meth c H1 locs1 (cells + rm.cells) (slots + rm.slots) Q (F0 m (pc + 3) ls (v.toList ++ rest))) : W p G.1 e R s m args below meth c H locs cells slots Q (F0 m pc ls (as.reverse ++ .ref b :: rest)) := by
  have hrecv := fx_recv hK hI.1 he hc
  rw [hq] at hrecv
  exact fx_kk (va_runV (As := as) (rest := rest) ⟨hx, hb, hml, hown, hts⟩ (hC H.size) (fx_cwV hts hk hR) ⟨FPre.blind, hrecv, fun U hU hW => FPre.go hK hE hI hU hW⟩ rfl rfl hsize rfl (lv_room hroom) hdg hf) hI k
theorem fx_callS {y : MethodName} {cc' : ByteArray} {nL' index : Nat} {ret' : Option FieldType} {rm : Room} {as : List Value} (hx : p.tables.exec = Jvm.exec) (hb : c.code = cc) (hml : c.maxLocals = nL) (hts : ∀ w ∈ WL, w.before args s = true) (hown : s.vm.findClass own = some m.cls) (hK : va_K G.2.2.1 vwCl (TYS G.2.2.2) s) (hE : EV G.2.1 A s s.heap) (hI : fI G.2.2.1 A s.heap w H locs) (hC : FC G y cc' nL' ret' rm as w po) (hk : CkS own index y cc' nL' ret' as.length) (hR : rm.frames + 1 ≤ R.frames ∧ 8 + (nL' + 11) + rm.locals ≤ R.locals) (hsize : ls.size = nL) (hroom : (rest.map fun v => v.category).sum ≤ 8) (hdg : decode cc pc = .ok (.invokestatic index, 3)) (hf : cells + rm.cells ≤ R.cells ∧ slots + rm.slots ≤ R.slots)
    (k : ∀ (v : Option Value) (w' : WD) (H1 : Heap) (locs1 : List Loc), po v w' → fI G.2.2.1 A s.heap w' H1 locs1 → W p G.1 e R s m args below meth c H1 locs1 (cells + rm.cells) (slots + rm.slots) Q (F0 m (pc + 3) ls (v.toList ++ rest))) : W p G.1 e R s m args below meth c H locs cells slots Q (F0 m pc ls (as.reverse ++ rest)) :=
  fx_kk (va_runS (As := as) (rest := rest) ⟨hx, hb, hml, hown, hts⟩ (hC H.size) (fx_cwS hts hk hR) ⟨FPre.blind, fun U hU hW => FPre.go hK hE hI hU hW⟩ rfl rfl hsize rfl (lv_room hroom) hdg hf) hI k
theorem fx_callI {y : MethodName} {cc' : ByteArray} {nL' index : Nat} {rm : Room} {as : List Value} {b : Nat} (hx : p.tables.exec = Jvm.exec) (hb : c.code = cc) (hml : c.maxLocals = nL) (hts : ∀ w ∈ WL, w.before args s = true) (hown : s.vm.findClass own = some m.cls) (hK : va_K G.2.2.1 vwCl (TYS G.2.2.2) s) (hE : EV G.2.1 A s s.heap) (hI : fI G.2.2.1 A s.heap w H locs) (hC : FC G y cc' nL' none rm (.ref b :: as) w po) (hk : CkI own index y cc' nL' as.length) (hR : rm.frames + 1 ≤ R.frames ∧ 8 + (nL' + 11) + rm.locals ≤ R.locals) (hsize : ls.size = nL) (hroom : (rest.map fun v => v.category).sum ≤ 8) (hdg : decode cc pc = .ok (.invokespecial index, 3)) (hf : cells + rm.cells ≤ R.cells ∧ slots + rm.slots ≤ R.slots)
    (k : ∀ (v : Option Value) (w' : WD) (H1 : Heap) (locs1 : List Loc), po v w' → fI G.2.2.1 A s.heap w' H1 locs1 → W p G.1 e R s m args below meth c H1 locs1 (cells + rm.cells) (slots + rm.slots) Q (F0 m (pc + 3) ls (v.toList ++ rest))) : W p G.1 e R s m args below meth c H locs cells slots Q (F0 m pc ls (as.reverse ++ .ref b :: rest)) :=
  fx_kk (va_runI (As := as) (rest := rest) ⟨hx, hb, hml, hown, hts⟩ (hC H.size) (fx_cwI hts hk hR) ⟨FPre.blind, fun U hU hW => FPre.go hK hE hI hU hW⟩ rfl rfl hsize rfl (lv_room hroom) hdg hf) hI k
theorem fx_callF {x y : MethodName} {cc' : ByteArray} {nL' index count : Nat} {ret' : Option FieldType} {rm : Room} {as : List Value} {b : Nat} (hx : p.tables.exec = Jvm.exec) (hb : c.code = cc) (hml : c.maxLocals = nL) (hts : ∀ w ∈ WL, w.before args s = true) (hown : s.vm.findClass own = some m.cls) (hK : va_K G.2.2.1 vwCl (TYS G.2.2.2) s) (hE : EV G.2.1 A s s.heap) (hI : fI G.2.2.1 A s.heap w H locs) (hC : FC G y cc' nL' ret' rm (.ref b :: as) w po) (hk : CkF own index x y cc' nL' ret' as.length) (hR : rm.frames + 1 ≤ R.frames ∧ 8 + (nL' + 11) + rm.locals ≤ R.locals) {kk ii ci : Nat} {fs : List Value} {q : vw_C} (he : w kk ii = some (b, .inr (ci, fs))) (hc : vwCl[ci]? = some q) (hq : q.1 = y.cls) (hsize : ls.size = nL) (hroom : (rest.map fun v => v.category).sum ≤ 8) (hdg : decode cc pc = .ok (.invokeinterface index count, 5)) (hf : cells + rm.cells ≤ R.cells ∧ slots + rm.slots ≤ R.slots)
    (k : ∀ (v : Option Value) (w' : WD) (H1 : Heap) (locs1 : List Loc), po v w' → fI G.2.2.1 A s.heap w' H1 locs1 → W p G.1 e R s m args below meth c H1 locs1 (cells + rm.cells) (slots + rm.slots) Q (F0 m (pc + 5) ls (v.toList ++ rest))) : W p G.1 e R s m args below meth c H locs cells slots Q (F0 m pc ls (as.reverse ++ .ref b :: rest)) := by
  have hrecv := fx_recv hK hI.1 he hc
  have hat : ClassAt s q.1 (G.2.2.1.1 ci) := (hK.1 ci q hc).2
  rw [hq] at hrecv hat
  exact fx_kk5 (va_runF (As := as) (rest := rest) hat ⟨hx, hb, hml, hown, hts⟩ (hC H.size) (fx_cwF hts hE.1 hk hR) ⟨FPre.blind, hrecv, fun U hU hW => FPre.go hK hE hI hU hW⟩ rfl rfl hsize rfl (lv_room hroom) hdg hf) hI k
theorem fx_xcallV {y : MethodName} {cc' : ByteArray} {nL' index : Nat} {ret' : Option FieldType} {rm : Room} {as : List Value} {b : Nat} (hx : p.tables.exec = Jvm.exec) (hb : c.code = cc) (hml : c.maxLocals = nL) (hts : ∀ w ∈ WL, w.before args s = true) (hown : s.vm.findClass own = some m.cls) (hK : va_K G.2.2.1 vwCl (TYS G.2.2.2) s) (hE : EV G.2.1 A s s.heap) (hI : fI G.2.2.1 A s.heap w H locs) (hC : FX G y cc' nL' ret' rm (.ref b :: as) w po pX) (hk : CkV own index y cc' nL' ret' as.length) (hR : rm.frames + 1 ≤ R.frames ∧ 8 + (nL' + 11) + rm.locals ≤ R.locals) {kk ii ci : Nat} {fs : List Value} {q : vw_C} (he : w kk ii = some (b, .inr (ci, fs))) (hc : vwCl[ci]? = some q) (hq : q.1 = y.cls) (hsize : ls.size = nL) (hroom : (rest.map fun v => v.category).sum ≤ 8) (hdg : decode cc pc = .ok (.invokevirtual index, 3)) (hf : cells + rm.cells ≤ R.cells ∧ slots + rm.slots ≤ R.slots)
    (kx : ∀ (E : String) (ce : Cell) (q9 : Addr) (w' : WD) (H1 : Heap) (locs1 : List Loc), pX E w' → fI G.2.2.1 A s.heap w' H1 locs1 → H1[q9]? = some ce → ce.vm = .none → s.vm.findClass E = some ce.cls → vx_W p G.1 e R s m args below meth c H1 locs1 (cells + rm.cells) (slots + rm.slots) Q (F0 m pc ls rest) q9)
    (k : ∀ (v : Option Value) (w' : WD) (H1 : Heap) (locs1 : List Loc), po v w' → fI G.2.2.1 A s.heap w' H1 locs1 → W p G.1 e R s m args below meth c H1 locs1 (cells + rm.cells) (slots + rm.slots) Q (F0 m (pc + 3) ls (v.toList ++ rest))) : W p G.1 e R s m args below meth c H locs cells slots Q (F0 m pc ls (as.reverse ++ .ref b :: rest)) := by
  have hrecv := fx_recv hK hI.1 he hc
  rw [hq] at hrecv
  exact fx_xkk (vx_runV (As := as) (rest := rest) ⟨hx, hb, hml, hown, hts⟩ (hC H.size) (fx_cwV hts hk hR) ⟨FPre.blind, hrecv, fun U hU hW => FPre.go hK hE hI hU hW⟩ rfl rfl hsize rfl (lv_room hroom) hdg hf) hI kx k
theorem fx_xcallS {y : MethodName} {cc' : ByteArray} {nL' index : Nat} {ret' : Option FieldType} {rm : Room} {as : List Value} (hx : p.tables.exec = Jvm.exec) (hb : c.code = cc) (hml : c.maxLocals = nL) (hts : ∀ w ∈ WL, w.before args s = true) (hown : s.vm.findClass own = some m.cls) (hK : va_K G.2.2.1 vwCl (TYS G.2.2.2) s) (hE : EV G.2.1 A s s.heap) (hI : fI G.2.2.1 A s.heap w H locs) (hC : FX G y cc' nL' ret' rm as w po pX) (hk : CkS own index y cc' nL' ret' as.length) (hR : rm.frames + 1 ≤ R.frames ∧ 8 + (nL' + 11) + rm.locals ≤ R.locals) (hsize : ls.size = nL) (hroom : (rest.map fun v => v.category).sum ≤ 8) (hdg : decode cc pc = .ok (.invokestatic index, 3)) (hf : cells + rm.cells ≤ R.cells ∧ slots + rm.slots ≤ R.slots)
    (kx : ∀ (E : String) (ce : Cell) (q9 : Addr) (w' : WD) (H1 : Heap) (locs1 : List Loc), pX E w' → fI G.2.2.1 A s.heap w' H1 locs1 → H1[q9]? = some ce → ce.vm = .none → s.vm.findClass E = some ce.cls → vx_W p G.1 e R s m args below meth c H1 locs1 (cells + rm.cells) (slots + rm.slots) Q (F0 m pc ls rest) q9)
    (k : ∀ (v : Option Value) (w' : WD) (H1 : Heap) (locs1 : List Loc), po v w' → fI G.2.2.1 A s.heap w' H1 locs1 → W p G.1 e R s m args below meth c H1 locs1 (cells + rm.cells) (slots + rm.slots) Q (F0 m (pc + 3) ls (v.toList ++ rest))) : W p G.1 e R s m args below meth c H locs cells slots Q (F0 m pc ls (as.reverse ++ rest)) :=
  fx_xkk (vx_runS (As := as) (rest := rest) ⟨hx, hb, hml, hown, hts⟩ (hC H.size) (fx_cwS hts hk hR) ⟨FPre.blind, fun U hU hW => FPre.go hK hE hI hU hW⟩ rfl rfl hsize rfl (lv_room hroom) hdg hf) hI kx k
/-! ends -/
theorem fx_iret (hx : p.tables.exec = Jvm.exec) (hb : c.code = cc) (hr : meth.sig.returnType = some .int) (hlocks : meth.locks = false) {v : Int32} (hp : po (some (.int v)) w) (hI : fI G.2.2.1 A s.heap w H locs) (hA : A = fA w0 s.heap.size) (hc : cells ≤ mc) (hs : slots ≤ ms) (hdg : decode cc pc = .ok (.ireturn, 1)) : W p G.1 e R s m args below meth c H locs cells slots (MQ below (FQ G w0 s.heap.size po) args s mc ms (fA w0 s.heap.size)) (F0 m pc ls [.int v]) := by
  subst hA
  refine W.widen (k := mc) (n := ms) hc hs ?_
  exact W.iret hx hb hr (fun t ht hW => ⟨⟨_, w, rfl, hp, by rw [ht]; exact hI.1, hI.2.1⟩, hI.2.2.1.F ht⟩) hI.2.2.1.2.2 hdg hlocks
theorem fx_zret (hx : p.tables.exec = Jvm.exec) (hb : c.code = cc) (hr : meth.sig.returnType = some .boolean) (hlocks : meth.locks = false) {v : Int32} (hn : narrow .boolean (.int v) = .int v) (hp : po (some (.int v)) w) (hI : fI G.2.2.1 A s.heap w H locs) (hA : A = fA w0 s.heap.size) (hc : cells ≤ mc) (hs : slots ≤ ms) (hdg : decode cc pc = .ok (.ireturn, 1)) : W p G.1 e R s m args below meth c H locs cells slots (MQ below (FQ G w0 s.heap.size po) args s mc ms (fA w0 s.heap.size)) (F0 m pc ls [.int v]) := by
  subst hA
  refine W.widen (k := mc) (n := ms) hc hs ?_
  exact W.zret hx hb hr hn (fun t ht hW => ⟨⟨_, w, rfl, hp, by rw [ht]; exact hI.1, hI.2.1⟩, hI.2.2.1.F ht⟩) hI.2.2.1.2.2 hdg hlocks
theorem fx_lret (hx : p.tables.exec = Jvm.exec) (hb : c.code = cc) (hr : meth.sig.returnType = some .long) (hlocks : meth.locks = false) {v : Int64} (hp : po (some (.long v)) w) (hI : fI G.2.2.1 A s.heap w H locs) (hA : A = fA w0 s.heap.size) (hc : cells ≤ mc) (hs : slots ≤ ms) (hdg : decode cc pc = .ok (.lreturn, 1)) : W p G.1 e R s m args below meth c H locs cells slots (MQ below (FQ G w0 s.heap.size po) args s mc ms (fA w0 s.heap.size)) (F0 m pc ls [.long v]) := by
  subst hA
  refine W.widen (k := mc) (n := ms) hc hs ?_
  exact W.lret hx hb hr (fun t ht hW => ⟨⟨_, w, rfl, hp, by rw [ht]; exact hI.1, hI.2.1⟩, hI.2.2.1.F ht⟩) hI.2.2.1.2.2 hdg hlocks
theorem fx_dret (hx : p.tables.exec = Jvm.exec) (hb : c.code = cc) (hr : meth.sig.returnType = some .double) (hlocks : meth.locks = false) {v : UInt64} (hp : po (some (.double v)) w) (hI : fI G.2.2.1 A s.heap w H locs) (hA : A = fA w0 s.heap.size) (hc : cells ≤ mc) (hs : slots ≤ ms) (hdg : decode cc pc = .ok (.dreturn, 1)) : W p G.1 e R s m args below meth c H locs cells slots (MQ below (FQ G w0 s.heap.size po) args s mc ms (fA w0 s.heap.size)) (F0 m pc ls [.double v]) := by
  subst hA
  refine W.widen (k := mc) (n := ms) hc hs ?_
  exact W.dret hx hb hr (fun t ht hW => ⟨⟨_, w, rfl, hp, by rw [ht]; exact hI.1, hI.2.1⟩, hI.2.2.1.F ht⟩) hI.2.2.1.2.2 hdg hlocks
theorem fx_vret (hx : p.tables.exec = Jvm.exec) (hb : c.code = cc) (hr : meth.sig.returnType = none) (hlocks : meth.locks = false) (hp : po none w) (hI : fI G.2.2.1 A s.heap w H locs) (hA : A = fA w0 s.heap.size) (hc : cells ≤ mc) (hs : slots ≤ ms) (hdg : decode cc pc = .ok (.return_, 1)) : W p G.1 e R s m args below meth c H locs cells slots (MQ below (FQ G w0 s.heap.size po) args s mc ms (fA w0 s.heap.size)) (F0 m pc ls []) := by
  subst hA
  refine W.widen (k := mc) (n := ms) hc hs ?_
  exact W.vret hx hb hr (fun t ht hW => ⟨⟨_, w, rfl, hp, by rw [ht]; exact hI.1, hI.2.1⟩, hI.2.2.1.F ht⟩) hI.2.2.1.2.2 hdg hlocks
theorem fx_aret (hx : p.tables.exec = Jvm.exec) (hb : c.code = cc) {rt : FieldType} (hr : meth.sig.returnType = some rt) (hrt : (∃ n, rt = .object n) ∨ ∃ t, rt = .array t) (hlocks : meth.locks = false) {v : Value} (hv : v = .null ∨ ∃ a, v = .ref a) (hp : po (some v) w) (hI : fI G.2.2.1 A s.heap w H locs) (hA : A = fA w0 s.heap.size) (hc : cells ≤ mc) (hs : slots ≤ ms) (hdg : decode cc pc = .ok (.areturn, 1)) : W p G.1 e R s m args below meth c H locs cells slots (MQ below (FQ G w0 s.heap.size po) args s mc ms (fA w0 s.heap.size)) (F0 m pc ls [v]) := by
  subst hA
  refine W.widen (k := mc) (n := ms) hc hs ?_
  exact W.aret hx hb hr hrt hv (fun t ht hW => ⟨⟨_, w, rfl, hp, by rw [ht]; exact hI.1, hI.2.1⟩, hI.2.2.1.F ht⟩) hI.2.2.1.2.2 hdg hlocks
/-- a throw of a callee goes on -/
theorem fx_thru (hout : ∀ x ∈ c.exceptionTable.toList, ∀ pc, covers x pc = false) (hlocks : meth.locks = false) {E : String} {ce : Cell} {q9 : Addr} (hp : pX E w) (hI : fI G.2.2.1 A s.heap w H locs) (hA : A = fA w0 s.heap.size) (hc : cells ≤ mc) (hs : slots ≤ ms) (h1 : H[q9]? = some ce) (h2 : ce.vm = .none) (h3 : s.vm.findClass E = some ce.cls) : vx_W p G.1 e R s m args below meth c H locs cells slots (vx_MQ below (FQ G w0 s.heap.size po) (FXq G w0 s.heap.size pX) args s mc ms (fA w0 s.heap.size)) (F0 m pc ls rest) q9 := by
  subst hA
  exact vx_out (fun x hx => hout x hx pc) hlocks h1 h2 h3 (fun t ht hv => ⟨⟨w, hp, by rw [ht]; exact hI.1, hI.2.1⟩, hI.2.2.1.F ht⟩) hI.2.2.1.2.2 hc hs
end FXC
end
section
/-! ===== wrappers for walks that a program lays ===== -/
def bI (P : Prop) [Decidable P] : Int32 := if P then 1 else 0
theorem bI_t {P : Prop} [Decidable P] (h : P) : bI P = 1 := if_pos h
theorem bI_f {P : Prop} [Decidable P] (h : ¬ P) : bI P = 0 := if_neg h
theorem bI_nar {P : Prop} [Decidable P] : vp_nar .boolean (bI P) = bI P := by
  by_cases h : P
  · rw [bI_t h]; decide
  · rw [bI_f h]; decide
theorem bI_narrow {P : Prop} [Decidable P] : narrow .boolean (.int (bI P)) = .int (bI P) := by
  by_cases h : P
  · rw [bI_t h]; decide
  · rw [bI_f h]; decide
theorem bI_ite (c : Prop) [Decidable c] : (if c then (1 : Int32) else 0) = bI c := rfl
theorem bI_iten (c : Prop) [Decidable c] : (if c then (0 : Int32) else 1) = bI (¬ c) := by
  by_cases h : c
  · rw [if_pos h, bI_f (fun k => k h)]
  · rw [if_neg h, bI_t h]
theorem bI_congr {P Q : Prop} [Decidable P] [Decidable Q] (h : P ↔ Q) : bI P = bI Q := by
  by_cases k : P
  · rw [bI_t k, bI_t (h.mp k)]
  · rw [bI_f k, bI_f (fun q => k (h.mpr q))]
theorem FC.go {G : GX} {y : MethodName} {cc : ByteArray} {nL : Nat} {ret : Option FieldType} {rm : Room} {as : List Value} {w : WD} {po : Option Value → WD → Prop} (hy : plainName y.cls = true) (hlen : (lg_sl as).length ≤ nL) {lv : List (Nat × Value)} (hlv : lv_args 0 as = lv)
    (body : ∀ (p : Program) (e : Env) (s : State) (m : MethodId) (args : Array Value) (below : List Frame) (meth : Method) (c : Code) (A : Nat → Prop) (H : Heap) (locs : List Loc) (ls : Array Slot) (Q : State → Prop), p.tables.exec = Jvm.exec → c.code = cc → meth.sig.returnType = ret → (∀ w ∈ WL, w.before args s = true) → s.vm.findClass y.cls = some m.cls → c.maxLocals = nL → meth.locks = false → meth.name = y.name → va_K G.2.2.1 vwCl (TYS G.2.2.2) s → EV G.2.1 A s s.heap → fI G.2.2.1 A s.heap w H locs → A = fA w s.heap.size → lv_has ls nL lv → Q = MQ below (FQ G w s.heap.size po) args s rm.cells rm.slots (fA w s.heap.size) →
      W p G.1 e rm s m args below meth c H locs 0 0 Q (F0 m 0 ls [])) : FC G y cc nL ret rm as w po :=
  FC.of hy hlen fun p e s m below meth c A ls h1 h2 h3 h4 h5 h6 h7 h8 h9 h10 h11 h12 h13 => body p e s m as.toArray below meth c A s.heap [] ls _ h1 h2 h3 h4 h5 h6 h7 h8 h9 h10 h11 h12 (hlv ▸ h13) rfl
theorem FX.go {G : GX} {y : MethodName} {cc : ByteArray} {nL : Nat} {ret : Option FieldType} {rm : Room} {as : List Value} {w : WD} {po : Option Value → WD → Prop} {pX : String → WD → Prop} (hy : plainName y.cls = true) (hlen : (lg_sl as).length ≤ nL) {lv : List (Nat × Value)} (hlv : lv_args 0 as = lv)
    (body : ∀ (p : Program) (e : Env) (s : State) (m : MethodId) (args : Array Value) (below : List Frame) (meth : Method) (c : Code) (A : Nat → Prop) (H : Heap) (locs : List Loc) (ls : Array Slot) (Q : State → Prop), p.tables.exec = Jvm.exec → c.code = cc → meth.sig.returnType = ret → (∀ w ∈ WL, w.before args s = true) → s.vm.findClass y.cls = some m.cls → c.maxLocals = nL → meth.locks = false → (∀ x ∈ c.exceptionTable.toList, ∀ pc, covers x pc = false) → va_K G.2.2.1 vwCl (TYS G.2.2.2) s → EV G.2.1 A s s.heap → fI G.2.2.1 A s.heap w H locs → A = fA w s.heap.size → lv_has ls nL lv → Q = vx_MQ below (FQ G w s.heap.size po) (FXq G w s.heap.size pX) args s rm.cells rm.slots (fA w s.heap.size) →
      W p G.1 e rm s m args below meth c H locs 0 0 Q (F0 m 0 ls [])) : FX G y cc nL ret rm as w po pX :=
  FX.of hy hlen fun p e s m below meth c A ls h1 h2 h3 h4 h5 h6 h7 h8 h9 h10 h11 h12 h13 => body p e s m as.toArray below meth c A s.heap [] ls _ h1 h2 h3 h4 h5 h6 h7 h8 h9 h10 h11 h12 (hlv ▸ h13) rfl
section FXD
variable {p : Program} {e : Env} {R : Room} {s : State} {m : MethodId} {args : Array Value} {below : List Frame} {meth : Method} {c : Code} {H : Heap} {locs : List Loc} {cells slots : Nat} {Q : State → Prop}
variable {cc : ByteArray} {pc : Nat} {ls : Array Slot} {rest st0 : List Value} {G : GX} {A : Nat → Prop} {w w0 w1 : WD} {own : String} {nL mc ms : Nat} {po : Option Value → WD → Prop} {pX : String → WD → Prop} {vv : Value} {thr : Option String}
theorem xb_eq {P : Prop} [Decidable P] (hx : p.tables.exec = Jvm.exec) (hb : c.code = cc) {off : Int} {tgt : Nat} (hdg : decode cc pc = .ok (.ifCond .eq off, 3)) (ht : (pc : Int) + off = (tgt : Int)) (kt : ¬ P → W p G.1 e R s m args below meth c H locs cells slots Q (F0 m tgt ls rest)) (kf : P → W p G.1 e R s m args below meth c H locs cells slots Q (F0 m (pc + 3) ls rest)) : W p G.1 e R s m args below meth c H locs cells slots Q (F0 m pc ls (.int (bI P) :: rest)) :=
  lv_if_eq hx hb hdg ht (fun h => kt (fun k => by rw [bI_t k] at h; exact absurd h (by decide))) (fun h => kf (Classical.byContradiction fun k => h (bI_f k)))
theorem xb_ne {P : Prop} [Decidable P] (hx : p.tables.exec = Jvm.exec) (hb : c.code = cc) {off : Int} {tgt : Nat} (hdg : decode cc pc = .ok (.ifCond .ne off, 3)) (ht : (pc : Int) + off = (tgt : Int)) (kt : P → W p G.1 e R s m args below meth c H locs cells slots Q (F0 m tgt ls rest)) (kf : ¬ P → W p G.1 e R s m args below meth c H locs cells slots Q (F0 m (pc + 3) ls rest)) : W p G.1 e R s m args below meth c H locs cells slots Q (F0 m pc ls (.int (bI P) :: rest)) :=
  lv_if_ne hx hb hdg ht (fun h => kt (Classical.byContradiction fun k => h (bI_f k))) (fun h => kf (fun k => by rw [bI_t k] at h; exact absurd h (by decide)))
theorem cVv {y : MethodName} {cc' : ByteArray} {nL' index : Nat} {ret' : Option FieldType} {rm : Room} {as : List Value} {b : Nat} (hx : p.tables.exec = Jvm.exec) (hb : c.code = cc) (hml : c.maxLocals = nL) (hts : ∀ w ∈ WL, w.before args s = true) (hown : s.vm.findClass own = some m.cls) (hK : va_K G.2.2.1 vwCl (TYS G.2.2.2) s) (hE : EV G.2.1 A s s.heap) (hI : fI G.2.2.1 A s.heap w H locs) (hC : FC G y cc' nL' ret' rm (.ref b :: as) w (pv vv w1)) (hk : CkV own index y cc' nL' ret' as.length) (hR : rm.frames + 1 ≤ R.frames ∧ 8 + (nL' + 11) + rm.locals ≤ R.locals) (h0 : rm.cells = 0) (h00 : rm.slots = 0) {kk ii ci : Nat} {fs : List Value} {q : vw_C} (he : w kk ii = some (b, .inr (ci, fs))) (hc : vwCl[ci]? = some q) (hq : q.1 = y.cls) (hsize : ls.size = nL) (hst : as.reverse ++ .ref b :: rest = st0) (hroom : (rest.map fun v => v.category).sum ≤ 8) (hdg : decode cc pc = .ok (.invokevirtual index, 3)) (hf : cells ≤ R.cells ∧ slots ≤ R.slots)
    (k : ∀ (H1 : Heap) (locs1 : List Loc), fI G.2.2.1 A s.heap w1 H1 locs1 → W p G.1 e R s m args below meth c H1 locs1 cells slots Q (F0 m (pc + 3) ls (vv :: rest))) : W p G.1 e R s m args below meth c H locs cells slots Q (F0 m pc ls st0) := by
  subst hst
  refine fx_callV hx hb hml hts hown hK hE hI hC hk hR he hc hq hsize hroom hdg ⟨by rw [h0]; exact hf.1, by rw [h00]; exact hf.2⟩ (fun v w' H1 locs1 hp hI => ?_)
  obtain ⟨rfl, rfl⟩ := hp
  rw [h0, h00]
  exact k H1 locs1 hI
theorem cV0 {y : MethodName} {cc' : ByteArray} {nL' index : Nat} {ret' : Option FieldType} {rm : Room} {as : List Value} {b : Nat} (hx : p.tables.exec = Jvm.exec) (hb : c.code = cc) (hml : c.maxLocals = nL) (hts : ∀ w ∈ WL, w.before args s = true) (hown : s.vm.findClass own = some m.cls) (hK : va_K G.2.2.1 vwCl (TYS G.2.2.2) s) (hE : EV G.2.1 A s s.heap) (hI : fI G.2.2.1 A s.heap w H locs) (hC : FC G y cc' nL' ret' rm (.ref b :: as) w (p0 w1)) (hk : CkV own index y cc' nL' ret' as.length) (hR : rm.frames + 1 ≤ R.frames ∧ 8 + (nL' + 11) + rm.locals ≤ R.locals) (h0 : rm.cells = 0) (h00 : rm.slots = 0) {kk ii ci : Nat} {fs : List Value} {q : vw_C} (he : w kk ii = some (b, .inr (ci, fs))) (hc : vwCl[ci]? = some q) (hq : q.1 = y.cls) (hsize : ls.size = nL) (hst : as.reverse ++ .ref b :: rest = st0) (hroom : (rest.map fun v => v.category).sum ≤ 8) (hdg : decode cc pc = .ok (.invokevirtual index, 3)) (hf : cells ≤ R.cells ∧ slots ≤ R.slots)
    (k : ∀ (H1 : Heap) (locs1 : List Loc), fI G.2.2.1 A s.heap w1 H1 locs1 → W p G.1 e R s m args below meth c H1 locs1 cells slots Q (F0 m (pc + 3) ls rest)) : W p G.1 e R s m args below meth c H locs cells slots Q (F0 m pc ls st0) := by
  subst hst
  refine fx_callV hx hb hml hts hown hK hE hI hC hk hR he hc hq hsize hroom hdg ⟨by rw [h0]; exact hf.1, by rw [h00]; exact hf.2⟩ (fun v w' H1 locs1 hp hI => ?_)
  obtain ⟨rfl, rfl⟩ := hp
  rw [h0, h00]
  exact k H1 locs1 hI
theorem cSv {y : MethodName} {cc' : ByteArray} {nL' index : Nat} {ret' : Option FieldType} {rm : Room} {as : List Value} (hx : p.tables.exec = Jvm.exec) (hb : c.code = cc) (hml : c.maxLocals = nL) (hts : ∀ w ∈ WL, w.before args s = true) (hown : s.vm.findClass own = some m.cls) (hK : va_K G.2.2.1 vwCl (TYS G.2.2.2) s) (hE : EV G.2.1 A s s.heap) (hI : fI G.2.2.1 A s.heap w H locs) (hC : FC G y cc' nL' ret' rm (as) w (pv vv w1)) (hk : CkS own index y cc' nL' ret' as.length) (hR : rm.frames + 1 ≤ R.frames ∧ 8 + (nL' + 11) + rm.locals ≤ R.locals) (h0 : rm.cells = 0) (h00 : rm.slots = 0)  (hsize : ls.size = nL) (hst : as.reverse ++ rest = st0) (hroom : (rest.map fun v => v.category).sum ≤ 8) (hdg : decode cc pc = .ok (.invokestatic index, 3)) (hf : cells ≤ R.cells ∧ slots ≤ R.slots)
    (k : ∀ (H1 : Heap) (locs1 : List Loc), fI G.2.2.1 A s.heap w1 H1 locs1 → W p G.1 e R s m args below meth c H1 locs1 cells slots Q (F0 m (pc + 3) ls (vv :: rest))) : W p G.1 e R s m args below meth c H locs cells slots Q (F0 m pc ls st0) := by
  subst hst
  refine fx_callS hx hb hml hts hown hK hE hI hC hk hR hsize hroom hdg ⟨by rw [h0]; exact hf.1, by rw [h00]; exact hf.2⟩ (fun v w' H1 locs1 hp hI => ?_)
  obtain ⟨rfl, rfl⟩ := hp
  rw [h0, h00]
  exact k H1 locs1 hI
theorem cS0 {y : MethodName} {cc' : ByteArray} {nL' index : Nat} {ret' : Option FieldType} {rm : Room} {as : List Value} (hx : p.tables.exec = Jvm.exec) (hb : c.code = cc) (hml : c.maxLocals = nL) (hts : ∀ w ∈ WL, w.before args s = true) (hown : s.vm.findClass own = some m.cls) (hK : va_K G.2.2.1 vwCl (TYS G.2.2.2) s) (hE : EV G.2.1 A s s.heap) (hI : fI G.2.2.1 A s.heap w H locs) (hC : FC G y cc' nL' ret' rm (as) w (p0 w1)) (hk : CkS own index y cc' nL' ret' as.length) (hR : rm.frames + 1 ≤ R.frames ∧ 8 + (nL' + 11) + rm.locals ≤ R.locals) (h0 : rm.cells = 0) (h00 : rm.slots = 0)  (hsize : ls.size = nL) (hst : as.reverse ++ rest = st0) (hroom : (rest.map fun v => v.category).sum ≤ 8) (hdg : decode cc pc = .ok (.invokestatic index, 3)) (hf : cells ≤ R.cells ∧ slots ≤ R.slots)
    (k : ∀ (H1 : Heap) (locs1 : List Loc), fI G.2.2.1 A s.heap w1 H1 locs1 → W p G.1 e R s m args below meth c H1 locs1 cells slots Q (F0 m (pc + 3) ls rest)) : W p G.1 e R s m args below meth c H locs cells slots Q (F0 m pc ls st0) := by
  subst hst
  refine fx_callS hx hb hml hts hown hK hE hI hC hk hR hsize hroom hdg ⟨by rw [h0]; exact hf.1, by rw [h00]; exact hf.2⟩ (fun v w' H1 locs1 hp hI => ?_)
  obtain ⟨rfl, rfl⟩ := hp
  rw [h0, h00]
  exact k H1 locs1 hI
theorem cFv {x y : MethodName} {cc' : ByteArray} {nL' index count : Nat} {ret' : Option FieldType} {rm : Room} {as : List Value} {b : Nat} (hx : p.tables.exec = Jvm.exec) (hb : c.code = cc) (hml : c.maxLocals = nL) (hts : ∀ w ∈ WL, w.before args s = true) (hown : s.vm.findClass own = some m.cls) (hK : va_K G.2.2.1 vwCl (TYS G.2.2.2) s) (hE : EV G.2.1 A s s.heap) (hI : fI G.2.2.1 A s.heap w H locs) (hC : FC G y cc' nL' ret' rm (.ref b :: as) w (pv vv w1)) (hk : CkF own index x y cc' nL' ret' as.length) (hR : rm.frames + 1 ≤ R.frames ∧ 8 + (nL' + 11) + rm.locals ≤ R.locals) (h0 : rm.cells = 0) (h00 : rm.slots = 0) {kk ii ci : Nat} {fs : List Value} {q : vw_C} (he : w kk ii = some (b, .inr (ci, fs))) (hc : vwCl[ci]? = some q) (hq : q.1 = y.cls) (hsize : ls.size = nL) (hst : as.reverse ++ .ref b :: rest = st0) (hroom : (rest.map fun v => v.category).sum ≤ 8) (hdg : decode cc pc = .ok (.invokeinterface index count, 5)) (hf : cells ≤ R.cells ∧ slots ≤ R.slots)
    (k : ∀ (H1 : Heap) (locs1 : List Loc), fI G.2.2.1 A s.heap w1 H1 locs1 → W p G.1 e R s m args below meth c H1 locs1 cells slots Q (F0 m (pc + 5) ls (vv :: rest))) : W p G.1 e R s m args below meth c H locs cells slots Q (F0 m pc ls st0) := by
  subst hst
  refine fx_callF hx hb hml hts hown hK hE hI hC hk hR he hc hq hsize hroom hdg ⟨by rw [h0]; exact hf.1, by rw [h00]; exact hf.2⟩ (fun v w' H1 locs1 hp hI => ?_)
  obtain ⟨rfl, rfl⟩ := hp
  rw [h0, h00]
  exact k H1 locs1 hI
theorem cF0 {x y : MethodName} {cc' : ByteArray} {nL' index count : Nat} {ret' : Option FieldType} {rm : Room} {as : List Value} {b : Nat} (hx : p.tables.exec = Jvm.exec) (hb : c.code = cc) (hml : c.maxLocals = nL) (hts : ∀ w ∈ WL, w.before args s = true) (hown : s.vm.findClass own = some m.cls) (hK : va_K G.2.2.1 vwCl (TYS G.2.2.2) s) (hE : EV G.2.1 A s s.heap) (hI : fI G.2.2.1 A s.heap w H locs) (hC : FC G y cc' nL' ret' rm (.ref b :: as) w (p0 w1)) (hk : CkF own index x y cc' nL' ret' as.length) (hR : rm.frames + 1 ≤ R.frames ∧ 8 + (nL' + 11) + rm.locals ≤ R.locals) (h0 : rm.cells = 0) (h00 : rm.slots = 0) {kk ii ci : Nat} {fs : List Value} {q : vw_C} (he : w kk ii = some (b, .inr (ci, fs))) (hc : vwCl[ci]? = some q) (hq : q.1 = y.cls) (hsize : ls.size = nL) (hst : as.reverse ++ .ref b :: rest = st0) (hroom : (rest.map fun v => v.category).sum ≤ 8) (hdg : decode cc pc = .ok (.invokeinterface index count, 5)) (hf : cells ≤ R.cells ∧ slots ≤ R.slots)
    (k : ∀ (H1 : Heap) (locs1 : List Loc), fI G.2.2.1 A s.heap w1 H1 locs1 → W p G.1 e R s m args below meth c H1 locs1 cells slots Q (F0 m (pc + 5) ls rest)) : W p G.1 e R s m args below meth c H locs cells slots Q (F0 m pc ls st0) := by
  subst hst
  refine fx_callF hx hb hml hts hown hK hE hI hC hk hR he hc hq hsize hroom hdg ⟨by rw [h0]; exact hf.1, by rw [h00]; exact hf.2⟩ (fun v w' H1 locs1 hp hI => ?_)
  obtain ⟨rfl, rfl⟩ := hp
  rw [h0, h00]
  exact k H1 locs1 hI
theorem cI0 {y : MethodName} {cc' : ByteArray} {nL' index : Nat} {rm : Room} {as : List Value} {b : Nat} (hx : p.tables.exec = Jvm.exec) (hb : c.code = cc) (hml : c.maxLocals = nL) (hts : ∀ w ∈ WL, w.before args s = true) (hown : s.vm.findClass own = some m.cls) (hK : va_K G.2.2.1 vwCl (TYS G.2.2.2) s) (hE : EV G.2.1 A s s.heap) (hI : fI G.2.2.1 A s.heap w H locs) (hC : FC G y cc' nL' none rm (.ref b :: as) w (p0 w1)) (hk : CkI own index y cc' nL' as.length) (hR : rm.frames + 1 ≤ R.frames ∧ 8 + (nL' + 11) + rm.locals ≤ R.locals) (h0 : rm.cells = 0) (h00 : rm.slots = 0)  (hsize : ls.size = nL) (hst : as.reverse ++ .ref b :: rest = st0) (hroom : (rest.map fun v => v.category).sum ≤ 8) (hdg : decode cc pc = .ok (.invokespecial index, 3)) (hf : cells ≤ R.cells ∧ slots ≤ R.slots)
    (k : ∀ (H1 : Heap) (locs1 : List Loc), fI G.2.2.1 A s.heap w1 H1 locs1 → W p G.1 e R s m args below meth c H1 locs1 cells slots Q (F0 m (pc + 3) ls rest)) : W p G.1 e R s m args below meth c H locs cells slots Q (F0 m pc ls st0) := by
  subst hst
  refine fx_callI hx hb hml hts hown hK hE hI hC hk hR hsize hroom hdg ⟨by rw [h0]; exact hf.1, by rw [h00]; exact hf.2⟩ (fun v w' H1 locs1 hp hI => ?_)
  obtain ⟨rfl, rfl⟩ := hp
  rw [h0, h00]
  exact k H1 locs1 hI
theorem cxVv {y : MethodName} {cc' : ByteArray} {nL' index : Nat} {ret' : Option FieldType} {rm : Room} {as : List Value} {b : Nat} (hx : p.tables.exec = Jvm.exec) (hb : c.code = cc) (hml : c.maxLocals = nL) (hts : ∀ w ∈ WL, w.before args s = true) (hown : s.vm.findClass own = some m.cls) (hK : va_K G.2.2.1 vwCl (TYS G.2.2.2) s) (hE : EV G.2.1 A s s.heap) (hI : fI G.2.2.1 A s.heap w H locs) (hC : FX G y cc' nL' ret' rm (.ref b :: as) w (pvx thr vv w1) (px thr w)) (hk : CkV own index y cc' nL' ret' as.length) (hR : rm.frames + 1 ≤ R.frames ∧ 8 + (nL' + 11) + rm.locals ≤ R.locals) (h0 : rm.cells = 0) (h00 : rm.slots = 0) {kk ii ci : Nat} {fs : List Value} {q : vw_C} (he : w kk ii = some (b, .inr (ci, fs))) (hc : vwCl[ci]? = some q) (hq : q.1 = y.cls) (hsize : ls.size = nL) (hst : as.reverse ++ .ref b :: rest = st0) (hroom : (rest.map fun v => v.category).sum ≤ 8) (hdg : decode cc pc = .ok (.invokevirtual index, 3)) (hf : cells ≤ R.cells ∧ slots ≤ R.slots)
    (kx : ∀ (E : String) (ce : Cell) (q9 : Addr) (H1 : Heap) (locs1 : List Loc), thr = some E → fI G.2.2.1 A s.heap w H1 locs1 → H1[q9]? = some ce → ce.vm = .none → s.vm.findClass E = some ce.cls → vx_W p G.1 e R s m args below meth c H1 locs1 cells slots Q (F0 m pc ls rest) q9) (k : thr = none → ∀ (H1 : Heap) (locs1 : List Loc), fI G.2.2.1 A s.heap w1 H1 locs1 → W p G.1 e R s m args below meth c H1 locs1 cells slots Q (F0 m (pc + 3) ls (vv :: rest))) : W p G.1 e R s m args below meth c H locs cells slots Q (F0 m pc ls st0) := by
  subst hst
  refine fx_xcallV hx hb hml hts hown hK hE hI hC hk hR he hc hq hsize hroom hdg ⟨by rw [h0]; exact hf.1, by rw [h00]; exact hf.2⟩ (fun E ce q9 w' H1 locs1 hp hI h1 h2 h3 => ?_) (fun v w' H1 locs1 hp hI => ?_)
  · obtain ⟨e1, e2⟩ := hp
    rw [e2] at hI
    rw [h0, h00]
    exact kx E ce q9 H1 locs1 e1 hI h1 h2 h3
  · obtain ⟨e1, rfl, rfl⟩ := hp
    rw [h0, h00]
    exact k e1 H1 locs1 hI
theorem cxV0 {y : MethodName} {cc' : ByteArray} {nL' index : Nat} {ret' : Option FieldType} {rm : Room} {as : List Value} {b : Nat} (hx : p.tables.exec = Jvm.exec) (hb : c.code = cc) (hml : c.maxLocals = nL) (hts : ∀ w ∈ WL, w.before args s = true) (hown : s.vm.findClass own = some m.cls) (hK : va_K G.2.2.1 vwCl (TYS G.2.2.2) s) (hE : EV G.2.1 A s s.heap) (hI : fI G.2.2.1 A s.heap w H locs) (hC : FX G y cc' nL' ret' rm (.ref b :: as) w (p0x thr w1) (px thr w)) (hk : CkV own index y cc' nL' ret' as.length) (hR : rm.frames + 1 ≤ R.frames ∧ 8 + (nL' + 11) + rm.locals ≤ R.locals) (h0 : rm.cells = 0) (h00 : rm.slots = 0) {kk ii ci : Nat} {fs : List Value} {q : vw_C} (he : w kk ii = some (b, .inr (ci, fs))) (hc : vwCl[ci]? = some q) (hq : q.1 = y.cls) (hsize : ls.size = nL) (hst : as.reverse ++ .ref b :: rest = st0) (hroom : (rest.map fun v => v.category).sum ≤ 8) (hdg : decode cc pc = .ok (.invokevirtual index, 3)) (hf : cells ≤ R.cells ∧ slots ≤ R.slots)
    (kx : ∀ (E : String) (ce : Cell) (q9 : Addr) (H1 : Heap) (locs1 : List Loc), thr = some E → fI G.2.2.1 A s.heap w H1 locs1 → H1[q9]? = some ce → ce.vm = .none → s.vm.findClass E = some ce.cls → vx_W p G.1 e R s m args below meth c H1 locs1 cells slots Q (F0 m pc ls rest) q9) (k : thr = none → ∀ (H1 : Heap) (locs1 : List Loc), fI G.2.2.1 A s.heap w1 H1 locs1 → W p G.1 e R s m args below meth c H1 locs1 cells slots Q (F0 m (pc + 3) ls rest)) : W p G.1 e R s m args below meth c H locs cells slots Q (F0 m pc ls st0) := by
  subst hst
  refine fx_xcallV hx hb hml hts hown hK hE hI hC hk hR he hc hq hsize hroom hdg ⟨by rw [h0]; exact hf.1, by rw [h00]; exact hf.2⟩ (fun E ce q9 w' H1 locs1 hp hI h1 h2 h3 => ?_) (fun v w' H1 locs1 hp hI => ?_)
  · obtain ⟨e1, e2⟩ := hp
    rw [e2] at hI
    rw [h0, h00]
    exact kx E ce q9 H1 locs1 e1 hI h1 h2 h3
  · obtain ⟨e1, rfl, rfl⟩ := hp
    rw [h0, h00]
    exact k e1 H1 locs1 hI
theorem cxSv {y : MethodName} {cc' : ByteArray} {nL' index : Nat} {ret' : Option FieldType} {rm : Room} {as : List Value} (hx : p.tables.exec = Jvm.exec) (hb : c.code = cc) (hml : c.maxLocals = nL) (hts : ∀ w ∈ WL, w.before args s = true) (hown : s.vm.findClass own = some m.cls) (hK : va_K G.2.2.1 vwCl (TYS G.2.2.2) s) (hE : EV G.2.1 A s s.heap) (hI : fI G.2.2.1 A s.heap w H locs) (hC : FX G y cc' nL' ret' rm (as) w (pvx thr vv w1) (px thr w)) (hk : CkS own index y cc' nL' ret' as.length) (hR : rm.frames + 1 ≤ R.frames ∧ 8 + (nL' + 11) + rm.locals ≤ R.locals) (h0 : rm.cells = 0) (h00 : rm.slots = 0)  (hsize : ls.size = nL) (hst : as.reverse ++ rest = st0) (hroom : (rest.map fun v => v.category).sum ≤ 8) (hdg : decode cc pc = .ok (.invokestatic index, 3)) (hf : cells ≤ R.cells ∧ slots ≤ R.slots)
    (kx : ∀ (E : String) (ce : Cell) (q9 : Addr) (H1 : Heap) (locs1 : List Loc), thr = some E → fI G.2.2.1 A s.heap w H1 locs1 → H1[q9]? = some ce → ce.vm = .none → s.vm.findClass E = some ce.cls → vx_W p G.1 e R s m args below meth c H1 locs1 cells slots Q (F0 m pc ls rest) q9) (k : thr = none → ∀ (H1 : Heap) (locs1 : List Loc), fI G.2.2.1 A s.heap w1 H1 locs1 → W p G.1 e R s m args below meth c H1 locs1 cells slots Q (F0 m (pc + 3) ls (vv :: rest))) : W p G.1 e R s m args below meth c H locs cells slots Q (F0 m pc ls st0) := by
  subst hst
  refine fx_xcallS hx hb hml hts hown hK hE hI hC hk hR hsize hroom hdg ⟨by rw [h0]; exact hf.1, by rw [h00]; exact hf.2⟩ (fun E ce q9 w' H1 locs1 hp hI h1 h2 h3 => ?_) (fun v w' H1 locs1 hp hI => ?_)
  · obtain ⟨e1, e2⟩ := hp
    rw [e2] at hI
    rw [h0, h00]
    exact kx E ce q9 H1 locs1 e1 hI h1 h2 h3
  · obtain ⟨e1, rfl, rfl⟩ := hp
    rw [h0, h00]
    exact k e1 H1 locs1 hI
theorem cxS0 {y : MethodName} {cc' : ByteArray} {nL' index : Nat} {ret' : Option FieldType} {rm : Room} {as : List Value} (hx : p.tables.exec = Jvm.exec) (hb : c.code = cc) (hml : c.maxLocals = nL) (hts : ∀ w ∈ WL, w.before args s = true) (hown : s.vm.findClass own = some m.cls) (hK : va_K G.2.2.1 vwCl (TYS G.2.2.2) s) (hE : EV G.2.1 A s s.heap) (hI : fI G.2.2.1 A s.heap w H locs) (hC : FX G y cc' nL' ret' rm (as) w (p0x thr w1) (px thr w)) (hk : CkS own index y cc' nL' ret' as.length) (hR : rm.frames + 1 ≤ R.frames ∧ 8 + (nL' + 11) + rm.locals ≤ R.locals) (h0 : rm.cells = 0) (h00 : rm.slots = 0)  (hsize : ls.size = nL) (hst : as.reverse ++ rest = st0) (hroom : (rest.map fun v => v.category).sum ≤ 8) (hdg : decode cc pc = .ok (.invokestatic index, 3)) (hf : cells ≤ R.cells ∧ slots ≤ R.slots)
    (kx : ∀ (E : String) (ce : Cell) (q9 : Addr) (H1 : Heap) (locs1 : List Loc), thr = some E → fI G.2.2.1 A s.heap w H1 locs1 → H1[q9]? = some ce → ce.vm = .none → s.vm.findClass E = some ce.cls → vx_W p G.1 e R s m args below meth c H1 locs1 cells slots Q (F0 m pc ls rest) q9) (k : thr = none → ∀ (H1 : Heap) (locs1 : List Loc), fI G.2.2.1 A s.heap w1 H1 locs1 → W p G.1 e R s m args below meth c H1 locs1 cells slots Q (F0 m (pc + 3) ls rest)) : W p G.1 e R s m args below meth c H locs cells slots Q (F0 m pc ls st0) := by
  subst hst
  refine fx_xcallS hx hb hml hts hown hK hE hI hC hk hR hsize hroom hdg ⟨by rw [h0]; exact hf.1, by rw [h00]; exact hf.2⟩ (fun E ce q9 w' H1 locs1 hp hI h1 h2 h3 => ?_) (fun v w' H1 locs1 hp hI => ?_)
  · obtain ⟨e1, e2⟩ := hp
    rw [e2] at hI
    rw [h0, h00]
    exact kx E ce q9 H1 locs1 e1 hI h1 h2 h3
  · obtain ⟨e1, rfl, rfl⟩ := hp
    rw [h0, h00]
    exact k e1 H1 locs1 hI
theorem rt_i (hx : p.tables.exec = Jvm.exec) (hb : c.code = cc) (hr : meth.sig.returnType = some .int) (hlocks : meth.locks = false) {v : Int32}  (hI : fI G.2.2.1 A s.heap w H locs) (hA : A = fA w0 s.heap.size) (hQ : Q = MQ below (FQ G w0 s.heap.size po) args s mc ms (fA w0 s.heap.size)) (hp : po (some (.int v)) w) (hc : cells ≤ mc) (hs : slots ≤ ms) (hdg : decode cc pc = .ok (.ireturn, 1)) : W p G.1 e R s m args below meth c H locs cells slots Q (F0 m pc ls [.int v]) := by
  subst hQ
  exact fx_iret hx hb hr hlocks hp hI hA hc hs hdg
theorem rx_i (hx : p.tables.exec = Jvm.exec) (hb : c.code = cc) (hr : meth.sig.returnType = some .int) (hlocks : meth.locks = false) {v : Int32}  (hI : fI G.2.2.1 A s.heap w H locs) (hA : A = fA w0 s.heap.size) (hQ : Q = vx_MQ below (FQ G w0 s.heap.size po) (FXq G w0 s.heap.size pX) args s mc ms (fA w0 s.heap.size)) (hp : po (some (.int v)) w) (hc : cells ≤ mc) (hs : slots ≤ ms) (hdg : decode cc pc = .ok (.ireturn, 1)) : W p G.1 e R s m args below meth c H locs cells slots Q (F0 m pc ls [.int v]) := by
  subst hQ
  exact vx_ret (fx_iret hx hb hr hlocks hp hI hA hc hs hdg)
theorem rt_z (hx : p.tables.exec = Jvm.exec) (hb : c.code = cc) (hr : meth.sig.returnType = some .boolean) (hlocks : meth.locks = false) {v : Int32} (hn : narrow .boolean (.int v) = .int v) (hI : fI G.2.2.1 A s.heap w H locs) (hA : A = fA w0 s.heap.size) (hQ : Q = MQ below (FQ G w0 s.heap.size po) args s mc ms (fA w0 s.heap.size)) (hp : po (some (.int v)) w) (hc : cells ≤ mc) (hs : slots ≤ ms) (hdg : decode cc pc = .ok (.ireturn, 1)) : W p G.1 e R s m args below meth c H locs cells slots Q (F0 m pc ls [.int v]) := by
  subst hQ
  exact fx_zret hx hb hr hlocks hn hp hI hA hc hs hdg
theorem rx_z (hx : p.tables.exec = Jvm.exec) (hb : c.code = cc) (hr : meth.sig.returnType = some .boolean) (hlocks : meth.locks = false) {v : Int32} (hn : narrow .boolean (.int v) = .int v) (hI : fI G.2.2.1 A s.heap w H locs) (hA : A = fA w0 s.heap.size) (hQ : Q = vx_MQ below (FQ G w0 s.heap.size po) (FXq G w0 s.heap.size pX) args s mc ms (fA w0 s.heap.size)) (hp : po (some (.int v)) w) (hc : cells ≤ mc) (hs : slots ≤ ms) (hdg : decode cc pc = .ok (.ireturn, 1)) : W p G.1 e R s m args below meth c H locs cells slots Q (F0 m pc ls [.int v]) := by
  subst hQ
  exact vx_ret (fx_zret hx hb hr hlocks hn hp hI hA hc hs hdg)
theorem rt_l (hx : p.tables.exec = Jvm.exec) (hb : c.code = cc) (hr : meth.sig.returnType = some .long) (hlocks : meth.locks = false) {v : Int64}  (hI : fI G.2.2.1 A s.heap w H locs) (hA : A = fA w0 s.heap.size) (hQ : Q = MQ below (FQ G w0 s.heap.size po) args s mc ms (fA w0 s.heap.size)) (hp : po (some (.long v)) w) (hc : cells ≤ mc) (hs : slots ≤ ms) (hdg : decode cc pc = .ok (.lreturn, 1)) : W p G.1 e R s m args below meth c H locs cells slots Q (F0 m pc ls [.long v]) := by
  subst hQ
  exact fx_lret hx hb hr hlocks hp hI hA hc hs hdg
theorem rx_l (hx : p.tables.exec = Jvm.exec) (hb : c.code = cc) (hr : meth.sig.returnType = some .long) (hlocks : meth.locks = false) {v : Int64}  (hI : fI G.2.2.1 A s.heap w H locs) (hA : A = fA w0 s.heap.size) (hQ : Q = vx_MQ below (FQ G w0 s.heap.size po) (FXq G w0 s.heap.size pX) args s mc ms (fA w0 s.heap.size)) (hp : po (some (.long v)) w) (hc : cells ≤ mc) (hs : slots ≤ ms) (hdg : decode cc pc = .ok (.lreturn, 1)) : W p G.1 e R s m args below meth c H locs cells slots Q (F0 m pc ls [.long v]) := by
  subst hQ
  exact vx_ret (fx_lret hx hb hr hlocks hp hI hA hc hs hdg)
theorem rt_d (hx : p.tables.exec = Jvm.exec) (hb : c.code = cc) (hr : meth.sig.returnType = some .double) (hlocks : meth.locks = false) {v : UInt64}  (hI : fI G.2.2.1 A s.heap w H locs) (hA : A = fA w0 s.heap.size) (hQ : Q = MQ below (FQ G w0 s.heap.size po) args s mc ms (fA w0 s.heap.size)) (hp : po (some (.double v)) w) (hc : cells ≤ mc) (hs : slots ≤ ms) (hdg : decode cc pc = .ok (.dreturn, 1)) : W p G.1 e R s m args below meth c H locs cells slots Q (F0 m pc ls [.double v]) := by
  subst hQ
  exact fx_dret hx hb hr hlocks hp hI hA hc hs hdg
theorem rx_d (hx : p.tables.exec = Jvm.exec) (hb : c.code = cc) (hr : meth.sig.returnType = some .double) (hlocks : meth.locks = false) {v : UInt64}  (hI : fI G.2.2.1 A s.heap w H locs) (hA : A = fA w0 s.heap.size) (hQ : Q = vx_MQ below (FQ G w0 s.heap.size po) (FXq G w0 s.heap.size pX) args s mc ms (fA w0 s.heap.size)) (hp : po (some (.double v)) w) (hc : cells ≤ mc) (hs : slots ≤ ms) (hdg : decode cc pc = .ok (.dreturn, 1)) : W p G.1 e R s m args below meth c H locs cells slots Q (F0 m pc ls [.double v]) := by
  subst hQ
  exact vx_ret (fx_dret hx hb hr hlocks hp hI hA hc hs hdg)
theorem rt_v (hx : p.tables.exec = Jvm.exec) (hb : c.code = cc) (hr : meth.sig.returnType = none) (hlocks : meth.locks = false) (hI : fI G.2.2.1 A s.heap w H locs) (hA : A = fA w0 s.heap.size) (hQ : Q = MQ below (FQ G w0 s.heap.size po) args s mc ms (fA w0 s.heap.size)) (hp : po none w) (hc : cells ≤ mc) (hs : slots ≤ ms) (hdg : decode cc pc = .ok (.return_, 1)) : W p G.1 e R s m args below meth c H locs cells slots Q (F0 m pc ls []) := by
  subst hQ
  exact fx_vret hx hb hr hlocks hp hI hA hc hs hdg
theorem rt_a (hx : p.tables.exec = Jvm.exec) (hb : c.code = cc) {rt : FieldType} (hr : meth.sig.returnType = some rt) (hrt : (∃ n, rt = .object n) ∨ ∃ t, rt = .array t) (hlocks : meth.locks = false) {v : Value} (hv : v = .null ∨ ∃ a, v = .ref a) (hI : fI G.2.2.1 A s.heap w H locs) (hA : A = fA w0 s.heap.size) (hQ : Q = MQ below (FQ G w0 s.heap.size po) args s mc ms (fA w0 s.heap.size)) (hp : po (some v) w) (hc : cells ≤ mc) (hs : slots ≤ ms) (hdg : decode cc pc = .ok (.areturn, 1)) : W p G.1 e R s m args below meth c H locs cells slots Q (F0 m pc ls [v]) := by
  subst hQ
  exact fx_aret hx hb hr hrt hlocks hv hp hI hA hc hs hdg
theorem rx_v (hx : p.tables.exec = Jvm.exec) (hb : c.code = cc) (hr : meth.sig.returnType = none) (hlocks : meth.locks = false) (hI : fI G.2.2.1 A s.heap w H locs) (hA : A = fA w0 s.heap.size) (hQ : Q = vx_MQ below (FQ G w0 s.heap.size po) (FXq G w0 s.heap.size pX) args s mc ms (fA w0 s.heap.size)) (hp : po none w) (hc : cells ≤ mc) (hs : slots ≤ ms) (hdg : decode cc pc = .ok (.return_, 1)) : W p G.1 e R s m args below meth c H locs cells slots Q (F0 m pc ls []) := by
  subst hQ
  exact vx_ret (fx_vret hx hb hr hlocks hp hI hA hc hs hdg)
theorem rx_a (hx : p.tables.exec = Jvm.exec) (hb : c.code = cc) {rt : FieldType} (hr : meth.sig.returnType = some rt) (hrt : (∃ n, rt = .object n) ∨ ∃ t, rt = .array t) (hlocks : meth.locks = false) {v : Value} (hv : v = .null ∨ ∃ a, v = .ref a) (hI : fI G.2.2.1 A s.heap w H locs) (hA : A = fA w0 s.heap.size) (hQ : Q = vx_MQ below (FQ G w0 s.heap.size po) (FXq G w0 s.heap.size pX) args s mc ms (fA w0 s.heap.size)) (hp : po (some v) w) (hc : cells ≤ mc) (hs : slots ≤ ms) (hdg : decode cc pc = .ok (.areturn, 1)) : W p G.1 e R s m args below meth c H locs cells slots Q (F0 m pc ls [v]) := by
  subst hQ
  exact vx_ret (fx_aret hx hb hr hrt hlocks hv hp hI hA hc hs hdg)
theorem rx_thru (hout : ∀ x ∈ c.exceptionTable.toList, ∀ pc, covers x pc = false) (hlocks : meth.locks = false) {E : String} {ce : Cell} {q9 : Addr} (hI : fI G.2.2.1 A s.heap w H locs) (hA : A = fA w0 s.heap.size) (hQ : Q = vx_MQ below (FQ G w0 s.heap.size po) (FXq G w0 s.heap.size pX) args s mc ms (fA w0 s.heap.size)) (hp : pX E w) (hc : cells ≤ mc) (hs : slots ≤ ms) (h1 : H[q9]? = some ce) (h2 : ce.vm = .none) (h3 : s.vm.findClass E = some ce.cls) : vx_W p G.1 e R s m args below meth c H locs cells slots Q (F0 m pc ls rest) q9 := by
  subst hQ
  exact fx_thru hout hlocks hp hI hA hc hs h1 h2 h3
end FXD
end
section
/-! ===== no NaN: thickness, what is borne, waves ===== -/
abbrev c05 : UInt64 := 4602678819172646912
abbrev c075 : UInt64 := 4604930618986332160
abbrev c004 : UInt64 := 4585925428558828667
abbrev c784 : UInt64 := 4635217326480398746
abbrev c1176 : UInt64 := 4637975930603830477
def mag63 (a : UInt64) (K : Nat) : Prop := a.toNat % 2 ^ 63 < K * 2 ^ 52
theorem vf_iff (x : UInt64) : vf_n64 x ↔ x.toNat % 2 ^ 63 ≤ 9218868437227405312 := by
  unfold vf_n64
  rw [UInt64.le_iff_toNat_le, UInt64.toNat_and]
  have h1 : (0x7fffffffffffffff : UInt64).toNat = 2 ^ 63 - 1 := by decide
  have h2 : (0x7ff0000000000000 : UInt64).toNat = 9218868437227405312 := by decide
  rw [h1, h2, Nat.and_two_pow_sub_one_eq_mod]
theorem vf_core (x : UInt64) : vf_n64 x ↔ FP.Core.dIsNaN x = false := by
  rw [vf_iff, FP.Core.notNaN_iff, FP.Core.ne_nan]
theorem mag63.fin {a : UInt64} {K : Nat} (h : mag63 a K) (hK : K ≤ 2047) : FP.Core.DFin a := FP.Core.fin_of_lt h hK
theorem mag63.nn {a : UInt64} {K : Nat} (h : mag63 a K) (hK : K ≤ 2047) : vf_n64 a := (vf_core a).mpr (h.fin hK).notNaN
theorem mag_i2d (v : Int32) : mag63 (FP.i2d v) 1056 := FP.Core.i2d_mag v
theorem mag_c {c : UInt64} {K : Nat} (h : c.toNat % 2 ^ 63 < K * 2 ^ 52) : mag63 c K := h
theorem mag_mono {a : UInt64} {K L : Nat} (h : mag63 a K) (hKL : K ≤ L) : mag63 a L := by
  exact Nat.lt_of_lt_of_le h (Nat.mul_le_mul_right _ hKL)
theorem mag_half (v : Int32) : mag63 (FP.dmul c05 (FP.i2d v)) 1057 :=
  FP.Core.dmul_mag (a := c05) (b := FP.i2d v) (Ka := 1023) (Kb := 1056) (by decide) (mag_i2d v) (by decide) (by decide)
theorem mag_thick (a b : Int32) : mag63 (FP.dadd (FP.i2d a) (FP.dmul c05 (FP.i2d b))) 1059 :=
  FP.Core.dadd_mag (K := 1057) (mag_mono (mag_i2d a) (by decide)) (mag_half b) (by decide)
theorem nn_half (v : Int32) : vf_n64 (FP.dmul c05 (FP.i2d v)) := (mag_half v).nn (by decide)
theorem nn_thick (a b : Int32) : vf_n64 (FP.dadd (FP.i2d a) (FP.dmul c05 (FP.i2d b))) := (mag_thick a b).nn (by decide)
theorem nn_less {k : UInt64} (hk : vf_n64 k) (a b : Int32) : vf_n64 (FP.dsub k (FP.dadd (FP.i2d a) (FP.dmul c05 (FP.i2d b)))) :=
  (vf_core _).mpr (FP.Core.dsub_out ((vf_core _).mp hk) ((mag_thick a b).fin (by decide)))
theorem nn_0 : vf_n64 FP.dconst0 := by unfold vf_n64; decide
theorem nz_of {c : UInt64} (h : c.toNat % 2 ^ 63 ≠ 0) : ¬ FP.Core.DZero c := fun z => h ((FP.Core.zero_bits2 c).mp z)
theorem fin_of {c : UInt64} (h : c.toNat % 2 ^ 63 < 9218868437227405312) : FP.Core.DFin c := (FP.Core.fin_bits c).mpr h
theorem dmul_comm (a b : UInt64) : FP.dmul a b = FP.dmul b a := FP.Core.dmul_comm a b
theorem nn_b1 {t : UInt64} (ht : vf_n64 t) : vf_n64 (FP.dmul c004 t) := by
  rw [dmul_comm]
  exact (vf_core _).mpr (FP.Core.dmul_out' ((vf_core _).mp ht) (fin_of (by decide)) (nz_of (by decide)))
theorem nn_w (c : UInt64) (hc : c.toNat % 2 ^ 63 < 1030 * 2 ^ 52) (v : Int32) : vf_n64 (FP.dmul c (FP.i2d v)) :=
  mag63.nn (FP.Core.dmul_mag (a := c) (b := FP.i2d v) (Ka := 1030) (Kb := 1056) hc (mag_i2d v) (by decide) (by decide)) (by decide)
theorem nn_w1 (v : Int32) : vf_n64 (FP.dmul c784 (FP.i2d v)) := nn_w _ (by decide) v
theorem nn_w2 (v : Int32) : vf_n64 (FP.dmul c1176 (FP.i2d v)) := nn_w _ (by decide) v
theorem nn_b2 {t : UInt64} (ht : vf_n64 t) : vf_n64 (FP.dmul (FP.dmul c004 t) t) := by
  rw [vf_core]
  have h0 := (FP.Core.notNaN_iff _).mp ((vf_core _).mp (nn_b1 ht))
  have h9 := (FP.Core.notNaN_iff _).mp ((vf_core _).mp ht)
  cases h : FP.Core.dIsNaN (FP.dmul (FP.dmul c004 t) t) with
  | false => rfl
  | true =>
    exfalso
    rcases (FP.Core.dmul_nan_iff _ _).mp h with h1 | h1 | ⟨s, h1, h2⟩ | ⟨s, h1, h2⟩
    · exact h0 h1
    · exact h9 h1
    · exact FP.Core.DZero.ne_inf (FP.Core.dmul_zero (fin_of (c := c004) (by decide)) h2) s h1
    · have e : FP.Core.val64 (FP.dmul c004 t) = FP.Core.round FP.Core.b64 (FP.Core.exactProduct (FP.Core.val64 c004) (FP.Core.val64 t)) := FP.Core.val64_dmul _ _
      obtain ⟨s', c', q', hc⟩ := fin_of (c := c004) (by decide)
      rw [h2, hc] at e
      simp only [FP.Core.exactProduct] at e
      split at e
      · exact h0 e
      · exact FP.Core.DZero.ne_inf h1 _ e
theorem nn_b3 {x sv : UInt64} (hx : vf_n64 x) (hs : sv = FP.dconst1 ∨ sv = c075 ∨ sv = c05) : vf_n64 (FP.dmul x sv) := by
  rw [vf_core] at hx ⊢
  rcases hs with rfl | rfl | rfl <;> exact FP.Core.dmul_out' hx (fin_of (by decide)) (nz_of (by decide))
theorem nn_sv {a b : Prop} [Decidable a] [Decidable b] {sv : UInt64} (h : sv = if a then FP.dconst1 else (if b then c075 else c05)) : sv = FP.dconst1 ∨ sv = c075 ∨ sv = c05 := by
  rw [h]
  split
  · exact Or.inl rfl
  · split
    · exact Or.inr (Or.inl rfl)
    · exact Or.inr (Or.inr rfl)
end
section
theorem dX4_init_0 : decode cX4_init 0 = .ok (.aload_n 0, 1) := by decide +kernel
theorem dX4_init_1 : decode cX4_init 1 = .ok (.invokespecial 1, 3) := by decide +kernel
theorem dX4_init_4 : decode cX4_init 4 = .ok (.aload_n 0, 1) := by decide +kernel
theorem dX4_init_5 : decode cX4_init 5 = .ok (.iconst 5, 1) := by decide +kernel
theorem dX4_init_6 : decode cX4_init 6 = .ok (.putfield 7, 3) := by decide +kernel
theorem dX4_init_9 : decode cX4_init 9 = .ok (.aload_n 0, 1) := by decide +kernel
theorem dX4_init_10 : decode cX4_init 10 = .ok (.bipush 10, 2) := by decide +kernel
theorem dX4_init_12 : decode cX4_init 12 = .ok (.newarray .int, 2) := by decide +kernel
theorem dX4_init_14 : decode cX4_init 14 = .ok (.putfield 13, 3) := by decide +kernel
theorem dX4_init_17 : decode cX4_init 17 = .ok (.aload_n 0, 1) := by decide +kernel
theorem dX4_init_18 : decode cX4_init 18 = .ok (.bipush 10, 2) := by decide +kernel
theorem dX4_init_20 : decode cX4_init 20 = .ok (.newarray .int, 2) := by decide +kernel
theorem dX4_init_22 : decode cX4_init 22 = .ok (.putfield 17, 3) := by decide +kernel
theorem dX4_init_25 : decode cX4_init 25 = .ok (.aload_n 0, 1) := by decide +kernel
theorem dX4_init_26 : decode cX4_init 26 = .ok (.bipush 10, 2) := by decide +kernel
theorem dX4_init_28 : decode cX4_init 28 = .ok (.newarray .int, 2) := by decide +kernel
theorem dX4_init_30 : decode cX4_init 30 = .ok (.putfield 20, 3) := by decide +kernel
theorem dX4_init_33 : decode cX4_init 33 = .ok (.aload_n 0, 1) := by decide +kernel
theorem dX4_init_34 : decode cX4_init 34 = .ok (.bipush 10, 2) := by decide +kernel
theorem dX4_init_36 : decode cX4_init 36 = .ok (.newarray .int, 2) := by decide +kernel
theorem dX4_init_38 : decode cX4_init 38 = .ok (.putfield 23, 3) := by decide +kernel
theorem dX4_init_41 : decode cX4_init 41 = .ok (.aload_n 0, 1) := by decide +kernel
theorem dX4_init_42 : decode cX4_init 42 = .ok (.bipush 10, 2) := by decide +kernel
theorem dX4_init_44 : decode cX4_init 44 = .ok (.newarray .int, 2) := by decide +kernel
theorem dX4_init_46 : decode cX4_init 46 = .ok (.putfield 26, 3) := by decide +kernel
theorem dX4_init_49 : decode cX4_init 49 = .ok (.aload_n 0, 1) := by decide +kernel
theorem dX4_init_50 : decode cX4_init 50 = .ok (.bipush 10, 2) := by decide +kernel
theorem dX4_init_52 : decode cX4_init 52 = .ok (.newarray .int, 2) := by decide +kernel
theorem dX4_init_54 : decode cX4_init 54 = .ok (.putfield 29, 3) := by decide +kernel
theorem dX4_init_57 : decode cX4_init 57 = .ok (.aload_n 0, 1) := by decide +kernel
theorem dX4_init_58 : decode cX4_init 58 = .ok (.bipush 10, 2) := by decide +kernel
theorem dX4_init_60 : decode cX4_init 60 = .ok (.newarray .int, 2) := by decide +kernel
theorem dX4_init_62 : decode cX4_init 62 = .ok (.putfield 32, 3) := by decide +kernel
theorem dX4_init_65 : decode cX4_init 65 = .ok (.aload_n 0, 1) := by decide +kernel
theorem dX4_init_66 : decode cX4_init 66 = .ok (.bipush 10, 2) := by decide +kernel
theorem dX4_init_68 : decode cX4_init 68 = .ok (.newarray .int, 2) := by decide +kernel
theorem dX4_init_70 : decode cX4_init 70 = .ok (.putfield 35, 3) := by decide +kernel
theorem dX4_init_73 : decode cX4_init 73 = .ok (.aload_n 0, 1) := by decide +kernel
theorem dX4_init_74 : decode cX4_init 74 = .ok (.bipush 10, 2) := by decide +kernel
theorem dX4_init_76 : decode cX4_init 76 = .ok (.newarray .int, 2) := by decide +kernel
theorem dX4_init_78 : decode cX4_init 78 = .ok (.putfield 38, 3) := by decide +kernel
theorem dX4_init_81 : decode cX4_init 81 = .ok (.aload_n 0, 1) := by decide +kernel
theorem dX4_init_82 : decode cX4_init 82 = .ok (.bipush 10, 2) := by decide +kernel
theorem dX4_init_84 : decode cX4_init 84 = .ok (.newarray .int, 2) := by decide +kernel
theorem dX4_init_86 : decode cX4_init 86 = .ok (.putfield 41, 3) := by decide +kernel
theorem dX4_init_89 : decode cX4_init 89 = .ok (.aload_n 0, 1) := by decide +kernel
theorem dX4_init_90 : decode cX4_init 90 = .ok (.bipush 10, 2) := by decide +kernel
theorem dX4_init_92 : decode cX4_init 92 = .ok (.newarray .double, 2) := by decide +kernel
theorem dX4_init_94 : decode cX4_init 94 = .ok (.putfield 44, 3) := by decide +kernel
theorem dX4_init_97 : decode cX4_init 97 = .ok (.aload_n 0, 1) := by decide +kernel
theorem dX4_init_98 : decode cX4_init 98 = .ok (.bipush 20, 2) := by decide +kernel
theorem dX4_init_100 : decode cX4_init 100 = .ok (.newarray .int, 2) := by decide +kernel
theorem dX4_init_102 : decode cX4_init 102 = .ok (.putfield 48, 3) := by decide +kernel
theorem dX4_init_105 : decode cX4_init 105 = .ok (.aload_n 0, 1) := by decide +kernel
theorem dX4_init_106 : decode cX4_init 106 = .ok (.bipush 16, 2) := by decide +kernel
theorem dX4_init_108 : decode cX4_init 108 = .ok (.newarray .int, 2) := by decide +kernel
theorem dX4_init_110 : decode cX4_init 110 = .ok (.putfield 51, 3) := by decide +kernel
theorem dX4_init_113 : decode cX4_init 113 = .ok (.aload_n 0, 1) := by decide +kernel
theorem dX4_init_114 : decode cX4_init 114 = .ok (.bipush 16, 2) := by decide +kernel
theorem dX4_init_116 : decode cX4_init 116 = .ok (.newarray .int, 2) := by decide +kernel
theorem dX4_init_118 : decode cX4_init 118 = .ok (.putfield 54, 3) := by decide +kernel
theorem dX4_init_121 : decode cX4_init 121 = .ok (.aload_n 0, 1) := by decide +kernel
theorem dX4_init_122 : decode cX4_init 122 = .ok (.bipush 16, 2) := by decide +kernel
theorem dX4_init_124 : decode cX4_init 124 = .ok (.newarray .int, 2) := by decide +kernel
theorem dX4_init_126 : decode cX4_init 126 = .ok (.putfield 57, 3) := by decide +kernel
theorem dX4_init_129 : decode cX4_init 129 = .ok (.aload_n 0, 1) := by decide +kernel
theorem dX4_init_130 : decode cX4_init 130 = .ok (.bipush 16, 2) := by decide +kernel
theorem dX4_init_132 : decode cX4_init 132 = .ok (.newarray .int, 2) := by decide +kernel
theorem dX4_init_134 : decode cX4_init 134 = .ok (.putfield 60, 3) := by decide +kernel
theorem dX4_init_137 : decode cX4_init 137 = .ok (.aload_n 0, 1) := by decide +kernel
theorem dX4_init_138 : decode cX4_init 138 = .ok (.bipush 16, 2) := by decide +kernel
theorem dX4_init_140 : decode cX4_init 140 = .ok (.newarray .int, 2) := by decide +kernel
theorem dX4_init_142 : decode cX4_init 142 = .ok (.putfield 63, 3) := by decide +kernel
theorem dX4_init_145 : decode cX4_init 145 = .ok (.aload_n 0, 1) := by decide +kernel
theorem dX4_init_146 : decode cX4_init 146 = .ok (.bipush 16, 2) := by decide +kernel
theorem dX4_init_148 : decode cX4_init 148 = .ok (.newarray .boolean, 2) := by decide +kernel
theorem dX4_init_150 : decode cX4_init 150 = .ok (.putfield 66, 3) := by decide +kernel
theorem dX4_init_153 : decode cX4_init 153 = .ok (.aload_n 0, 1) := by decide +kernel
theorem dX4_init_154 : decode cX4_init 154 = .ok (.bipush 16, 2) := by decide +kernel
theorem dX4_init_156 : decode cX4_init 156 = .ok (.newarray .int, 2) := by decide +kernel
theorem dX4_init_158 : decode cX4_init 158 = .ok (.putfield 70, 3) := by decide +kernel
theorem dX4_init_161 : decode cX4_init 161 = .ok (.aload_n 0, 1) := by decide +kernel
theorem dX4_init_162 : decode cX4_init 162 = .ok (.bipush 16, 2) := by decide +kernel
theorem dX4_init_164 : decode cX4_init 164 = .ok (.newarray .int, 2) := by decide +kernel
theorem dX4_init_166 : decode cX4_init 166 = .ok (.putfield 73, 3) := by decide +kernel
theorem dX4_init_169 : decode cX4_init 169 = .ok (.aload_n 0, 1) := by decide +kernel
theorem dX4_init_170 : decode cX4_init 170 = .ok (.bipush 16, 2) := by decide +kernel
theorem dX4_init_172 : decode cX4_init 172 = .ok (.newarray .int, 2) := by decide +kernel
theorem dX4_init_174 : decode cX4_init 174 = .ok (.putfield 76, 3) := by decide +kernel
theorem dX4_init_177 : decode cX4_init 177 = .ok (.aload_n 0, 1) := by decide +kernel
theorem dX4_init_178 : decode cX4_init 178 = .ok (.iconst 3, 1) := by decide +kernel
theorem dX4_init_179 : decode cX4_init 179 = .ok (.newarray .int, 2) := by decide +kernel
theorem dX4_init_181 : decode cX4_init 181 = .ok (.putfield 79, 3) := by decide +kernel
theorem dX4_init_184 : decode cX4_init 184 = .ok (.aload_n 0, 1) := by decide +kernel
theorem dX4_init_185 : decode cX4_init 185 = .ok (.iconst 3, 1) := by decide +kernel
theorem dX4_init_186 : decode cX4_init 186 = .ok (.newarray .int, 2) := by decide +kernel
theorem dX4_init_188 : decode cX4_init 188 = .ok (.putfield 82, 3) := by decide +kernel
theorem dX4_init_191 : decode cX4_init 191 = .ok (.aload_n 0, 1) := by decide +kernel
theorem dX4_init_192 : decode cX4_init 192 = .ok (.iconst 3, 1) := by decide +kernel
theorem dX4_init_193 : decode cX4_init 193 = .ok (.newarray .int, 2) := by decide +kernel
theorem dX4_init_195 : decode cX4_init 195 = .ok (.putfield 85, 3) := by decide +kernel
theorem dX4_init_198 : decode cX4_init 198 = .ok (.return_, 1) := by decide +kernel
theorem dX4_thrown_0 : decode cX4_thrown 0 = .ok (.aload_n 0, 1) := by decide +kernel
theorem dX4_thrown_1 : decode cX4_thrown 1 = .ok (.getfield 88, 3) := by decide +kernel
theorem dX4_thrown_4 : decode cX4_thrown 4 = .ok (.ireturn, 1) := by decide +kernel
theorem dX4_fails_0 : decode cX4_fails 0 = .ok (.aload_n 0, 1) := by decide +kernel
theorem dX4_fails_1 : decode cX4_fails 1 = .ok (.iload_n 1, 1) := by decide +kernel
theorem dX4_fails_2 : decode cX4_fails 2 = .ok (.putfield 88, 3) := by decide +kernel
theorem dX4_fails_5 : decode cX4_fails 5 = .ok (.iload_n 1, 1) := by decide +kernel
theorem dX4_fails_6 : decode cX4_fails 6 = .ok (.ifCond .le 7, 3) := by decide +kernel
theorem dX4_fails_9 : decode cX4_fails 9 = .ok (.iconst 1, 1) := by decide +kernel
theorem dX4_fails_10 : decode cX4_fails 10 = .ok (.goto 4, 3) := by decide +kernel
theorem dX4_fails_13 : decode cX4_fails 13 = .ok (.iconst 0, 1) := by decide +kernel
theorem dX4_fails_14 : decode cX4_fails 14 = .ok (.ireturn, 1) := by decide +kernel
theorem dX4_isIn_0 : decode cX4_isIn 0 = .ok (.iload_n 0, 1) := by decide +kernel
theorem dX4_isIn_1 : decode cX4_isIn 1 = .ok (.iload_n 1, 1) := by decide +kernel
theorem dX4_isIn_2 : decode cX4_isIn 2 = .ok (.if_icmp .lt 12, 3) := by decide +kernel
theorem dX4_isIn_5 : decode cX4_isIn 5 = .ok (.iload_n 0, 1) := by decide +kernel
theorem dX4_isIn_6 : decode cX4_isIn 6 = .ok (.iload_n 2, 1) := by decide +kernel
theorem dX4_isIn_7 : decode cX4_isIn 7 = .ok (.if_icmp .gt 7, 3) := by decide +kernel
theorem dX4_isIn_10 : decode cX4_isIn 10 = .ok (.iconst 1, 1) := by decide +kernel
theorem dX4_isIn_11 : decode cX4_isIn 11 = .ok (.goto 4, 3) := by decide +kernel
theorem dX4_isIn_14 : decode cX4_isIn 14 = .ok (.iconst 0, 1) := by decide +kernel
theorem dX4_isIn_15 : decode cX4_isIn 15 = .ok (.ireturn, 1) := by decide +kernel
theorem dX4_isPiece_0 : decode cX4_isPiece 0 = .ok (.iload_n 1, 1) := by decide +kernel
theorem dX4_isPiece_1 : decode cX4_isPiece 1 = .ok (.iconst 0, 1) := by decide +kernel
theorem dX4_isPiece_2 : decode cX4_isPiece 2 = .ok (.aload_n 0, 1) := by decide +kernel
theorem dX4_isPiece_3 : decode cX4_isPiece 3 = .ok (.getfield 91, 3) := by decide +kernel
theorem dX4_isPiece_6 : decode cX4_isPiece 6 = .ok (.iconst 1, 1) := by decide +kernel
theorem dX4_isPiece_7 : decode cX4_isPiece 7 = .ok (.isub, 1) := by decide +kernel
theorem dX4_isPiece_8 : decode cX4_isPiece 8 = .ok (.invokestatic 94, 3) := by decide +kernel
theorem dX4_isPiece_11 : decode cX4_isPiece 11 = .ok (.ireturn, 1) := by decide +kernel
theorem dX4_isVehicle_0 : decode cX4_isVehicle 0 = .ok (.iload_n 1, 1) := by decide +kernel
theorem dX4_isVehicle_1 : decode cX4_isVehicle 1 = .ok (.iconst 0, 1) := by decide +kernel
theorem dX4_isVehicle_2 : decode cX4_isVehicle 2 = .ok (.aload_n 0, 1) := by decide +kernel
theorem dX4_isVehicle_3 : decode cX4_isVehicle 3 = .ok (.getfield 98, 3) := by decide +kernel
theorem dX4_isVehicle_6 : decode cX4_isVehicle 6 = .ok (.iconst 1, 1) := by decide +kernel
theorem dX4_isVehicle_7 : decode cX4_isVehicle 7 = .ok (.isub, 1) := by decide +kernel
theorem dX4_isVehicle_8 : decode cX4_isVehicle 8 = .ok (.invokestatic 94, 3) := by decide +kernel
theorem dX4_isVehicle_11 : decode cX4_isVehicle 11 = .ok (.ireturn, 1) := by decide +kernel
theorem dX4_isGoods_0 : decode cX4_isGoods 0 = .ok (.iload_n 0, 1) := by decide +kernel
theorem dX4_isGoods_1 : decode cX4_isGoods 1 = .ok (.iconst 0, 1) := by decide +kernel
theorem dX4_isGoods_2 : decode cX4_isGoods 2 = .ok (.iconst 2, 1) := by decide +kernel
theorem dX4_isGoods_3 : decode cX4_isGoods 3 = .ok (.invokestatic 94, 3) := by decide +kernel
theorem dX4_isGoods_6 : decode cX4_isGoods 6 = .ok (.ireturn, 1) := by decide +kernel
theorem dX4_isWater_0 : decode cX4_isWater 0 = .ok (.aload_n 0, 1) := by decide +kernel
theorem dX4_isWater_1 : decode cX4_isWater 1 = .ok (.getfield 13, 3) := by decide +kernel
theorem dX4_isWater_4 : decode cX4_isWater 4 = .ok (.iload_n 1, 1) := by decide +kernel
theorem dX4_isWater_5 : decode cX4_isWater 5 = .ok (.iaload, 1) := by decide +kernel
theorem dX4_isWater_6 : decode cX4_isWater 6 = .ok (.iconst 2, 1) := by decide +kernel
theorem dX4_isWater_7 : decode cX4_isWater 7 = .ok (.if_icmp .eq 7, 3) := by decide +kernel
theorem dX4_isWater_10 : decode cX4_isWater 10 = .ok (.iconst 1, 1) := by decide +kernel
theorem dX4_isWater_11 : decode cX4_isWater 11 = .ok (.goto 4, 3) := by decide +kernel
theorem dX4_isWater_14 : decode cX4_isWater 14 = .ok (.iconst 0, 1) := by decide +kernel
theorem dX4_isWater_15 : decode cX4_isWater 15 = .ok (.ireturn, 1) := by decide +kernel
theorem dX4_piece_0 : decode cX4_piece 0 = .ok (.iload_n 1, 1) := by decide +kernel
theorem dX4_piece_1 : decode cX4_piece 1 = .ok (.iconst 0, 1) := by decide +kernel
theorem dX4_piece_2 : decode cX4_piece 2 = .ok (.iconst 2, 1) := by decide +kernel
theorem dX4_piece_3 : decode cX4_piece 3 = .ok (.invokestatic 94, 3) := by decide +kernel
theorem dX4_piece_6 : decode cX4_piece 6 = .ok (.ifCond .eq 29, 3) := by decide +kernel
theorem dX4_piece_9 : decode cX4_piece 9 = .ok (.iload_n 2, 1) := by decide +kernel
theorem dX4_piece_10 : decode cX4_piece 10 = .ok (.iconst 1, 1) := by decide +kernel
theorem dX4_piece_11 : decode cX4_piece 11 = .ok (.sipush 20000, 3) := by decide +kernel
theorem dX4_piece_14 : decode cX4_piece 14 = .ok (.invokestatic 94, 3) := by decide +kernel
theorem dX4_piece_17 : decode cX4_piece 17 = .ok (.ifCond .eq 18, 3) := by decide +kernel
theorem dX4_piece_20 : decode cX4_piece 20 = .ok (.iload_n 3, 1) := by decide +kernel
theorem dX4_piece_21 : decode cX4_piece 21 = .ok (.iconst 1, 1) := by decide +kernel
theorem dX4_piece_22 : decode cX4_piece 22 = .ok (.sipush 999, 3) := by decide +kernel
theorem dX4_piece_25 : decode cX4_piece 25 = .ok (.invokestatic 94, 3) := by decide +kernel
theorem dX4_piece_28 : decode cX4_piece 28 = .ok (.ifCond .eq 7, 3) := by decide +kernel
theorem dX4_piece_31 : decode cX4_piece 31 = .ok (.iconst 1, 1) := by decide +kernel
theorem dX4_piece_32 : decode cX4_piece 32 = .ok (.goto 4, 3) := by decide +kernel
theorem dX4_piece_35 : decode cX4_piece 35 = .ok (.iconst 0, 1) := by decide +kernel
theorem dX4_piece_36 : decode cX4_piece 36 = .ok (.istore 4, 2) := by decide +kernel
theorem dX4_piece_38 : decode cX4_piece 38 = .ok (.aload_n 0, 1) := by decide +kernel
theorem dX4_piece_39 : decode cX4_piece 39 = .ok (.iload 4, 2) := by decide +kernel
theorem dX4_piece_41 : decode cX4_piece 41 = .ok (.ifCond .ne 7, 3) := by decide +kernel
theorem dX4_piece_44 : decode cX4_piece 44 = .ok (.iconst 1, 1) := by decide +kernel
theorem dX4_piece_45 : decode cX4_piece 45 = .ok (.goto 24, 3) := by decide +kernel
theorem dX4_piece_48 : decode cX4_piece 48 = .ok (.aload_n 0, 1) := by decide +kernel
theorem dX4_piece_49 : decode cX4_piece 49 = .ok (.getfield 91, 3) := by decide +kernel
theorem dX4_piece_52 : decode cX4_piece 52 = .ok (.bipush 10, 2) := by decide +kernel
theorem dX4_piece_54 : decode cX4_piece 54 = .ok (.if_icmp .eq 10, 3) := by decide +kernel
theorem dX4_piece_57 : decode cX4_piece 57 = .ok (.aload_n 0, 1) := by decide +kernel
theorem dX4_piece_58 : decode cX4_piece 58 = .ok (.getfield 98, 3) := by decide +kernel
theorem dX4_piece_61 : decode cX4_piece 61 = .ok (.ifCond .le 7, 3) := by decide +kernel
theorem dX4_piece_64 : decode cX4_piece 64 = .ok (.iconst 2, 1) := by decide +kernel
theorem dX4_piece_65 : decode cX4_piece 65 = .ok (.goto 4, 3) := by decide +kernel
theorem dX4_piece_68 : decode cX4_piece 68 = .ok (.iconst 0, 1) := by decide +kernel
theorem dX4_piece_69 : decode cX4_piece 69 = .ok (.invokevirtual 101, 3) := by decide +kernel
theorem dX4_piece_72 : decode cX4_piece 72 = .ok (.ifCond .eq 5, 3) := by decide +kernel
theorem dX4_piece_75 : decode cX4_piece 75 = .ok (.iconst 0, 1) := by decide +kernel
theorem dX4_piece_76 : decode cX4_piece 76 = .ok (.ireturn, 1) := by decide +kernel
theorem dX4_piece_77 : decode cX4_piece 77 = .ok (.aload_n 0, 1) := by decide +kernel
theorem dX4_piece_78 : decode cX4_piece 78 = .ok (.getfield 13, 3) := by decide +kernel
theorem dX4_piece_81 : decode cX4_piece 81 = .ok (.aload_n 0, 1) := by decide +kernel
theorem dX4_piece_82 : decode cX4_piece 82 = .ok (.getfield 91, 3) := by decide +kernel
theorem dX4_piece_85 : decode cX4_piece 85 = .ok (.iload_n 1, 1) := by decide +kernel
theorem dX4_piece_86 : decode cX4_piece 86 = .ok (.iastore, 1) := by decide +kernel
theorem dX4_piece_87 : decode cX4_piece 87 = .ok (.aload_n 0, 1) := by decide +kernel
theorem dX4_piece_88 : decode cX4_piece 88 = .ok (.getfield 17, 3) := by decide +kernel
theorem dX4_piece_91 : decode cX4_piece 91 = .ok (.aload_n 0, 1) := by decide +kernel
theorem dX4_piece_92 : decode cX4_piece 92 = .ok (.getfield 91, 3) := by decide +kernel
theorem dX4_piece_95 : decode cX4_piece 95 = .ok (.iload_n 2, 1) := by decide +kernel
theorem dX4_piece_96 : decode cX4_piece 96 = .ok (.iastore, 1) := by decide +kernel
theorem dX4_piece_97 : decode cX4_piece 97 = .ok (.aload_n 0, 1) := by decide +kernel
theorem dX4_piece_98 : decode cX4_piece 98 = .ok (.getfield 20, 3) := by decide +kernel
theorem dX4_piece_101 : decode cX4_piece 101 = .ok (.aload_n 0, 1) := by decide +kernel
theorem dX4_piece_102 : decode cX4_piece 102 = .ok (.getfield 91, 3) := by decide +kernel
theorem dX4_piece_105 : decode cX4_piece 105 = .ok (.iload_n 3, 1) := by decide +kernel
theorem dX4_piece_106 : decode cX4_piece 106 = .ok (.iastore, 1) := by decide +kernel
theorem dX4_piece_107 : decode cX4_piece 107 = .ok (.aload_n 0, 1) := by decide +kernel
theorem dX4_piece_108 : decode cX4_piece 108 = .ok (.getfield 41, 3) := by decide +kernel
theorem dX4_piece_111 : decode cX4_piece 111 = .ok (.aload_n 0, 1) := by decide +kernel
theorem dX4_piece_112 : decode cX4_piece 112 = .ok (.getfield 91, 3) := by decide +kernel
theorem dX4_piece_115 : decode cX4_piece 115 = .ok (.bipush 100, 2) := by decide +kernel
theorem dX4_piece_117 : decode cX4_piece 117 = .ok (.iastore, 1) := by decide +kernel
theorem dX4_piece_118 : decode cX4_piece 118 = .ok (.aload_n 0, 1) := by decide +kernel
theorem dX4_piece_119 : decode cX4_piece 119 = .ok (.getfield 48, 3) := by decide +kernel
theorem dX4_piece_122 : decode cX4_piece 122 = .ok (.iconst 2, 1) := by decide +kernel
theorem dX4_piece_123 : decode cX4_piece 123 = .ok (.aload_n 0, 1) := by decide +kernel
theorem dX4_piece_124 : decode cX4_piece 124 = .ok (.getfield 91, 3) := by decide +kernel
theorem dX4_piece_127 : decode cX4_piece 127 = .ok (.imul, 1) := by decide +kernel
theorem dX4_piece_128 : decode cX4_piece 128 = .ok (.ldc 105, 2) := by decide +kernel
theorem dX4_piece_130 : decode cX4_piece 130 = .ok (.iastore, 1) := by decide +kernel
theorem dX4_piece_131 : decode cX4_piece 131 = .ok (.aload_n 0, 1) := by decide +kernel
theorem dX4_piece_132 : decode cX4_piece 132 = .ok (.getfield 48, 3) := by decide +kernel
theorem dX4_piece_135 : decode cX4_piece 135 = .ok (.iconst 2, 1) := by decide +kernel
theorem dX4_piece_136 : decode cX4_piece 136 = .ok (.aload_n 0, 1) := by decide +kernel
theorem dX4_piece_137 : decode cX4_piece 137 = .ok (.getfield 91, 3) := by decide +kernel
theorem dX4_piece_140 : decode cX4_piece 140 = .ok (.imul, 1) := by decide +kernel
theorem dX4_piece_141 : decode cX4_piece 141 = .ok (.iconst 1, 1) := by decide +kernel
theorem dX4_piece_142 : decode cX4_piece 142 = .ok (.iadd, 1) := by decide +kernel
theorem dX4_piece_143 : decode cX4_piece 143 = .ok (.ldc 105, 2) := by decide +kernel
theorem dX4_piece_145 : decode cX4_piece 145 = .ok (.iastore, 1) := by decide +kernel
theorem dX4_piece_146 : decode cX4_piece 146 = .ok (.aload_n 0, 1) := by decide +kernel
theorem dX4_piece_147 : decode cX4_piece 147 = .ok (.dup, 1) := by decide +kernel
theorem dX4_piece_148 : decode cX4_piece 148 = .ok (.getfield 91, 3) := by decide +kernel
theorem dX4_piece_151 : decode cX4_piece 151 = .ok (.iconst 1, 1) := by decide +kernel
theorem dX4_piece_152 : decode cX4_piece 152 = .ok (.iadd, 1) := by decide +kernel
theorem dX4_piece_153 : decode cX4_piece 153 = .ok (.putfield 91, 3) := by decide +kernel
theorem dX4_piece_156 : decode cX4_piece 156 = .ok (.aload_n 0, 1) := by decide +kernel
theorem dX4_piece_157 : decode cX4_piece 157 = .ok (.getfield 91, 3) := by decide +kernel
theorem dX4_piece_160 : decode cX4_piece 160 = .ok (.iconst 1, 1) := by decide +kernel
theorem dX4_piece_161 : decode cX4_piece 161 = .ok (.isub, 1) := by decide +kernel
theorem dX4_piece_162 : decode cX4_piece 162 = .ok (.ireturn, 1) := by decide +kernel
theorem dX4_weather_0 : decode cX4_weather 0 = .ok (.aload_n 0, 1) := by decide +kernel
theorem dX4_weather_1 : decode cX4_weather 1 = .ok (.iload_n 1, 1) := by decide +kernel
theorem dX4_weather_2 : decode cX4_weather 2 = .ok (.bipush (-20), 2) := by decide +kernel
theorem dX4_weather_4 : decode cX4_weather 4 = .ok (.bipush 60, 2) := by decide +kernel
theorem dX4_weather_6 : decode cX4_weather 6 = .ok (.invokestatic 94, 3) := by decide +kernel
theorem dX4_weather_9 : decode cX4_weather 9 = .ok (.ifCond .eq 7, 3) := by decide +kernel
theorem dX4_weather_12 : decode cX4_weather 12 = .ok (.iconst 0, 1) := by decide +kernel
theorem dX4_weather_13 : decode cX4_weather 13 = .ok (.goto 4, 3) := by decide +kernel
theorem dX4_weather_16 : decode cX4_weather 16 = .ok (.iconst 1, 1) := by decide +kernel
theorem dX4_weather_17 : decode cX4_weather 17 = .ok (.invokevirtual 101, 3) := by decide +kernel
theorem dX4_weather_20 : decode cX4_weather 20 = .ok (.ifCond .eq 5, 3) := by decide +kernel
theorem dX4_weather_23 : decode cX4_weather 23 = .ok (.iconst 0, 1) := by decide +kernel
theorem dX4_weather_24 : decode cX4_weather 24 = .ok (.ireturn, 1) := by decide +kernel
theorem dX4_weather_25 : decode cX4_weather 25 = .ok (.aload_n 0, 1) := by decide +kernel
theorem dX4_weather_26 : decode cX4_weather 26 = .ok (.getfield 106, 3) := by decide +kernel
theorem dX4_weather_29 : decode cX4_weather 29 = .ok (.istore_n 2, 1) := by decide +kernel
theorem dX4_weather_30 : decode cX4_weather 30 = .ok (.aload_n 0, 1) := by decide +kernel
theorem dX4_weather_31 : decode cX4_weather 31 = .ok (.iload_n 1, 1) := by decide +kernel
theorem dX4_weather_32 : decode cX4_weather 32 = .ok (.putfield 106, 3) := by decide +kernel
theorem dX4_weather_35 : decode cX4_weather 35 = .ok (.iload_n 2, 1) := by decide +kernel
theorem dX4_weather_36 : decode cX4_weather 36 = .ok (.ireturn, 1) := by decide +kernel
theorem dX4_snow_0 : decode cX4_snow 0 = .ok (.aload_n 0, 1) := by decide +kernel
theorem dX4_snow_1 : decode cX4_snow 1 = .ok (.iload_n 1, 1) := by decide +kernel
theorem dX4_snow_2 : decode cX4_snow 2 = .ok (.iconst 1, 1) := by decide +kernel
theorem dX4_snow_3 : decode cX4_snow 3 = .ok (.sipush 500, 3) := by decide +kernel
theorem dX4_snow_6 : decode cX4_snow 6 = .ok (.invokestatic 94, 3) := by decide +kernel
theorem dX4_snow_9 : decode cX4_snow 9 = .ok (.ifCond .eq 7, 3) := by decide +kernel
theorem dX4_snow_12 : decode cX4_snow 12 = .ok (.iconst 0, 1) := by decide +kernel
theorem dX4_snow_13 : decode cX4_snow 13 = .ok (.goto 4, 3) := by decide +kernel
theorem dX4_snow_16 : decode cX4_snow 16 = .ok (.iconst 1, 1) := by decide +kernel
theorem dX4_snow_17 : decode cX4_snow 17 = .ok (.invokevirtual 101, 3) := by decide +kernel
theorem dX4_snow_20 : decode cX4_snow 20 = .ok (.ifCond .eq 5, 3) := by decide +kernel
theorem dX4_snow_23 : decode cX4_snow 23 = .ok (.iconst 0, 1) := by decide +kernel
theorem dX4_snow_24 : decode cX4_snow 24 = .ok (.ireturn, 1) := by decide +kernel
theorem dX4_snow_25 : decode cX4_snow 25 = .ok (.iconst 0, 1) := by decide +kernel
theorem dX4_snow_26 : decode cX4_snow 26 = .ok (.istore_n 2, 1) := by decide +kernel
theorem dX4_snow_27 : decode cX4_snow 27 = .ok (.iload_n 2, 1) := by decide +kernel
theorem dX4_snow_28 : decode cX4_snow 28 = .ok (.aload_n 0, 1) := by decide +kernel
theorem dX4_snow_29 : decode cX4_snow 29 = .ok (.getfield 91, 3) := by decide +kernel
theorem dX4_snow_32 : decode cX4_snow 32 = .ok (.if_icmp .ge 19, 3) := by decide +kernel
theorem dX4_snow_35 : decode cX4_snow 35 = .ok (.aload_n 0, 1) := by decide +kernel
theorem dX4_snow_36 : decode cX4_snow 36 = .ok (.getfield 32, 3) := by decide +kernel
theorem dX4_snow_39 : decode cX4_snow 39 = .ok (.iload_n 2, 1) := by decide +kernel
theorem dX4_snow_40 : decode cX4_snow 40 = .ok (.dup2, 1) := by decide +kernel
theorem dX4_snow_41 : decode cX4_snow 41 = .ok (.iaload, 1) := by decide +kernel
theorem dX4_snow_42 : decode cX4_snow 42 = .ok (.iload_n 1, 1) := by decide +kernel
theorem dX4_snow_43 : decode cX4_snow 43 = .ok (.iadd, 1) := by decide +kernel
theorem dX4_snow_44 : decode cX4_snow 44 = .ok (.iastore, 1) := by decide +kernel
theorem dX4_snow_45 : decode cX4_snow 45 = .ok (.iinc 2 1, 3) := by decide +kernel
theorem dX4_snow_48 : decode cX4_snow 48 = .ok (.goto (-21), 3) := by decide +kernel
theorem dX4_snow_51 : decode cX4_snow 51 = .ok (.aload_n 0, 1) := by decide +kernel
theorem dX4_snow_52 : decode cX4_snow 52 = .ok (.getfield 91, 3) := by decide +kernel
theorem dX4_snow_55 : decode cX4_snow 55 = .ok (.ireturn, 1) := by decide +kernel
theorem dX4_plough_0 : decode cX4_plough 0 = .ok (.aload_n 0, 1) := by decide +kernel
theorem dX4_plough_1 : decode cX4_plough 1 = .ok (.aload_n 0, 1) := by decide +kernel
theorem dX4_plough_2 : decode cX4_plough 2 = .ok (.iload_n 1, 1) := by decide +kernel
theorem dX4_plough_3 : decode cX4_plough 3 = .ok (.invokevirtual 109, 3) := by decide +kernel
theorem dX4_plough_6 : decode cX4_plough 6 = .ok (.ifCond .eq 7, 3) := by decide +kernel
theorem dX4_plough_9 : decode cX4_plough 9 = .ok (.iconst 0, 1) := by decide +kernel
theorem dX4_plough_10 : decode cX4_plough 10 = .ok (.goto 4, 3) := by decide +kernel
theorem dX4_plough_13 : decode cX4_plough 13 = .ok (.iconst 1, 1) := by decide +kernel
theorem dX4_plough_14 : decode cX4_plough 14 = .ok (.invokevirtual 101, 3) := by decide +kernel
theorem dX4_plough_17 : decode cX4_plough 17 = .ok (.ifCond .eq 5, 3) := by decide +kernel
theorem dX4_plough_20 : decode cX4_plough 20 = .ok (.iconst 0, 1) := by decide +kernel
theorem dX4_plough_21 : decode cX4_plough 21 = .ok (.ireturn, 1) := by decide +kernel
theorem dX4_plough_22 : decode cX4_plough 22 = .ok (.aload_n 0, 1) := by decide +kernel
theorem dX4_plough_23 : decode cX4_plough 23 = .ok (.getfield 32, 3) := by decide +kernel
theorem dX4_plough_26 : decode cX4_plough 26 = .ok (.iload_n 1, 1) := by decide +kernel
theorem dX4_plough_27 : decode cX4_plough 27 = .ok (.iaload, 1) := by decide +kernel
theorem dX4_plough_28 : decode cX4_plough 28 = .ok (.istore_n 2, 1) := by decide +kernel
theorem dX4_plough_29 : decode cX4_plough 29 = .ok (.aload_n 0, 1) := by decide +kernel
theorem dX4_plough_30 : decode cX4_plough 30 = .ok (.getfield 32, 3) := by decide +kernel
theorem dX4_plough_33 : decode cX4_plough 33 = .ok (.iload_n 1, 1) := by decide +kernel
theorem dX4_plough_34 : decode cX4_plough 34 = .ok (.iconst 0, 1) := by decide +kernel
theorem dX4_plough_35 : decode cX4_plough 35 = .ok (.iastore, 1) := by decide +kernel
theorem dX4_plough_36 : decode cX4_plough 36 = .ok (.iload_n 2, 1) := by decide +kernel
theorem dX4_plough_37 : decode cX4_plough 37 = .ok (.ireturn, 1) := by decide +kernel
theorem dX4_flood_0 : decode cX4_flood 0 = .ok (.aload_n 0, 1) := by decide +kernel
theorem dX4_flood_1 : decode cX4_flood 1 = .ok (.iload_n 1, 1) := by decide +kernel
theorem dX4_flood_2 : decode cX4_flood 2 = .ok (.invokevirtual 109, 3) := by decide +kernel
theorem dX4_flood_5 : decode cX4_flood 5 = .ok (.istore_n 3, 1) := by decide +kernel
theorem dX4_flood_6 : decode cX4_flood 6 = .ok (.iload_n 2, 1) := by decide +kernel
theorem dX4_flood_7 : decode cX4_flood 7 = .ok (.iconst 1, 1) := by decide +kernel
theorem dX4_flood_8 : decode cX4_flood 8 = .ok (.bipush 100, 2) := by decide +kernel
theorem dX4_flood_10 : decode cX4_flood 10 = .ok (.invokestatic 94, 3) := by decide +kernel
theorem dX4_flood_13 : decode cX4_flood 13 = .ok (.istore 4, 2) := by decide +kernel
theorem dX4_flood_15 : decode cX4_flood 15 = .ok (.iload_n 3, 1) := by decide +kernel
theorem dX4_flood_16 : decode cX4_flood 16 = .ok (.ifCond .eq 50, 3) := by decide +kernel
theorem dX4_flood_19 : decode cX4_flood 19 = .ok (.iload 4, 2) := by decide +kernel
theorem dX4_flood_21 : decode cX4_flood 21 = .ok (.ifCond .eq 45, 3) := by decide +kernel
theorem dX4_flood_24 : decode cX4_flood 24 = .ok (.aload_n 0, 1) := by decide +kernel
theorem dX4_flood_25 : decode cX4_flood 25 = .ok (.iload_n 1, 1) := by decide +kernel
theorem dX4_flood_26 : decode cX4_flood 26 = .ok (.invokevirtual 112, 3) := by decide +kernel
theorem dX4_flood_29 : decode cX4_flood 29 = .ok (.ifCond .eq 37, 3) := by decide +kernel
theorem dX4_flood_32 : decode cX4_flood 32 = .ok (.aload_n 0, 1) := by decide +kernel
theorem dX4_flood_33 : decode cX4_flood 33 = .ok (.getfield 23, 3) := by decide +kernel
theorem dX4_flood_36 : decode cX4_flood 36 = .ok (.iload_n 1, 1) := by decide +kernel
theorem dX4_flood_37 : decode cX4_flood 37 = .ok (.iaload, 1) := by decide +kernel
theorem dX4_flood_38 : decode cX4_flood 38 = .ok (.aload_n 0, 1) := by decide +kernel
theorem dX4_flood_39 : decode cX4_flood 39 = .ok (.getfield 26, 3) := by decide +kernel
theorem dX4_flood_42 : decode cX4_flood 42 = .ok (.iload_n 1, 1) := by decide +kernel
theorem dX4_flood_43 : decode cX4_flood 43 = .ok (.iaload, 1) := by decide +kernel
theorem dX4_flood_44 : decode cX4_flood 44 = .ok (.iadd, 1) := by decide +kernel
theorem dX4_flood_45 : decode cX4_flood 45 = .ok (.ifCond .le 21, 3) := by decide +kernel
theorem dX4_flood_48 : decode cX4_flood 48 = .ok (.aload_n 0, 1) := by decide +kernel
theorem dX4_flood_49 : decode cX4_flood 49 = .ok (.getfield 29, 3) := by decide +kernel
theorem dX4_flood_52 : decode cX4_flood 52 = .ok (.iload_n 1, 1) := by decide +kernel
theorem dX4_flood_53 : decode cX4_flood 53 = .ok (.iaload, 1) := by decide +kernel
theorem dX4_flood_54 : decode cX4_flood 54 = .ok (.iload_n 2, 1) := by decide +kernel
theorem dX4_flood_55 : decode cX4_flood 55 = .ok (.iadd, 1) := by decide +kernel
theorem dX4_flood_56 : decode cX4_flood 56 = .ok (.sipush 500, 3) := by decide +kernel
theorem dX4_flood_59 : decode cX4_flood 59 = .ok (.if_icmp .gt 7, 3) := by decide +kernel
theorem dX4_flood_62 : decode cX4_flood 62 = .ok (.iconst 1, 1) := by decide +kernel
theorem dX4_flood_63 : decode cX4_flood 63 = .ok (.goto 4, 3) := by decide +kernel
theorem dX4_flood_66 : decode cX4_flood 66 = .ok (.iconst 0, 1) := by decide +kernel
theorem dX4_flood_67 : decode cX4_flood 67 = .ok (.istore 5, 2) := by decide +kernel
theorem dX4_flood_69 : decode cX4_flood 69 = .ok (.aload_n 0, 1) := by decide +kernel
theorem dX4_flood_70 : decode cX4_flood 70 = .ok (.iload_n 3, 1) := by decide +kernel
theorem dX4_flood_71 : decode cX4_flood 71 = .ok (.ifCond .ne 7, 3) := by decide +kernel
theorem dX4_flood_74 : decode cX4_flood 74 = .ok (.iconst 1, 1) := by decide +kernel
theorem dX4_flood_75 : decode cX4_flood 75 = .ok (.goto 22, 3) := by decide +kernel
theorem dX4_flood_78 : decode cX4_flood 78 = .ok (.iload 4, 2) := by decide +kernel
theorem dX4_flood_80 : decode cX4_flood 80 = .ok (.ifCond .ne 7, 3) := by decide +kernel
theorem dX4_flood_83 : decode cX4_flood 83 = .ok (.iconst 2, 1) := by decide +kernel
theorem dX4_flood_84 : decode cX4_flood 84 = .ok (.goto 13, 3) := by decide +kernel
theorem dX4_flood_87 : decode cX4_flood 87 = .ok (.iload 5, 2) := by decide +kernel
theorem dX4_flood_89 : decode cX4_flood 89 = .ok (.ifCond .eq 7, 3) := by decide +kernel
theorem dX4_flood_92 : decode cX4_flood 92 = .ok (.iconst 0, 1) := by decide +kernel
theorem dX4_flood_93 : decode cX4_flood 93 = .ok (.goto 4, 3) := by decide +kernel
theorem dX4_flood_96 : decode cX4_flood 96 = .ok (.iconst 3, 1) := by decide +kernel
theorem dX4_flood_97 : decode cX4_flood 97 = .ok (.invokevirtual 101, 3) := by decide +kernel
theorem dX4_flood_100 : decode cX4_flood 100 = .ok (.ifCond .eq 5, 3) := by decide +kernel
theorem dX4_flood_103 : decode cX4_flood 103 = .ok (.iconst 0, 1) := by decide +kernel
theorem dX4_flood_104 : decode cX4_flood 104 = .ok (.ireturn, 1) := by decide +kernel
theorem dX4_flood_105 : decode cX4_flood 105 = .ok (.aload_n 0, 1) := by decide +kernel
theorem dX4_flood_106 : decode cX4_flood 106 = .ok (.getfield 32, 3) := by decide +kernel
theorem dX4_flood_109 : decode cX4_flood 109 = .ok (.iload_n 1, 1) := by decide +kernel
theorem dX4_flood_110 : decode cX4_flood 110 = .ok (.iconst 0, 1) := by decide +kernel
theorem dX4_flood_111 : decode cX4_flood 111 = .ok (.iastore, 1) := by decide +kernel
theorem dX4_flood_112 : decode cX4_flood 112 = .ok (.aload_n 0, 1) := by decide +kernel
theorem dX4_flood_113 : decode cX4_flood 113 = .ok (.getfield 29, 3) := by decide +kernel
theorem dX4_flood_116 : decode cX4_flood 116 = .ok (.iload_n 1, 1) := by decide +kernel
theorem dX4_flood_117 : decode cX4_flood 117 = .ok (.dup2, 1) := by decide +kernel
theorem dX4_flood_118 : decode cX4_flood 118 = .ok (.iaload, 1) := by decide +kernel
theorem dX4_flood_119 : decode cX4_flood 119 = .ok (.iload_n 2, 1) := by decide +kernel
theorem dX4_flood_120 : decode cX4_flood 120 = .ok (.iadd, 1) := by decide +kernel
theorem dX4_flood_121 : decode cX4_flood 121 = .ok (.iastore, 1) := by decide +kernel
theorem dX4_flood_122 : decode cX4_flood 122 = .ok (.aload_n 0, 1) := by decide +kernel
theorem dX4_flood_123 : decode cX4_flood 123 = .ok (.getfield 29, 3) := by decide +kernel
theorem dX4_flood_126 : decode cX4_flood 126 = .ok (.iload_n 1, 1) := by decide +kernel
theorem dX4_flood_127 : decode cX4_flood 127 = .ok (.iaload, 1) := by decide +kernel
theorem dX4_flood_128 : decode cX4_flood 128 = .ok (.ireturn, 1) := by decide +kernel
theorem dX4_thick_0 : decode cX4_thick 0 = .ok (.aload_n 0, 1) := by decide +kernel
theorem dX4_thick_1 : decode cX4_thick 1 = .ok (.getfield 23, 3) := by decide +kernel
theorem dX4_thick_4 : decode cX4_thick 4 = .ok (.iload_n 1, 1) := by decide +kernel
theorem dX4_thick_5 : decode cX4_thick 5 = .ok (.iaload, 1) := by decide +kernel
theorem dX4_thick_6 : decode cX4_thick 6 = .ok (.i2d, 1) := by decide +kernel
theorem dX4_thick_7 : decode cX4_thick 7 = .ok (.ldc2_w 115, 3) := by decide +kernel
theorem dX4_thick_10 : decode cX4_thick 10 = .ok (.aload_n 0, 1) := by decide +kernel
theorem dX4_thick_11 : decode cX4_thick 11 = .ok (.getfield 26, 3) := by decide +kernel
theorem dX4_thick_14 : decode cX4_thick 14 = .ok (.iload_n 1, 1) := by decide +kernel
theorem dX4_thick_15 : decode cX4_thick 15 = .ok (.iaload, 1) := by decide +kernel
theorem dX4_thick_16 : decode cX4_thick 16 = .ok (.i2d, 1) := by decide +kernel
theorem dX4_thick_17 : decode cX4_thick 17 = .ok (.dmul, 1) := by decide +kernel
theorem dX4_thick_18 : decode cX4_thick 18 = .ok (.dadd, 1) := by decide +kernel
theorem dX4_thick_19 : decode cX4_thick 19 = .ok (.dreturn, 1) := by decide +kernel
theorem dX4_drill_0 : decode cX4_drill 0 = .ok (.aload_n 0, 1) := by decide +kernel
theorem dX4_drill_1 : decode cX4_drill 1 = .ok (.aload_n 0, 1) := by decide +kernel
theorem dX4_drill_2 : decode cX4_drill 2 = .ok (.iload_n 1, 1) := by decide +kernel
theorem dX4_drill_3 : decode cX4_drill 3 = .ok (.invokevirtual 109, 3) := by decide +kernel
theorem dX4_drill_6 : decode cX4_drill 6 = .ok (.ifCond .eq 7, 3) := by decide +kernel
theorem dX4_drill_9 : decode cX4_drill 9 = .ok (.iconst 0, 1) := by decide +kernel
theorem dX4_drill_10 : decode cX4_drill 10 = .ok (.goto 4, 3) := by decide +kernel
theorem dX4_drill_13 : decode cX4_drill 13 = .ok (.iconst 1, 1) := by decide +kernel
theorem dX4_drill_14 : decode cX4_drill 14 = .ok (.invokevirtual 101, 3) := by decide +kernel
theorem dX4_drill_17 : decode cX4_drill 17 = .ok (.ifCond .eq 5, 3) := by decide +kernel
theorem dX4_drill_20 : decode cX4_drill 20 = .ok (.dconst 0, 1) := by decide +kernel
theorem dX4_drill_21 : decode cX4_drill 21 = .ok (.dreturn, 1) := by decide +kernel
theorem dX4_drill_22 : decode cX4_drill 22 = .ok (.aload_n 0, 1) := by decide +kernel
theorem dX4_drill_23 : decode cX4_drill 23 = .ok (.getfield 44, 3) := by decide +kernel
theorem dX4_drill_26 : decode cX4_drill 26 = .ok (.iload_n 1, 1) := by decide +kernel
theorem dX4_drill_27 : decode cX4_drill 27 = .ok (.aload_n 0, 1) := by decide +kernel
theorem dX4_drill_28 : decode cX4_drill 28 = .ok (.iload_n 1, 1) := by decide +kernel
theorem dX4_drill_29 : decode cX4_drill 29 = .ok (.invokevirtual 117, 3) := by decide +kernel
theorem dX4_drill_32 : decode cX4_drill 32 = .ok (.dastore, 1) := by decide +kernel
theorem dX4_drill_33 : decode cX4_drill 33 = .ok (.aload_n 0, 1) := by decide +kernel
theorem dX4_drill_34 : decode cX4_drill 34 = .ok (.getfield 44, 3) := by decide +kernel
theorem dX4_drill_37 : decode cX4_drill 37 = .ok (.iload_n 1, 1) := by decide +kernel
theorem dX4_drill_38 : decode cX4_drill 38 = .ok (.daload, 1) := by decide +kernel
theorem dX4_drill_39 : decode cX4_drill 39 = .ok (.dreturn, 1) := by decide +kernel
theorem dX4_open_0 : decode cX4_open 0 = .ok (.aload_n 0, 1) := by decide +kernel
theorem dX4_open_1 : decode cX4_open 1 = .ok (.aload_n 0, 1) := by decide +kernel
theorem dX4_open_2 : decode cX4_open 2 = .ok (.iload_n 1, 1) := by decide +kernel
theorem dX4_open_3 : decode cX4_open 3 = .ok (.invokevirtual 109, 3) := by decide +kernel
theorem dX4_open_6 : decode cX4_open 6 = .ok (.ifCond .ne 7, 3) := by decide +kernel
theorem dX4_open_9 : decode cX4_open 9 = .ok (.iconst 1, 1) := by decide +kernel
theorem dX4_open_10 : decode cX4_open 10 = .ok (.goto 17, 3) := by decide +kernel
theorem dX4_open_13 : decode cX4_open 13 = .ok (.iload_n 2, 1) := by decide +kernel
theorem dX4_open_14 : decode cX4_open 14 = .ok (.iconst 0, 1) := by decide +kernel
theorem dX4_open_15 : decode cX4_open 15 = .ok (.iconst 2, 1) := by decide +kernel
theorem dX4_open_16 : decode cX4_open 16 = .ok (.invokestatic 94, 3) := by decide +kernel
theorem dX4_open_19 : decode cX4_open 19 = .ok (.ifCond .eq 7, 3) := by decide +kernel
theorem dX4_open_22 : decode cX4_open 22 = .ok (.iconst 0, 1) := by decide +kernel
theorem dX4_open_23 : decode cX4_open 23 = .ok (.goto 4, 3) := by decide +kernel
theorem dX4_open_26 : decode cX4_open 26 = .ok (.iconst 2, 1) := by decide +kernel
theorem dX4_open_27 : decode cX4_open 27 = .ok (.invokevirtual 101, 3) := by decide +kernel
theorem dX4_open_30 : decode cX4_open 30 = .ok (.ifCond .eq 5, 3) := by decide +kernel
theorem dX4_open_33 : decode cX4_open 33 = .ok (.iconst 0, 1) := by decide +kernel
theorem dX4_open_34 : decode cX4_open 34 = .ok (.ireturn, 1) := by decide +kernel
theorem dX4_open_35 : decode cX4_open 35 = .ok (.aload_n 0, 1) := by decide +kernel
theorem dX4_open_36 : decode cX4_open 36 = .ok (.getfield 38, 3) := by decide +kernel
theorem dX4_open_39 : decode cX4_open 39 = .ok (.iload_n 1, 1) := by decide +kernel
theorem dX4_open_40 : decode cX4_open 40 = .ok (.iaload, 1) := by decide +kernel
theorem dX4_open_41 : decode cX4_open 41 = .ok (.istore_n 3, 1) := by decide +kernel
theorem dX4_open_42 : decode cX4_open 42 = .ok (.aload_n 0, 1) := by decide +kernel
theorem dX4_open_43 : decode cX4_open 43 = .ok (.getfield 38, 3) := by decide +kernel
theorem dX4_open_46 : decode cX4_open 46 = .ok (.iload_n 1, 1) := by decide +kernel
theorem dX4_open_47 : decode cX4_open 47 = .ok (.iload_n 2, 1) := by decide +kernel
theorem dX4_open_48 : decode cX4_open 48 = .ok (.iastore, 1) := by decide +kernel
theorem dX4_open_49 : decode cX4_open 49 = .ok (.iload_n 3, 1) := by decide +kernel
theorem dX4_open_50 : decode cX4_open 50 = .ok (.ireturn, 1) := by decide +kernel
theorem dX4_limit_0 : decode cX4_limit 0 = .ok (.aload_n 0, 1) := by decide +kernel
theorem dX4_limit_1 : decode cX4_limit 1 = .ok (.aload_n 0, 1) := by decide +kernel
theorem dX4_limit_2 : decode cX4_limit 2 = .ok (.iload_n 1, 1) := by decide +kernel
theorem dX4_limit_3 : decode cX4_limit 3 = .ok (.invokevirtual 109, 3) := by decide +kernel
theorem dX4_limit_6 : decode cX4_limit 6 = .ok (.ifCond .ne 7, 3) := by decide +kernel
theorem dX4_limit_9 : decode cX4_limit 9 = .ok (.iconst 1, 1) := by decide +kernel
theorem dX4_limit_10 : decode cX4_limit 10 = .ok (.goto 19, 3) := by decide +kernel
theorem dX4_limit_13 : decode cX4_limit 13 = .ok (.iload_n 2, 1) := by decide +kernel
theorem dX4_limit_14 : decode cX4_limit 14 = .ok (.iconst 1, 1) := by decide +kernel
theorem dX4_limit_15 : decode cX4_limit 15 = .ok (.sipush 300, 3) := by decide +kernel
theorem dX4_limit_18 : decode cX4_limit 18 = .ok (.invokestatic 94, 3) := by decide +kernel
theorem dX4_limit_21 : decode cX4_limit 21 = .ok (.ifCond .eq 7, 3) := by decide +kernel
theorem dX4_limit_24 : decode cX4_limit 24 = .ok (.iconst 0, 1) := by decide +kernel
theorem dX4_limit_25 : decode cX4_limit 25 = .ok (.goto 4, 3) := by decide +kernel
theorem dX4_limit_28 : decode cX4_limit 28 = .ok (.iconst 2, 1) := by decide +kernel
theorem dX4_limit_29 : decode cX4_limit 29 = .ok (.invokevirtual 101, 3) := by decide +kernel
theorem dX4_limit_32 : decode cX4_limit 32 = .ok (.ifCond .eq 5, 3) := by decide +kernel
theorem dX4_limit_35 : decode cX4_limit 35 = .ok (.iconst 0, 1) := by decide +kernel
theorem dX4_limit_36 : decode cX4_limit 36 = .ok (.ireturn, 1) := by decide +kernel
theorem dX4_limit_37 : decode cX4_limit 37 = .ok (.aload_n 0, 1) := by decide +kernel
theorem dX4_limit_38 : decode cX4_limit 38 = .ok (.getfield 41, 3) := by decide +kernel
theorem dX4_limit_41 : decode cX4_limit 41 = .ok (.iload_n 1, 1) := by decide +kernel
theorem dX4_limit_42 : decode cX4_limit 42 = .ok (.iaload, 1) := by decide +kernel
theorem dX4_limit_43 : decode cX4_limit 43 = .ok (.istore_n 3, 1) := by decide +kernel
theorem dX4_limit_44 : decode cX4_limit 44 = .ok (.aload_n 0, 1) := by decide +kernel
theorem dX4_limit_45 : decode cX4_limit 45 = .ok (.getfield 41, 3) := by decide +kernel
theorem dX4_limit_48 : decode cX4_limit 48 = .ok (.iload_n 1, 1) := by decide +kernel
theorem dX4_limit_49 : decode cX4_limit 49 = .ok (.iload_n 2, 1) := by decide +kernel
theorem dX4_limit_50 : decode cX4_limit 50 = .ok (.iastore, 1) := by decide +kernel
theorem dX4_limit_51 : decode cX4_limit 51 = .ok (.iload_n 3, 1) := by decide +kernel
theorem dX4_limit_52 : decode cX4_limit 52 = .ok (.ireturn, 1) := by decide +kernel
theorem dX4_gap_0 : decode cX4_gap 0 = .ok (.aload_n 0, 1) := by decide +kernel
theorem dX4_gap_1 : decode cX4_gap 1 = .ok (.iload_n 1, 1) := by decide +kernel
theorem dX4_gap_2 : decode cX4_gap 2 = .ok (.iconst 0, 1) := by decide +kernel
theorem dX4_gap_3 : decode cX4_gap 3 = .ok (.bipush 120, 2) := by decide +kernel
theorem dX4_gap_5 : decode cX4_gap 5 = .ok (.invokestatic 94, 3) := by decide +kernel
theorem dX4_gap_8 : decode cX4_gap 8 = .ok (.ifCond .eq 7, 3) := by decide +kernel
theorem dX4_gap_11 : decode cX4_gap 11 = .ok (.iconst 0, 1) := by decide +kernel
theorem dX4_gap_12 : decode cX4_gap 12 = .ok (.goto 4, 3) := by decide +kernel
theorem dX4_gap_15 : decode cX4_gap 15 = .ok (.iconst 1, 1) := by decide +kernel
theorem dX4_gap_16 : decode cX4_gap 16 = .ok (.invokevirtual 101, 3) := by decide +kernel
theorem dX4_gap_19 : decode cX4_gap 19 = .ok (.ifCond .eq 5, 3) := by decide +kernel
theorem dX4_gap_22 : decode cX4_gap 22 = .ok (.iconst 0, 1) := by decide +kernel
theorem dX4_gap_23 : decode cX4_gap 23 = .ok (.ireturn, 1) := by decide +kernel
theorem dX4_gap_24 : decode cX4_gap 24 = .ok (.aload_n 0, 1) := by decide +kernel
theorem dX4_gap_25 : decode cX4_gap 25 = .ok (.getfield 7, 3) := by decide +kernel
theorem dX4_gap_28 : decode cX4_gap 28 = .ok (.istore_n 2, 1) := by decide +kernel
theorem dX4_gap_29 : decode cX4_gap 29 = .ok (.aload_n 0, 1) := by decide +kernel
theorem dX4_gap_30 : decode cX4_gap 30 = .ok (.iload_n 1, 1) := by decide +kernel
theorem dX4_gap_31 : decode cX4_gap 31 = .ok (.putfield 7, 3) := by decide +kernel
theorem dX4_gap_34 : decode cX4_gap 34 = .ok (.iload_n 2, 1) := by decide +kernel
theorem dX4_gap_35 : decode cX4_gap 35 = .ok (.ireturn, 1) := by decide +kernel
theorem dX4_vehicle_0 : decode cX4_vehicle 0 = .ok (.iload_n 1, 1) := by decide +kernel
theorem dX4_vehicle_1 : decode cX4_vehicle 1 = .ok (.sipush 500, 3) := by decide +kernel
theorem dX4_vehicle_4 : decode cX4_vehicle 4 = .ok (.ldc 121, 2) := by decide +kernel
theorem dX4_vehicle_6 : decode cX4_vehicle 6 = .ok (.invokestatic 94, 3) := by decide +kernel
theorem dX4_vehicle_9 : decode cX4_vehicle 9 = .ok (.ifCond .eq 28, 3) := by decide +kernel
theorem dX4_vehicle_12 : decode cX4_vehicle 12 = .ok (.iload_n 2, 1) := by decide +kernel
theorem dX4_vehicle_13 : decode cX4_vehicle 13 = .ok (.iconst 0, 1) := by decide +kernel
theorem dX4_vehicle_14 : decode cX4_vehicle 14 = .ok (.ldc 122, 2) := by decide +kernel
theorem dX4_vehicle_16 : decode cX4_vehicle 16 = .ok (.invokestatic 94, 3) := by decide +kernel
theorem dX4_vehicle_19 : decode cX4_vehicle 19 = .ok (.ifCond .eq 18, 3) := by decide +kernel
theorem dX4_vehicle_22 : decode cX4_vehicle 22 = .ok (.iload_n 3, 1) := by decide +kernel
theorem dX4_vehicle_23 : decode cX4_vehicle 23 = .ok (.iconst 1, 1) := by decide +kernel
theorem dX4_vehicle_24 : decode cX4_vehicle 24 = .ok (.sipush 300, 3) := by decide +kernel
theorem dX4_vehicle_27 : decode cX4_vehicle 27 = .ok (.invokestatic 94, 3) := by decide +kernel
theorem dX4_vehicle_30 : decode cX4_vehicle 30 = .ok (.ifCond .eq 7, 3) := by decide +kernel
theorem dX4_vehicle_33 : decode cX4_vehicle 33 = .ok (.iconst 1, 1) := by decide +kernel
theorem dX4_vehicle_34 : decode cX4_vehicle 34 = .ok (.goto 4, 3) := by decide +kernel
theorem dX4_vehicle_37 : decode cX4_vehicle 37 = .ok (.iconst 0, 1) := by decide +kernel
theorem dX4_vehicle_38 : decode cX4_vehicle 38 = .ok (.istore 4, 2) := by decide +kernel
theorem dX4_vehicle_40 : decode cX4_vehicle 40 = .ok (.aload_n 0, 1) := by decide +kernel
theorem dX4_vehicle_41 : decode cX4_vehicle 41 = .ok (.iload 4, 2) := by decide +kernel
theorem dX4_vehicle_43 : decode cX4_vehicle 43 = .ok (.ifCond .ne 7, 3) := by decide +kernel
theorem dX4_vehicle_46 : decode cX4_vehicle 46 = .ok (.iconst 1, 1) := by decide +kernel
theorem dX4_vehicle_47 : decode cX4_vehicle 47 = .ok (.goto 24, 3) := by decide +kernel
theorem dX4_vehicle_50 : decode cX4_vehicle 50 = .ok (.aload_n 0, 1) := by decide +kernel
theorem dX4_vehicle_51 : decode cX4_vehicle 51 = .ok (.getfield 98, 3) := by decide +kernel
theorem dX4_vehicle_54 : decode cX4_vehicle 54 = .ok (.bipush 16, 2) := by decide +kernel
theorem dX4_vehicle_56 : decode cX4_vehicle 56 = .ok (.if_icmp .eq 10, 3) := by decide +kernel
theorem dX4_vehicle_59 : decode cX4_vehicle 59 = .ok (.aload_n 0, 1) := by decide +kernel
theorem dX4_vehicle_60 : decode cX4_vehicle 60 = .ok (.getfield 91, 3) := by decide +kernel
theorem dX4_vehicle_63 : decode cX4_vehicle 63 = .ok (.ifCond .ne 7, 3) := by decide +kernel
theorem dX4_vehicle_66 : decode cX4_vehicle 66 = .ok (.iconst 2, 1) := by decide +kernel
theorem dX4_vehicle_67 : decode cX4_vehicle 67 = .ok (.goto 4, 3) := by decide +kernel
theorem dX4_vehicle_70 : decode cX4_vehicle 70 = .ok (.iconst 0, 1) := by decide +kernel
theorem dX4_vehicle_71 : decode cX4_vehicle 71 = .ok (.invokevirtual 101, 3) := by decide +kernel
theorem dX4_vehicle_74 : decode cX4_vehicle 74 = .ok (.ifCond .eq 5, 3) := by decide +kernel
theorem dX4_vehicle_77 : decode cX4_vehicle 77 = .ok (.iconst 0, 1) := by decide +kernel
theorem dX4_vehicle_78 : decode cX4_vehicle 78 = .ok (.ireturn, 1) := by decide +kernel
theorem dX4_vehicle_79 : decode cX4_vehicle 79 = .ok (.aload_n 0, 1) := by decide +kernel
theorem dX4_vehicle_80 : decode cX4_vehicle 80 = .ok (.getfield 51, 3) := by decide +kernel
theorem dX4_vehicle_83 : decode cX4_vehicle 83 = .ok (.aload_n 0, 1) := by decide +kernel
theorem dX4_vehicle_84 : decode cX4_vehicle 84 = .ok (.getfield 98, 3) := by decide +kernel
theorem dX4_vehicle_87 : decode cX4_vehicle 87 = .ok (.iload_n 1, 1) := by decide +kernel
theorem dX4_vehicle_88 : decode cX4_vehicle 88 = .ok (.iastore, 1) := by decide +kernel
theorem dX4_vehicle_89 : decode cX4_vehicle 89 = .ok (.aload_n 0, 1) := by decide +kernel
theorem dX4_vehicle_90 : decode cX4_vehicle 90 = .ok (.getfield 54, 3) := by decide +kernel
theorem dX4_vehicle_93 : decode cX4_vehicle 93 = .ok (.aload_n 0, 1) := by decide +kernel
theorem dX4_vehicle_94 : decode cX4_vehicle 94 = .ok (.getfield 98, 3) := by decide +kernel
theorem dX4_vehicle_97 : decode cX4_vehicle 97 = .ok (.iload_n 2, 1) := by decide +kernel
theorem dX4_vehicle_98 : decode cX4_vehicle 98 = .ok (.iastore, 1) := by decide +kernel
theorem dX4_vehicle_99 : decode cX4_vehicle 99 = .ok (.aload_n 0, 1) := by decide +kernel
theorem dX4_vehicle_100 : decode cX4_vehicle 100 = .ok (.getfield 57, 3) := by decide +kernel
theorem dX4_vehicle_103 : decode cX4_vehicle 103 = .ok (.aload_n 0, 1) := by decide +kernel
theorem dX4_vehicle_104 : decode cX4_vehicle 104 = .ok (.getfield 98, 3) := by decide +kernel
theorem dX4_vehicle_107 : decode cX4_vehicle 107 = .ok (.iload_n 3, 1) := by decide +kernel
theorem dX4_vehicle_108 : decode cX4_vehicle 108 = .ok (.iastore, 1) := by decide +kernel
theorem dX4_vehicle_109 : decode cX4_vehicle 109 = .ok (.aload_n 0, 1) := by decide +kernel
theorem dX4_vehicle_110 : decode cX4_vehicle 110 = .ok (.getfield 76, 3) := by decide +kernel
theorem dX4_vehicle_113 : decode cX4_vehicle 113 = .ok (.aload_n 0, 1) := by decide +kernel
theorem dX4_vehicle_114 : decode cX4_vehicle 114 = .ok (.getfield 98, 3) := by decide +kernel
theorem dX4_vehicle_117 : decode cX4_vehicle 117 = .ok (.iconst (-1), 1) := by decide +kernel
theorem dX4_vehicle_118 : decode cX4_vehicle 118 = .ok (.iastore, 1) := by decide +kernel
theorem dX4_vehicle_119 : decode cX4_vehicle 119 = .ok (.aload_n 0, 1) := by decide +kernel
theorem dX4_vehicle_120 : decode cX4_vehicle 120 = .ok (.dup, 1) := by decide +kernel
theorem dX4_vehicle_121 : decode cX4_vehicle 121 = .ok (.getfield 98, 3) := by decide +kernel
theorem dX4_vehicle_124 : decode cX4_vehicle 124 = .ok (.iconst 1, 1) := by decide +kernel
theorem dX4_vehicle_125 : decode cX4_vehicle 125 = .ok (.iadd, 1) := by decide +kernel
theorem dX4_vehicle_126 : decode cX4_vehicle 126 = .ok (.putfield 98, 3) := by decide +kernel
theorem dX4_vehicle_129 : decode cX4_vehicle 129 = .ok (.aload_n 0, 1) := by decide +kernel
theorem dX4_vehicle_130 : decode cX4_vehicle 130 = .ok (.getfield 98, 3) := by decide +kernel
theorem dX4_vehicle_133 : decode cX4_vehicle 133 = .ok (.iconst 1, 1) := by decide +kernel
theorem dX4_vehicle_134 : decode cX4_vehicle 134 = .ok (.isub, 1) := by decide +kernel
theorem dX4_vehicle_135 : decode cX4_vehicle 135 = .ok (.ireturn, 1) := by decide +kernel
theorem dX4_weight_0 : decode cX4_weight 0 = .ok (.aload_n 0, 1) := by decide +kernel
theorem dX4_weight_1 : decode cX4_weight 1 = .ok (.getfield 51, 3) := by decide +kernel
theorem dX4_weight_4 : decode cX4_weight 4 = .ok (.iload_n 1, 1) := by decide +kernel
theorem dX4_weight_5 : decode cX4_weight 5 = .ok (.iaload, 1) := by decide +kernel
theorem dX4_weight_6 : decode cX4_weight 6 = .ok (.aload_n 0, 1) := by decide +kernel
theorem dX4_weight_7 : decode cX4_weight 7 = .ok (.getfield 73, 3) := by decide +kernel
theorem dX4_weight_10 : decode cX4_weight 10 = .ok (.iload_n 1, 1) := by decide +kernel
theorem dX4_weight_11 : decode cX4_weight 11 = .ok (.iaload, 1) := by decide +kernel
theorem dX4_weight_12 : decode cX4_weight 12 = .ok (.iadd, 1) := by decide +kernel
theorem dX4_weight_13 : decode cX4_weight 13 = .ok (.ireturn, 1) := by decide +kernel
theorem dX4_load_0 : decode cX4_load 0 = .ok (.aload_n 0, 1) := by decide +kernel
theorem dX4_load_1 : decode cX4_load 1 = .ok (.iload_n 1, 1) := by decide +kernel
theorem dX4_load_2 : decode cX4_load 2 = .ok (.invokevirtual 123, 3) := by decide +kernel
theorem dX4_load_5 : decode cX4_load 5 = .ok (.ifCond .eq 14, 3) := by decide +kernel
theorem dX4_load_8 : decode cX4_load 8 = .ok (.iload_n 2, 1) := by decide +kernel
theorem dX4_load_9 : decode cX4_load 9 = .ok (.invokestatic 126, 3) := by decide +kernel
theorem dX4_load_12 : decode cX4_load 12 = .ok (.ifCond .eq 7, 3) := by decide +kernel
theorem dX4_load_15 : decode cX4_load 15 = .ok (.iconst 1, 1) := by decide +kernel
theorem dX4_load_16 : decode cX4_load 16 = .ok (.goto 4, 3) := by decide +kernel
theorem dX4_load_19 : decode cX4_load 19 = .ok (.iconst 0, 1) := by decide +kernel
theorem dX4_load_20 : decode cX4_load 20 = .ok (.istore 4, 2) := by decide +kernel
theorem dX4_load_22 : decode cX4_load 22 = .ok (.iload 4, 2) := by decide +kernel
theorem dX4_load_24 : decode cX4_load 24 = .ok (.ifCond .eq 21, 3) := by decide +kernel
theorem dX4_load_27 : decode cX4_load 27 = .ok (.iload_n 3, 1) := by decide +kernel
theorem dX4_load_28 : decode cX4_load 28 = .ok (.iconst 1, 1) := by decide +kernel
theorem dX4_load_29 : decode cX4_load 29 = .ok (.aload_n 0, 1) := by decide +kernel
theorem dX4_load_30 : decode cX4_load 30 = .ok (.getfield 54, 3) := by decide +kernel
theorem dX4_load_33 : decode cX4_load 33 = .ok (.iload_n 1, 1) := by decide +kernel
theorem dX4_load_34 : decode cX4_load 34 = .ok (.iaload, 1) := by decide +kernel
theorem dX4_load_35 : decode cX4_load 35 = .ok (.invokestatic 94, 3) := by decide +kernel
theorem dX4_load_38 : decode cX4_load 38 = .ok (.ifCond .eq 7, 3) := by decide +kernel
theorem dX4_load_41 : decode cX4_load 41 = .ok (.iconst 1, 1) := by decide +kernel
theorem dX4_load_42 : decode cX4_load 42 = .ok (.goto 4, 3) := by decide +kernel
theorem dX4_load_45 : decode cX4_load 45 = .ok (.iconst 0, 1) := by decide +kernel
theorem dX4_load_46 : decode cX4_load 46 = .ok (.istore 5, 2) := by decide +kernel
theorem dX4_load_48 : decode cX4_load 48 = .ok (.aload_n 0, 1) := by decide +kernel
theorem dX4_load_49 : decode cX4_load 49 = .ok (.iload 4, 2) := by decide +kernel
theorem dX4_load_51 : decode cX4_load 51 = .ok (.ifCond .ne 7, 3) := by decide +kernel
theorem dX4_load_54 : decode cX4_load 54 = .ok (.iconst 1, 1) := by decide +kernel
theorem dX4_load_55 : decode cX4_load 55 = .ok (.goto 35, 3) := by decide +kernel
theorem dX4_load_58 : decode cX4_load 58 = .ok (.iload 5, 2) := by decide +kernel
theorem dX4_load_60 : decode cX4_load 60 = .ok (.ifCond .ne 7, 3) := by decide +kernel
theorem dX4_load_63 : decode cX4_load 63 = .ok (.iconst 2, 1) := by decide +kernel
theorem dX4_load_64 : decode cX4_load 64 = .ok (.goto 26, 3) := by decide +kernel
theorem dX4_load_67 : decode cX4_load 67 = .ok (.aload_n 0, 1) := by decide +kernel
theorem dX4_load_68 : decode cX4_load 68 = .ok (.getfield 60, 3) := by decide +kernel
theorem dX4_load_71 : decode cX4_load 71 = .ok (.iload_n 1, 1) := by decide +kernel
theorem dX4_load_72 : decode cX4_load 72 = .ok (.iaload, 1) := by decide +kernel
theorem dX4_load_73 : decode cX4_load 73 = .ok (.ifCond .ne 12, 3) := by decide +kernel
theorem dX4_load_76 : decode cX4_load 76 = .ok (.aload_n 0, 1) := by decide +kernel
theorem dX4_load_77 : decode cX4_load 77 = .ok (.getfield 73, 3) := by decide +kernel
theorem dX4_load_80 : decode cX4_load 80 = .ok (.iload_n 1, 1) := by decide +kernel
theorem dX4_load_81 : decode cX4_load 81 = .ok (.iaload, 1) := by decide +kernel
theorem dX4_load_82 : decode cX4_load 82 = .ok (.ifCond .le 7, 3) := by decide +kernel
theorem dX4_load_85 : decode cX4_load 85 = .ok (.iconst 3, 1) := by decide +kernel
theorem dX4_load_86 : decode cX4_load 86 = .ok (.goto 4, 3) := by decide +kernel
theorem dX4_load_89 : decode cX4_load 89 = .ok (.iconst 0, 1) := by decide +kernel
theorem dX4_load_90 : decode cX4_load 90 = .ok (.invokevirtual 101, 3) := by decide +kernel
theorem dX4_load_93 : decode cX4_load 93 = .ok (.ifCond .eq 5, 3) := by decide +kernel
theorem dX4_load_96 : decode cX4_load 96 = .ok (.iconst 0, 1) := by decide +kernel
theorem dX4_load_97 : decode cX4_load 97 = .ok (.ireturn, 1) := by decide +kernel
theorem dX4_load_98 : decode cX4_load 98 = .ok (.aload_n 0, 1) := by decide +kernel
theorem dX4_load_99 : decode cX4_load 99 = .ok (.getfield 73, 3) := by decide +kernel
theorem dX4_load_102 : decode cX4_load 102 = .ok (.iload_n 1, 1) := by decide +kernel
theorem dX4_load_103 : decode cX4_load 103 = .ok (.iload_n 3, 1) := by decide +kernel
theorem dX4_load_104 : decode cX4_load 104 = .ok (.iastore, 1) := by decide +kernel
theorem dX4_load_105 : decode cX4_load 105 = .ok (.aload_n 0, 1) := by decide +kernel
theorem dX4_load_106 : decode cX4_load 106 = .ok (.getfield 76, 3) := by decide +kernel
theorem dX4_load_109 : decode cX4_load 109 = .ok (.iload_n 1, 1) := by decide +kernel
theorem dX4_load_110 : decode cX4_load 110 = .ok (.iload_n 2, 1) := by decide +kernel
theorem dX4_load_111 : decode cX4_load 111 = .ok (.iastore, 1) := by decide +kernel
theorem dX4_load_112 : decode cX4_load 112 = .ok (.aload_n 0, 1) := by decide +kernel
theorem dX4_load_113 : decode cX4_load 113 = .ok (.getfield 79, 3) := by decide +kernel
theorem dX4_load_116 : decode cX4_load 116 = .ok (.iload_n 2, 1) := by decide +kernel
theorem dX4_load_117 : decode cX4_load 117 = .ok (.dup2, 1) := by decide +kernel
theorem dX4_load_118 : decode cX4_load 118 = .ok (.iaload, 1) := by decide +kernel
theorem dX4_load_119 : decode cX4_load 119 = .ok (.iload_n 3, 1) := by decide +kernel
theorem dX4_load_120 : decode cX4_load 120 = .ok (.iadd, 1) := by decide +kernel
theorem dX4_load_121 : decode cX4_load 121 = .ok (.iastore, 1) := by decide +kernel
theorem dX4_load_122 : decode cX4_load 122 = .ok (.aload_n 0, 1) := by decide +kernel
theorem dX4_load_123 : decode cX4_load 123 = .ok (.iload_n 1, 1) := by decide +kernel
theorem dX4_load_124 : decode cX4_load 124 = .ok (.invokevirtual 129, 3) := by decide +kernel
theorem dX4_load_127 : decode cX4_load 127 = .ok (.ireturn, 1) := by decide +kernel
theorem dX4_unloads_0 : decode cX4_unloads 0 = .ok (.aload_n 0, 1) := by decide +kernel
theorem dX4_unloads_1 : decode cX4_unloads 1 = .ok (.getfield 73, 3) := by decide +kernel
theorem dX4_unloads_4 : decode cX4_unloads 4 = .ok (.iload_n 1, 1) := by decide +kernel
theorem dX4_unloads_5 : decode cX4_unloads 5 = .ok (.iaload, 1) := by decide +kernel
theorem dX4_unloads_6 : decode cX4_unloads 6 = .ok (.ifCond .le 59, 3) := by decide +kernel
theorem dX4_unloads_9 : decode cX4_unloads 9 = .ok (.aload_n 0, 1) := by decide +kernel
theorem dX4_unloads_10 : decode cX4_unloads 10 = .ok (.getfield 82, 3) := by decide +kernel
theorem dX4_unloads_13 : decode cX4_unloads 13 = .ok (.aload_n 0, 1) := by decide +kernel
theorem dX4_unloads_14 : decode cX4_unloads 14 = .ok (.getfield 76, 3) := by decide +kernel
theorem dX4_unloads_17 : decode cX4_unloads 17 = .ok (.iload_n 1, 1) := by decide +kernel
theorem dX4_unloads_18 : decode cX4_unloads 18 = .ok (.iaload, 1) := by decide +kernel
theorem dX4_unloads_19 : decode cX4_unloads 19 = .ok (.dup2, 1) := by decide +kernel
theorem dX4_unloads_20 : decode cX4_unloads 20 = .ok (.iaload, 1) := by decide +kernel
theorem dX4_unloads_21 : decode cX4_unloads 21 = .ok (.iload_n 2, 1) := by decide +kernel
theorem dX4_unloads_22 : decode cX4_unloads 22 = .ok (.ifCond .eq 12, 3) := by decide +kernel
theorem dX4_unloads_25 : decode cX4_unloads 25 = .ok (.aload_n 0, 1) := by decide +kernel
theorem dX4_unloads_26 : decode cX4_unloads 26 = .ok (.getfield 73, 3) := by decide +kernel
theorem dX4_unloads_29 : decode cX4_unloads 29 = .ok (.iload_n 1, 1) := by decide +kernel
theorem dX4_unloads_30 : decode cX4_unloads 30 = .ok (.iaload, 1) := by decide +kernel
theorem dX4_unloads_31 : decode cX4_unloads 31 = .ok (.goto 4, 3) := by decide +kernel
theorem dX4_unloads_34 : decode cX4_unloads 34 = .ok (.iconst 0, 1) := by decide +kernel
theorem dX4_unloads_35 : decode cX4_unloads 35 = .ok (.iadd, 1) := by decide +kernel
theorem dX4_unloads_36 : decode cX4_unloads 36 = .ok (.iastore, 1) := by decide +kernel
theorem dX4_unloads_37 : decode cX4_unloads 37 = .ok (.aload_n 0, 1) := by decide +kernel
theorem dX4_unloads_38 : decode cX4_unloads 38 = .ok (.getfield 79, 3) := by decide +kernel
theorem dX4_unloads_41 : decode cX4_unloads 41 = .ok (.aload_n 0, 1) := by decide +kernel
theorem dX4_unloads_42 : decode cX4_unloads 42 = .ok (.getfield 76, 3) := by decide +kernel
theorem dX4_unloads_45 : decode cX4_unloads 45 = .ok (.iload_n 1, 1) := by decide +kernel
theorem dX4_unloads_46 : decode cX4_unloads 46 = .ok (.iaload, 1) := by decide +kernel
theorem dX4_unloads_47 : decode cX4_unloads 47 = .ok (.dup2, 1) := by decide +kernel
theorem dX4_unloads_48 : decode cX4_unloads 48 = .ok (.iaload, 1) := by decide +kernel
theorem dX4_unloads_49 : decode cX4_unloads 49 = .ok (.iload_n 2, 1) := by decide +kernel
theorem dX4_unloads_50 : decode cX4_unloads 50 = .ok (.ifCond .eq 7, 3) := by decide +kernel
theorem dX4_unloads_53 : decode cX4_unloads 53 = .ok (.iconst 0, 1) := by decide +kernel
theorem dX4_unloads_54 : decode cX4_unloads 54 = .ok (.goto 9, 3) := by decide +kernel
theorem dX4_unloads_57 : decode cX4_unloads 57 = .ok (.aload_n 0, 1) := by decide +kernel
theorem dX4_unloads_58 : decode cX4_unloads 58 = .ok (.getfield 73, 3) := by decide +kernel
theorem dX4_unloads_61 : decode cX4_unloads 61 = .ok (.iload_n 1, 1) := by decide +kernel
theorem dX4_unloads_62 : decode cX4_unloads 62 = .ok (.iaload, 1) := by decide +kernel
theorem dX4_unloads_63 : decode cX4_unloads 63 = .ok (.isub, 1) := by decide +kernel
theorem dX4_unloads_64 : decode cX4_unloads 64 = .ok (.iastore, 1) := by decide +kernel
theorem dX4_unloads_65 : decode cX4_unloads 65 = .ok (.aload_n 0, 1) := by decide +kernel
theorem dX4_unloads_66 : decode cX4_unloads 66 = .ok (.getfield 73, 3) := by decide +kernel
theorem dX4_unloads_69 : decode cX4_unloads 69 = .ok (.iload_n 1, 1) := by decide +kernel
theorem dX4_unloads_70 : decode cX4_unloads 70 = .ok (.iconst 0, 1) := by decide +kernel
theorem dX4_unloads_71 : decode cX4_unloads 71 = .ok (.iastore, 1) := by decide +kernel
theorem dX4_unloads_72 : decode cX4_unloads 72 = .ok (.aload_n 0, 1) := by decide +kernel
theorem dX4_unloads_73 : decode cX4_unloads 73 = .ok (.getfield 76, 3) := by decide +kernel
theorem dX4_unloads_76 : decode cX4_unloads 76 = .ok (.iload_n 1, 1) := by decide +kernel
theorem dX4_unloads_77 : decode cX4_unloads 77 = .ok (.iconst (-1), 1) := by decide +kernel
theorem dX4_unloads_78 : decode cX4_unloads 78 = .ok (.iastore, 1) := by decide +kernel
theorem dX4_unloads_79 : decode cX4_unloads 79 = .ok (.return_, 1) := by decide +kernel
theorem dX4_go_0 : decode cX4_go 0 = .ok (.aload_n 0, 1) := by decide +kernel
theorem dX4_go_1 : decode cX4_go 1 = .ok (.iload_n 1, 1) := by decide +kernel
theorem dX4_go_2 : decode cX4_go 2 = .ok (.invokevirtual 123, 3) := by decide +kernel
theorem dX4_go_5 : decode cX4_go 5 = .ok (.ifCond .eq 26, 3) := by decide +kernel
theorem dX4_go_8 : decode cX4_go 8 = .ok (.aload_n 0, 1) := by decide +kernel
theorem dX4_go_9 : decode cX4_go 9 = .ok (.getfield 60, 3) := by decide +kernel
theorem dX4_go_12 : decode cX4_go 12 = .ok (.iload_n 1, 1) := by decide +kernel
theorem dX4_go_13 : decode cX4_go 13 = .ok (.iaload, 1) := by decide +kernel
theorem dX4_go_14 : decode cX4_go 14 = .ok (.ifCond .eq 13, 3) := by decide +kernel
theorem dX4_go_17 : decode cX4_go 17 = .ok (.aload_n 0, 1) := by decide +kernel
theorem dX4_go_18 : decode cX4_go 18 = .ok (.getfield 60, 3) := by decide +kernel
theorem dX4_go_21 : decode cX4_go 21 = .ok (.iload_n 1, 1) := by decide +kernel
theorem dX4_go_22 : decode cX4_go 22 = .ok (.iaload, 1) := by decide +kernel
theorem dX4_go_23 : decode cX4_go 23 = .ok (.iconst 3, 1) := by decide +kernel
theorem dX4_go_24 : decode cX4_go 24 = .ok (.if_icmp .ne 7, 3) := by decide +kernel
theorem dX4_go_27 : decode cX4_go 27 = .ok (.iconst 1, 1) := by decide +kernel
theorem dX4_go_28 : decode cX4_go 28 = .ok (.goto 4, 3) := by decide +kernel
theorem dX4_go_31 : decode cX4_go 31 = .ok (.iconst 0, 1) := by decide +kernel
theorem dX4_go_32 : decode cX4_go 32 = .ok (.istore_n 2, 1) := by decide +kernel
theorem dX4_go_33 : decode cX4_go 33 = .ok (.aload_n 0, 1) := by decide +kernel
theorem dX4_go_34 : decode cX4_go 34 = .ok (.aload_n 0, 1) := by decide +kernel
theorem dX4_go_35 : decode cX4_go 35 = .ok (.iload_n 1, 1) := by decide +kernel
theorem dX4_go_36 : decode cX4_go 36 = .ok (.invokevirtual 123, 3) := by decide +kernel
theorem dX4_go_39 : decode cX4_go 39 = .ok (.ifCond .ne 7, 3) := by decide +kernel
theorem dX4_go_42 : decode cX4_go 42 = .ok (.iconst 1, 1) := by decide +kernel
theorem dX4_go_43 : decode cX4_go 43 = .ok (.goto 12, 3) := by decide +kernel
theorem dX4_go_46 : decode cX4_go 46 = .ok (.iload_n 2, 1) := by decide +kernel
theorem dX4_go_47 : decode cX4_go 47 = .ok (.ifCond .eq 7, 3) := by decide +kernel
theorem dX4_go_50 : decode cX4_go 50 = .ok (.iconst 0, 1) := by decide +kernel
theorem dX4_go_51 : decode cX4_go 51 = .ok (.goto 4, 3) := by decide +kernel
theorem dX4_go_54 : decode cX4_go 54 = .ok (.iconst 2, 1) := by decide +kernel
theorem dX4_go_55 : decode cX4_go 55 = .ok (.invokevirtual 101, 3) := by decide +kernel
theorem dX4_go_58 : decode cX4_go 58 = .ok (.ifCond .eq 5, 3) := by decide +kernel
theorem dX4_go_61 : decode cX4_go 61 = .ok (.iconst 0, 1) := by decide +kernel
theorem dX4_go_62 : decode cX4_go 62 = .ok (.ireturn, 1) := by decide +kernel
theorem dX4_go_63 : decode cX4_go 63 = .ok (.aload_n 0, 1) := by decide +kernel
theorem dX4_go_64 : decode cX4_go 64 = .ok (.getfield 66, 3) := by decide +kernel
theorem dX4_go_67 : decode cX4_go 67 = .ok (.iload_n 1, 1) := by decide +kernel
theorem dX4_go_68 : decode cX4_go 68 = .ok (.aload_n 0, 1) := by decide +kernel
theorem dX4_go_69 : decode cX4_go 69 = .ok (.getfield 60, 3) := by decide +kernel
theorem dX4_go_72 : decode cX4_go 72 = .ok (.iload_n 1, 1) := by decide +kernel
theorem dX4_go_73 : decode cX4_go 73 = .ok (.iaload, 1) := by decide +kernel
theorem dX4_go_74 : decode cX4_go 74 = .ok (.ifCond .ne 7, 3) := by decide +kernel
theorem dX4_go_77 : decode cX4_go 77 = .ok (.iconst 1, 1) := by decide +kernel
theorem dX4_go_78 : decode cX4_go 78 = .ok (.goto 4, 3) := by decide +kernel
theorem dX4_go_81 : decode cX4_go 81 = .ok (.iconst 0, 1) := by decide +kernel
theorem dX4_go_82 : decode cX4_go 82 = .ok (.bastore, 1) := by decide +kernel
theorem dX4_go_83 : decode cX4_go 83 = .ok (.aload_n 0, 1) := by decide +kernel
theorem dX4_go_84 : decode cX4_go 84 = .ok (.getfield 60, 3) := by decide +kernel
theorem dX4_go_87 : decode cX4_go 87 = .ok (.iload_n 1, 1) := by decide +kernel
theorem dX4_go_88 : decode cX4_go 88 = .ok (.iconst 2, 1) := by decide +kernel
theorem dX4_go_89 : decode cX4_go 89 = .ok (.iastore, 1) := by decide +kernel
theorem dX4_go_90 : decode cX4_go 90 = .ok (.aload_n 0, 1) := by decide +kernel
theorem dX4_go_91 : decode cX4_go 91 = .ok (.getfield 66, 3) := by decide +kernel
theorem dX4_go_94 : decode cX4_go 94 = .ok (.iload_n 1, 1) := by decide +kernel
theorem dX4_go_95 : decode cX4_go 95 = .ok (.baload, 1) := by decide +kernel
theorem dX4_go_96 : decode cX4_go 96 = .ok (.ireturn, 1) := by decide +kernel
theorem dX4_isThere_0 : decode cX4_isThere 0 = .ok (.aload_n 0, 1) := by decide +kernel
theorem dX4_isThere_1 : decode cX4_isThere 1 = .ok (.getfield 63, 3) := by decide +kernel
theorem dX4_isThere_4 : decode cX4_isThere 4 = .ok (.iload_n 1, 1) := by decide +kernel
theorem dX4_isThere_5 : decode cX4_isThere 5 = .ok (.iaload, 1) := by decide +kernel
theorem dX4_isThere_6 : decode cX4_isThere 6 = .ok (.aload_n 0, 1) := by decide +kernel
theorem dX4_isThere_7 : decode cX4_isThere 7 = .ok (.getfield 66, 3) := by decide +kernel
theorem dX4_isThere_10 : decode cX4_isThere 10 = .ok (.iload_n 1, 1) := by decide +kernel
theorem dX4_isThere_11 : decode cX4_isThere 11 = .ok (.baload, 1) := by decide +kernel
theorem dX4_isThere_12 : decode cX4_isThere 12 = .ok (.ifCond .eq 10, 3) := by decide +kernel
theorem dX4_isThere_15 : decode cX4_isThere 15 = .ok (.aload_n 0, 1) := by decide +kernel
theorem dX4_isThere_16 : decode cX4_isThere 16 = .ok (.getfield 91, 3) := by decide +kernel
theorem dX4_isThere_19 : decode cX4_isThere 19 = .ok (.goto 4, 3) := by decide +kernel
theorem dX4_isThere_22 : decode cX4_isThere 22 = .ok (.iconst 0, 1) := by decide +kernel
theorem dX4_isThere_23 : decode cX4_isThere 23 = .ok (.if_icmp .ne 7, 3) := by decide +kernel
theorem dX4_isThere_26 : decode cX4_isThere 26 = .ok (.iconst 1, 1) := by decide +kernel
theorem dX4_isThere_27 : decode cX4_isThere 27 = .ok (.goto 4, 3) := by decide +kernel
theorem dX4_isThere_30 : decode cX4_isThere 30 = .ok (.iconst 0, 1) := by decide +kernel
theorem dX4_isThere_31 : decode cX4_isThere 31 = .ok (.ireturn, 1) := by decide +kernel
theorem dX4_arrives_0 : decode cX4_arrives 0 = .ok (.aload_n 0, 1) := by decide +kernel
theorem dX4_arrives_1 : decode cX4_arrives 1 = .ok (.getfield 60, 3) := by decide +kernel
theorem dX4_arrives_4 : decode cX4_arrives 4 = .ok (.iload_n 1, 1) := by decide +kernel
theorem dX4_arrives_5 : decode cX4_arrives 5 = .ok (.aload_n 0, 1) := by decide +kernel
theorem dX4_arrives_6 : decode cX4_arrives 6 = .ok (.getfield 66, 3) := by decide +kernel
theorem dX4_arrives_9 : decode cX4_arrives 9 = .ok (.iload_n 1, 1) := by decide +kernel
theorem dX4_arrives_10 : decode cX4_arrives 10 = .ok (.baload, 1) := by decide +kernel
theorem dX4_arrives_11 : decode cX4_arrives 11 = .ok (.ifCond .eq 7, 3) := by decide +kernel
theorem dX4_arrives_14 : decode cX4_arrives 14 = .ok (.iconst 3, 1) := by decide +kernel
theorem dX4_arrives_15 : decode cX4_arrives 15 = .ok (.goto 4, 3) := by decide +kernel
theorem dX4_arrives_18 : decode cX4_arrives 18 = .ok (.iconst 0, 1) := by decide +kernel
theorem dX4_arrives_19 : decode cX4_arrives 19 = .ok (.iastore, 1) := by decide +kernel
theorem dX4_arrives_20 : decode cX4_arrives 20 = .ok (.aload_n 0, 1) := by decide +kernel
theorem dX4_arrives_21 : decode cX4_arrives 21 = .ok (.iload_n 1, 1) := by decide +kernel
theorem dX4_arrives_22 : decode cX4_arrives 22 = .ok (.aload_n 0, 1) := by decide +kernel
theorem dX4_arrives_23 : decode cX4_arrives 23 = .ok (.getfield 66, 3) := by decide +kernel
theorem dX4_arrives_26 : decode cX4_arrives 26 = .ok (.iload_n 1, 1) := by decide +kernel
theorem dX4_arrives_27 : decode cX4_arrives 27 = .ok (.baload, 1) := by decide +kernel
theorem dX4_arrives_28 : decode cX4_arrives 28 = .ok (.invokevirtual 133, 3) := by decide +kernel
theorem dX4_arrives_31 : decode cX4_arrives 31 = .ok (.return_, 1) := by decide +kernel
theorem dX4_turn_0 : decode cX4_turn 0 = .ok (.aload_n 0, 1) := by decide +kernel
theorem dX4_turn_1 : decode cX4_turn 1 = .ok (.aload_n 0, 1) := by decide +kernel
theorem dX4_turn_2 : decode cX4_turn 2 = .ok (.iload_n 1, 1) := by decide +kernel
theorem dX4_turn_3 : decode cX4_turn 3 = .ok (.invokevirtual 123, 3) := by decide +kernel
theorem dX4_turn_6 : decode cX4_turn 6 = .ok (.ifCond .ne 7, 3) := by decide +kernel
theorem dX4_turn_9 : decode cX4_turn 9 = .ok (.iconst 1, 1) := by decide +kernel
theorem dX4_turn_10 : decode cX4_turn 10 = .ok (.goto 18, 3) := by decide +kernel
theorem dX4_turn_13 : decode cX4_turn 13 = .ok (.aload_n 0, 1) := by decide +kernel
theorem dX4_turn_14 : decode cX4_turn 14 = .ok (.getfield 60, 3) := by decide +kernel
theorem dX4_turn_17 : decode cX4_turn 17 = .ok (.iload_n 1, 1) := by decide +kernel
theorem dX4_turn_18 : decode cX4_turn 18 = .ok (.iaload, 1) := by decide +kernel
theorem dX4_turn_19 : decode cX4_turn 19 = .ok (.iconst 2, 1) := by decide +kernel
theorem dX4_turn_20 : decode cX4_turn 20 = .ok (.if_icmp .ne 7, 3) := by decide +kernel
theorem dX4_turn_23 : decode cX4_turn 23 = .ok (.iconst 0, 1) := by decide +kernel
theorem dX4_turn_24 : decode cX4_turn 24 = .ok (.goto 4, 3) := by decide +kernel
theorem dX4_turn_27 : decode cX4_turn 27 = .ok (.iconst 2, 1) := by decide +kernel
theorem dX4_turn_28 : decode cX4_turn 28 = .ok (.invokevirtual 101, 3) := by decide +kernel
theorem dX4_turn_31 : decode cX4_turn 31 = .ok (.ifCond .eq 5, 3) := by decide +kernel
theorem dX4_turn_34 : decode cX4_turn 34 = .ok (.iconst 0, 1) := by decide +kernel
theorem dX4_turn_35 : decode cX4_turn 35 = .ok (.ireturn, 1) := by decide +kernel
theorem dX4_turn_36 : decode cX4_turn 36 = .ok (.aload_n 0, 1) := by decide +kernel
theorem dX4_turn_37 : decode cX4_turn 37 = .ok (.getfield 66, 3) := by decide +kernel
theorem dX4_turn_40 : decode cX4_turn 40 = .ok (.iload_n 1, 1) := by decide +kernel
theorem dX4_turn_41 : decode cX4_turn 41 = .ok (.aload_n 0, 1) := by decide +kernel
theorem dX4_turn_42 : decode cX4_turn 42 = .ok (.getfield 66, 3) := by decide +kernel
theorem dX4_turn_45 : decode cX4_turn 45 = .ok (.iload_n 1, 1) := by decide +kernel
theorem dX4_turn_46 : decode cX4_turn 46 = .ok (.baload, 1) := by decide +kernel
theorem dX4_turn_47 : decode cX4_turn 47 = .ok (.ifCond .ne 7, 3) := by decide +kernel
theorem dX4_turn_50 : decode cX4_turn 50 = .ok (.iconst 1, 1) := by decide +kernel
theorem dX4_turn_51 : decode cX4_turn 51 = .ok (.goto 4, 3) := by decide +kernel
theorem dX4_turn_54 : decode cX4_turn 54 = .ok (.iconst 0, 1) := by decide +kernel
theorem dX4_turn_55 : decode cX4_turn 55 = .ok (.bastore, 1) := by decide +kernel
theorem dX4_turn_56 : decode cX4_turn 56 = .ok (.aload_n 0, 1) := by decide +kernel
theorem dX4_turn_57 : decode cX4_turn 57 = .ok (.iload_n 1, 1) := by decide +kernel
theorem dX4_turn_58 : decode cX4_turn 58 = .ok (.invokevirtual 137, 3) := by decide +kernel
theorem dX4_turn_61 : decode cX4_turn 61 = .ok (.ifCond .eq 8, 3) := by decide +kernel
theorem dX4_turn_64 : decode cX4_turn 64 = .ok (.aload_n 0, 1) := by decide +kernel
theorem dX4_turn_65 : decode cX4_turn 65 = .ok (.iload_n 1, 1) := by decide +kernel
theorem dX4_turn_66 : decode cX4_turn 66 = .ok (.invokevirtual 140, 3) := by decide +kernel
theorem dX4_turn_69 : decode cX4_turn 69 = .ok (.aload_n 0, 1) := by decide +kernel
theorem dX4_turn_70 : decode cX4_turn 70 = .ok (.getfield 66, 3) := by decide +kernel
theorem dX4_turn_73 : decode cX4_turn 73 = .ok (.iload_n 1, 1) := by decide +kernel
theorem dX4_turn_74 : decode cX4_turn 74 = .ok (.baload, 1) := by decide +kernel
theorem dX4_turn_75 : decode cX4_turn 75 = .ok (.ireturn, 1) := by decide +kernel
theorem dX4_order_0 : decode cX4_order 0 = .ok (.iload_n 2, 1) := by decide +kernel
theorem dX4_order_1 : decode cX4_order 1 = .ok (.iconst 1, 1) := by decide +kernel
theorem dX4_order_2 : decode cX4_order 2 = .ok (.ldc 144, 2) := by decide +kernel
theorem dX4_order_4 : decode cX4_order 4 = .ok (.invokestatic 94, 3) := by decide +kernel
theorem dX4_order_7 : decode cX4_order 7 = .ok (.istore_n 3, 1) := by decide +kernel
theorem dX4_order_8 : decode cX4_order 8 = .ok (.aload_n 0, 1) := by decide +kernel
theorem dX4_order_9 : decode cX4_order 9 = .ok (.iload_n 1, 1) := by decide +kernel
theorem dX4_order_10 : decode cX4_order 10 = .ok (.invokestatic 126, 3) := by decide +kernel
theorem dX4_order_13 : decode cX4_order 13 = .ok (.ifCond .ne 7, 3) := by decide +kernel
theorem dX4_order_16 : decode cX4_order 16 = .ok (.iconst 1, 1) := by decide +kernel
theorem dX4_order_17 : decode cX4_order 17 = .ok (.goto 29, 3) := by decide +kernel
theorem dX4_order_20 : decode cX4_order 20 = .ok (.iload_n 3, 1) := by decide +kernel
theorem dX4_order_21 : decode cX4_order 21 = .ok (.ifCond .ne 7, 3) := by decide +kernel
theorem dX4_order_24 : decode cX4_order 24 = .ok (.iconst 2, 1) := by decide +kernel
theorem dX4_order_25 : decode cX4_order 25 = .ok (.goto 21, 3) := by decide +kernel
theorem dX4_order_28 : decode cX4_order 28 = .ok (.aload_n 0, 1) := by decide +kernel
theorem dX4_order_29 : decode cX4_order 29 = .ok (.getfield 85, 3) := by decide +kernel
theorem dX4_order_32 : decode cX4_order 32 = .ok (.iload_n 1, 1) := by decide +kernel
theorem dX4_order_33 : decode cX4_order 33 = .ok (.iaload, 1) := by decide +kernel
theorem dX4_order_34 : decode cX4_order 34 = .ok (.iload_n 2, 1) := by decide +kernel
theorem dX4_order_35 : decode cX4_order 35 = .ok (.iadd, 1) := by decide +kernel
theorem dX4_order_36 : decode cX4_order 36 = .ok (.ldc 145, 2) := by decide +kernel
theorem dX4_order_38 : decode cX4_order 38 = .ok (.if_icmp .le 7, 3) := by decide +kernel
theorem dX4_order_41 : decode cX4_order 41 = .ok (.iconst 3, 1) := by decide +kernel
theorem dX4_order_42 : decode cX4_order 42 = .ok (.goto 4, 3) := by decide +kernel
theorem dX4_order_45 : decode cX4_order 45 = .ok (.iconst 0, 1) := by decide +kernel
theorem dX4_order_46 : decode cX4_order 46 = .ok (.invokevirtual 101, 3) := by decide +kernel
theorem dX4_order_49 : decode cX4_order 49 = .ok (.ifCond .eq 5, 3) := by decide +kernel
theorem dX4_order_52 : decode cX4_order 52 = .ok (.iconst 0, 1) := by decide +kernel
theorem dX4_order_53 : decode cX4_order 53 = .ok (.ireturn, 1) := by decide +kernel
theorem dX4_order_54 : decode cX4_order 54 = .ok (.aload_n 0, 1) := by decide +kernel
theorem dX4_order_55 : decode cX4_order 55 = .ok (.getfield 85, 3) := by decide +kernel
theorem dX4_order_58 : decode cX4_order 58 = .ok (.iload_n 1, 1) := by decide +kernel
theorem dX4_order_59 : decode cX4_order 59 = .ok (.dup2, 1) := by decide +kernel
theorem dX4_order_60 : decode cX4_order 60 = .ok (.iaload, 1) := by decide +kernel
theorem dX4_order_61 : decode cX4_order 61 = .ok (.iload_n 2, 1) := by decide +kernel
theorem dX4_order_62 : decode cX4_order 62 = .ok (.iadd, 1) := by decide +kernel
theorem dX4_order_63 : decode cX4_order 63 = .ok (.iastore, 1) := by decide +kernel
theorem dX4_order_64 : decode cX4_order 64 = .ok (.aload_n 0, 1) := by decide +kernel
theorem dX4_order_65 : decode cX4_order 65 = .ok (.getfield 85, 3) := by decide +kernel
theorem dX4_order_68 : decode cX4_order 68 = .ok (.iload_n 1, 1) := by decide +kernel
theorem dX4_order_69 : decode cX4_order 69 = .ok (.iaload, 1) := by decide +kernel
theorem dX4_order_70 : decode cX4_order 70 = .ok (.ireturn, 1) := by decide +kernel
theorem dX4_freezes_0 : decode cX4_freezes 0 = .ok (.iconst 2, 1) := by decide +kernel
theorem dX4_freezes_1 : decode cX4_freezes 1 = .ok (.aload_n 0, 1) := by decide +kernel
theorem dX4_freezes_2 : decode cX4_freezes 2 = .ok (.getfield 106, 3) := by decide +kernel
theorem dX4_freezes_5 : decode cX4_freezes 5 = .ok (.imul, 1) := by decide +kernel
theorem dX4_freezes_6 : decode cX4_freezes 6 = .ok (.aload_n 0, 1) := by decide +kernel
theorem dX4_freezes_7 : decode cX4_freezes 7 = .ok (.getfield 29, 3) := by decide +kernel
theorem dX4_freezes_10 : decode cX4_freezes 10 = .ok (.iload_n 1, 1) := by decide +kernel
theorem dX4_freezes_11 : decode cX4_freezes 11 = .ok (.iaload, 1) := by decide +kernel
theorem dX4_freezes_12 : decode cX4_freezes 12 = .ok (.if_icmp .ge 12, 3) := by decide +kernel
theorem dX4_freezes_15 : decode cX4_freezes 15 = .ok (.iconst 2, 1) := by decide +kernel
theorem dX4_freezes_16 : decode cX4_freezes 16 = .ok (.aload_n 0, 1) := by decide +kernel
theorem dX4_freezes_17 : decode cX4_freezes 17 = .ok (.getfield 106, 3) := by decide +kernel
theorem dX4_freezes_20 : decode cX4_freezes 20 = .ok (.imul, 1) := by decide +kernel
theorem dX4_freezes_21 : decode cX4_freezes 21 = .ok (.goto 9, 3) := by decide +kernel
theorem dX4_freezes_24 : decode cX4_freezes 24 = .ok (.aload_n 0, 1) := by decide +kernel
theorem dX4_freezes_25 : decode cX4_freezes 25 = .ok (.getfield 29, 3) := by decide +kernel
theorem dX4_freezes_28 : decode cX4_freezes 28 = .ok (.iload_n 1, 1) := by decide +kernel
theorem dX4_freezes_29 : decode cX4_freezes 29 = .ok (.iaload, 1) := by decide +kernel
theorem dX4_freezes_30 : decode cX4_freezes 30 = .ok (.istore_n 2, 1) := by decide +kernel
theorem dX4_freezes_31 : decode cX4_freezes 31 = .ok (.aload_n 0, 1) := by decide +kernel
theorem dX4_freezes_32 : decode cX4_freezes 32 = .ok (.getfield 29, 3) := by decide +kernel
theorem dX4_freezes_35 : decode cX4_freezes 35 = .ok (.iload_n 1, 1) := by decide +kernel
theorem dX4_freezes_36 : decode cX4_freezes 36 = .ok (.dup2, 1) := by decide +kernel
theorem dX4_freezes_37 : decode cX4_freezes 37 = .ok (.iaload, 1) := by decide +kernel
theorem dX4_freezes_38 : decode cX4_freezes 38 = .ok (.iload_n 2, 1) := by decide +kernel
theorem dX4_freezes_39 : decode cX4_freezes 39 = .ok (.isub, 1) := by decide +kernel
theorem dX4_freezes_40 : decode cX4_freezes 40 = .ok (.iastore, 1) := by decide +kernel
theorem dX4_freezes_41 : decode cX4_freezes 41 = .ok (.aload_n 0, 1) := by decide +kernel
theorem dX4_freezes_42 : decode cX4_freezes 42 = .ok (.getfield 26, 3) := by decide +kernel
theorem dX4_freezes_45 : decode cX4_freezes 45 = .ok (.iload_n 1, 1) := by decide +kernel
theorem dX4_freezes_46 : decode cX4_freezes 46 = .ok (.dup2, 1) := by decide +kernel
theorem dX4_freezes_47 : decode cX4_freezes 47 = .ok (.iaload, 1) := by decide +kernel
theorem dX4_freezes_48 : decode cX4_freezes 48 = .ok (.iload_n 2, 1) := by decide +kernel
theorem dX4_freezes_49 : decode cX4_freezes 49 = .ok (.iadd, 1) := by decide +kernel
theorem dX4_freezes_50 : decode cX4_freezes 50 = .ok (.iastore, 1) := by decide +kernel
theorem dX4_freezes_51 : decode cX4_freezes 51 = .ok (.aload_n 0, 1) := by decide +kernel
theorem dX4_freezes_52 : decode cX4_freezes 52 = .ok (.getfield 29, 3) := by decide +kernel
theorem dX4_freezes_55 : decode cX4_freezes 55 = .ok (.iload_n 1, 1) := by decide +kernel
theorem dX4_freezes_56 : decode cX4_freezes 56 = .ok (.iaload, 1) := by decide +kernel
theorem dX4_freezes_57 : decode cX4_freezes 57 = .ok (.ifCond .ne 74, 3) := by decide +kernel
theorem dX4_freezes_60 : decode cX4_freezes 60 = .ok (.sipush 400, 3) := by decide +kernel
theorem dX4_freezes_63 : decode cX4_freezes 63 = .ok (.aload_n 0, 1) := by decide +kernel
theorem dX4_freezes_64 : decode cX4_freezes 64 = .ok (.getfield 106, 3) := by decide +kernel
theorem dX4_freezes_67 : decode cX4_freezes 67 = .ok (.imul, 1) := by decide +kernel
theorem dX4_freezes_68 : decode cX4_freezes 68 = .ok (.aload_n 0, 1) := by decide +kernel
theorem dX4_freezes_69 : decode cX4_freezes 69 = .ok (.getfield 23, 3) := by decide +kernel
theorem dX4_freezes_72 : decode cX4_freezes 72 = .ok (.iload_n 1, 1) := by decide +kernel
theorem dX4_freezes_73 : decode cX4_freezes 73 = .ok (.iaload, 1) := by decide +kernel
theorem dX4_freezes_74 : decode cX4_freezes 74 = .ok (.aload_n 0, 1) := by decide +kernel
theorem dX4_freezes_75 : decode cX4_freezes 75 = .ok (.getfield 26, 3) := by decide +kernel
theorem dX4_freezes_78 : decode cX4_freezes 78 = .ok (.iload_n 1, 1) := by decide +kernel
theorem dX4_freezes_79 : decode cX4_freezes 79 = .ok (.iaload, 1) := by decide +kernel
theorem dX4_freezes_80 : decode cX4_freezes 80 = .ok (.iadd, 1) := by decide +kernel
theorem dX4_freezes_81 : decode cX4_freezes 81 = .ok (.iconst 4, 1) := by decide +kernel
theorem dX4_freezes_82 : decode cX4_freezes 82 = .ok (.aload_n 0, 1) := by decide +kernel
theorem dX4_freezes_83 : decode cX4_freezes 83 = .ok (.getfield 32, 3) := by decide +kernel
theorem dX4_freezes_86 : decode cX4_freezes 86 = .ok (.iload_n 1, 1) := by decide +kernel
theorem dX4_freezes_87 : decode cX4_freezes 87 = .ok (.iaload, 1) := by decide +kernel
theorem dX4_freezes_88 : decode cX4_freezes 88 = .ok (.imul, 1) := by decide +kernel
theorem dX4_freezes_89 : decode cX4_freezes 89 = .ok (.iadd, 1) := by decide +kernel
theorem dX4_freezes_90 : decode cX4_freezes 90 = .ok (.bipush 50, 2) := by decide +kernel
theorem dX4_freezes_92 : decode cX4_freezes 92 = .ok (.iadd, 1) := by decide +kernel
theorem dX4_freezes_93 : decode cX4_freezes 93 = .ok (.idiv, 1) := by decide +kernel
theorem dX4_freezes_94 : decode cX4_freezes 94 = .ok (.istore_n 3, 1) := by decide +kernel
theorem dX4_freezes_95 : decode cX4_freezes 95 = .ok (.iload_n 3, 1) := by decide +kernel
theorem dX4_freezes_96 : decode cX4_freezes 96 = .ok (.aload_n 0, 1) := by decide +kernel
theorem dX4_freezes_97 : decode cX4_freezes 97 = .ok (.getfield 13, 3) := by decide +kernel
theorem dX4_freezes_100 : decode cX4_freezes 100 = .ok (.iload_n 1, 1) := by decide +kernel
theorem dX4_freezes_101 : decode cX4_freezes 101 = .ok (.iaload, 1) := by decide +kernel
theorem dX4_freezes_102 : decode cX4_freezes 102 = .ok (.iconst 1, 1) := by decide +kernel
theorem dX4_freezes_103 : decode cX4_freezes 103 = .ok (.if_icmp .ne 7, 3) := by decide +kernel
theorem dX4_freezes_106 : decode cX4_freezes 106 = .ok (.iconst 2, 1) := by decide +kernel
theorem dX4_freezes_107 : decode cX4_freezes 107 = .ok (.goto 4, 3) := by decide +kernel
theorem dX4_freezes_110 : decode cX4_freezes 110 = .ok (.iconst 0, 1) := by decide +kernel
theorem dX4_freezes_111 : decode cX4_freezes 111 = .ok (.isub, 1) := by decide +kernel
theorem dX4_freezes_112 : decode cX4_freezes 112 = .ok (.istore_n 3, 1) := by decide +kernel
theorem dX4_freezes_113 : decode cX4_freezes 113 = .ok (.aload_n 0, 1) := by decide +kernel
theorem dX4_freezes_114 : decode cX4_freezes 114 = .ok (.getfield 23, 3) := by decide +kernel
theorem dX4_freezes_117 : decode cX4_freezes 117 = .ok (.iload_n 1, 1) := by decide +kernel
theorem dX4_freezes_118 : decode cX4_freezes 118 = .ok (.dup2, 1) := by decide +kernel
theorem dX4_freezes_119 : decode cX4_freezes 119 = .ok (.iaload, 1) := by decide +kernel
theorem dX4_freezes_120 : decode cX4_freezes 120 = .ok (.iload_n 3, 1) := by decide +kernel
theorem dX4_freezes_121 : decode cX4_freezes 121 = .ok (.ifCond .ge 7, 3) := by decide +kernel
theorem dX4_freezes_124 : decode cX4_freezes 124 = .ok (.iconst 0, 1) := by decide +kernel
theorem dX4_freezes_125 : decode cX4_freezes 125 = .ok (.goto 4, 3) := by decide +kernel
theorem dX4_freezes_128 : decode cX4_freezes 128 = .ok (.iload_n 3, 1) := by decide +kernel
theorem dX4_freezes_129 : decode cX4_freezes 129 = .ok (.iadd, 1) := by decide +kernel
theorem dX4_freezes_130 : decode cX4_freezes 130 = .ok (.iastore, 1) := by decide +kernel
theorem dX4_freezes_131 : decode cX4_freezes 131 = .ok (.aload_n 0, 1) := by decide +kernel
theorem dX4_freezes_132 : decode cX4_freezes 132 = .ok (.getfield 106, 3) := by decide +kernel
theorem dX4_freezes_135 : decode cX4_freezes 135 = .ok (.bipush 40, 2) := by decide +kernel
theorem dX4_freezes_137 : decode cX4_freezes 137 = .ok (.if_icmp .lt 31, 3) := by decide +kernel
theorem dX4_freezes_140 : decode cX4_freezes 140 = .ok (.aload_n 0, 1) := by decide +kernel
theorem dX4_freezes_141 : decode cX4_freezes 141 = .ok (.getfield 35, 3) := by decide +kernel
theorem dX4_freezes_144 : decode cX4_freezes 144 = .ok (.iload_n 1, 1) := by decide +kernel
theorem dX4_freezes_145 : decode cX4_freezes 145 = .ok (.aload_n 0, 1) := by decide +kernel
theorem dX4_freezes_146 : decode cX4_freezes 146 = .ok (.getfield 35, 3) := by decide +kernel
theorem dX4_freezes_149 : decode cX4_freezes 149 = .ok (.iload_n 1, 1) := by decide +kernel
theorem dX4_freezes_150 : decode cX4_freezes 150 = .ok (.iaload, 1) := by decide +kernel
theorem dX4_freezes_151 : decode cX4_freezes 151 = .ok (.ifCond .ne 7, 3) := by decide +kernel
theorem dX4_freezes_154 : decode cX4_freezes 154 = .ok (.iconst 1, 1) := by decide +kernel
theorem dX4_freezes_155 : decode cX4_freezes 155 = .ok (.goto 9, 3) := by decide +kernel
theorem dX4_freezes_158 : decode cX4_freezes 158 = .ok (.aload_n 0, 1) := by decide +kernel
theorem dX4_freezes_159 : decode cX4_freezes 159 = .ok (.getfield 35, 3) := by decide +kernel
theorem dX4_freezes_162 : decode cX4_freezes 162 = .ok (.iload_n 1, 1) := by decide +kernel
theorem dX4_freezes_163 : decode cX4_freezes 163 = .ok (.iaload, 1) := by decide +kernel
theorem dX4_freezes_164 : decode cX4_freezes 164 = .ok (.iastore, 1) := by decide +kernel
theorem dX4_freezes_165 : decode cX4_freezes 165 = .ok (.goto 33, 3) := by decide +kernel
theorem dX4_freezes_168 : decode cX4_freezes 168 = .ok (.aload_n 0, 1) := by decide +kernel
theorem dX4_freezes_169 : decode cX4_freezes 169 = .ok (.getfield 106, 3) := by decide +kernel
theorem dX4_freezes_172 : decode cX4_freezes 172 = .ok (.bipush 10, 2) := by decide +kernel
theorem dX4_freezes_174 : decode cX4_freezes 174 = .ok (.if_icmp .lt 24, 3) := by decide +kernel
theorem dX4_freezes_177 : decode cX4_freezes 177 = .ok (.aload_n 0, 1) := by decide +kernel
theorem dX4_freezes_178 : decode cX4_freezes 178 = .ok (.getfield 35, 3) := by decide +kernel
theorem dX4_freezes_181 : decode cX4_freezes 181 = .ok (.iload_n 1, 1) := by decide +kernel
theorem dX4_freezes_182 : decode cX4_freezes 182 = .ok (.aload_n 0, 1) := by decide +kernel
theorem dX4_freezes_183 : decode cX4_freezes 183 = .ok (.getfield 35, 3) := by decide +kernel
theorem dX4_freezes_186 : decode cX4_freezes 186 = .ok (.iload_n 1, 1) := by decide +kernel
theorem dX4_freezes_187 : decode cX4_freezes 187 = .ok (.iaload, 1) := by decide +kernel
theorem dX4_freezes_188 : decode cX4_freezes 188 = .ok (.iconst 2, 1) := by decide +kernel
theorem dX4_freezes_189 : decode cX4_freezes 189 = .ok (.if_icmp .ne 7, 3) := by decide +kernel
theorem dX4_freezes_192 : decode cX4_freezes 192 = .ok (.iconst 1, 1) := by decide +kernel
theorem dX4_freezes_193 : decode cX4_freezes 193 = .ok (.goto 4, 3) := by decide +kernel
theorem dX4_freezes_196 : decode cX4_freezes 196 = .ok (.iconst 0, 1) := by decide +kernel
theorem dX4_freezes_197 : decode cX4_freezes 197 = .ok (.iastore, 1) := by decide +kernel
theorem dX4_freezes_198 : decode cX4_freezes 198 = .ok (.return_, 1) := by decide +kernel
theorem dX4_thaws_0 : decode cX4_thaws 0 = .ok (.bipush (-6), 2) := by decide +kernel
theorem dX4_thaws_2 : decode cX4_thaws 2 = .ok (.aload_n 0, 1) := by decide +kernel
theorem dX4_thaws_3 : decode cX4_thaws 3 = .ok (.getfield 106, 3) := by decide +kernel
theorem dX4_thaws_6 : decode cX4_thaws 6 = .ok (.imul, 1) := by decide +kernel
theorem dX4_thaws_7 : decode cX4_thaws 7 = .ok (.istore_n 2, 1) := by decide +kernel
theorem dX4_thaws_8 : decode cX4_thaws 8 = .ok (.iload_n 2, 1) := by decide +kernel
theorem dX4_thaws_9 : decode cX4_thaws 9 = .ok (.aload_n 0, 1) := by decide +kernel
theorem dX4_thaws_10 : decode cX4_thaws 10 = .ok (.getfield 32, 3) := by decide +kernel
theorem dX4_thaws_13 : decode cX4_thaws 13 = .ok (.iload_n 1, 1) := by decide +kernel
theorem dX4_thaws_14 : decode cX4_thaws 14 = .ok (.iaload, 1) := by decide +kernel
theorem dX4_thaws_15 : decode cX4_thaws 15 = .ok (.if_icmp .ge 7, 3) := by decide +kernel
theorem dX4_thaws_18 : decode cX4_thaws 18 = .ok (.iload_n 2, 1) := by decide +kernel
theorem dX4_thaws_19 : decode cX4_thaws 19 = .ok (.goto 9, 3) := by decide +kernel
theorem dX4_thaws_22 : decode cX4_thaws 22 = .ok (.aload_n 0, 1) := by decide +kernel
theorem dX4_thaws_23 : decode cX4_thaws 23 = .ok (.getfield 32, 3) := by decide +kernel
theorem dX4_thaws_26 : decode cX4_thaws 26 = .ok (.iload_n 1, 1) := by decide +kernel
theorem dX4_thaws_27 : decode cX4_thaws 27 = .ok (.iaload, 1) := by decide +kernel
theorem dX4_thaws_28 : decode cX4_thaws 28 = .ok (.istore_n 3, 1) := by decide +kernel
theorem dX4_thaws_29 : decode cX4_thaws 29 = .ok (.aload_n 0, 1) := by decide +kernel
theorem dX4_thaws_30 : decode cX4_thaws 30 = .ok (.getfield 32, 3) := by decide +kernel
theorem dX4_thaws_33 : decode cX4_thaws 33 = .ok (.iload_n 1, 1) := by decide +kernel
theorem dX4_thaws_34 : decode cX4_thaws 34 = .ok (.dup2, 1) := by decide +kernel
theorem dX4_thaws_35 : decode cX4_thaws 35 = .ok (.iaload, 1) := by decide +kernel
theorem dX4_thaws_36 : decode cX4_thaws 36 = .ok (.iload_n 3, 1) := by decide +kernel
theorem dX4_thaws_37 : decode cX4_thaws 37 = .ok (.isub, 1) := by decide +kernel
theorem dX4_thaws_38 : decode cX4_thaws 38 = .ok (.iastore, 1) := by decide +kernel
theorem dX4_thaws_39 : decode cX4_thaws 39 = .ok (.iload_n 2, 1) := by decide +kernel
theorem dX4_thaws_40 : decode cX4_thaws 40 = .ok (.iload_n 3, 1) := by decide +kernel
theorem dX4_thaws_41 : decode cX4_thaws 41 = .ok (.isub, 1) := by decide +kernel
theorem dX4_thaws_42 : decode cX4_thaws 42 = .ok (.istore_n 2, 1) := by decide +kernel
theorem dX4_thaws_43 : decode cX4_thaws 43 = .ok (.iload_n 2, 1) := by decide +kernel
theorem dX4_thaws_44 : decode cX4_thaws 44 = .ok (.aload_n 0, 1) := by decide +kernel
theorem dX4_thaws_45 : decode cX4_thaws 45 = .ok (.getfield 26, 3) := by decide +kernel
theorem dX4_thaws_48 : decode cX4_thaws 48 = .ok (.iload_n 1, 1) := by decide +kernel
theorem dX4_thaws_49 : decode cX4_thaws 49 = .ok (.iaload, 1) := by decide +kernel
theorem dX4_thaws_50 : decode cX4_thaws 50 = .ok (.if_icmp .ge 7, 3) := by decide +kernel
theorem dX4_thaws_53 : decode cX4_thaws 53 = .ok (.iload_n 2, 1) := by decide +kernel
theorem dX4_thaws_54 : decode cX4_thaws 54 = .ok (.goto 9, 3) := by decide +kernel
theorem dX4_thaws_57 : decode cX4_thaws 57 = .ok (.aload_n 0, 1) := by decide +kernel
theorem dX4_thaws_58 : decode cX4_thaws 58 = .ok (.getfield 26, 3) := by decide +kernel
theorem dX4_thaws_61 : decode cX4_thaws 61 = .ok (.iload_n 1, 1) := by decide +kernel
theorem dX4_thaws_62 : decode cX4_thaws 62 = .ok (.iaload, 1) := by decide +kernel
theorem dX4_thaws_63 : decode cX4_thaws 63 = .ok (.istore 4, 2) := by decide +kernel
theorem dX4_thaws_65 : decode cX4_thaws 65 = .ok (.aload_n 0, 1) := by decide +kernel
theorem dX4_thaws_66 : decode cX4_thaws 66 = .ok (.getfield 26, 3) := by decide +kernel
theorem dX4_thaws_69 : decode cX4_thaws 69 = .ok (.iload_n 1, 1) := by decide +kernel
theorem dX4_thaws_70 : decode cX4_thaws 70 = .ok (.dup2, 1) := by decide +kernel
theorem dX4_thaws_71 : decode cX4_thaws 71 = .ok (.iaload, 1) := by decide +kernel
theorem dX4_thaws_72 : decode cX4_thaws 72 = .ok (.iload 4, 2) := by decide +kernel
theorem dX4_thaws_74 : decode cX4_thaws 74 = .ok (.isub, 1) := by decide +kernel
theorem dX4_thaws_75 : decode cX4_thaws 75 = .ok (.iastore, 1) := by decide +kernel
theorem dX4_thaws_76 : decode cX4_thaws 76 = .ok (.iload_n 2, 1) := by decide +kernel
theorem dX4_thaws_77 : decode cX4_thaws 77 = .ok (.iload 4, 2) := by decide +kernel
theorem dX4_thaws_79 : decode cX4_thaws 79 = .ok (.isub, 1) := by decide +kernel
theorem dX4_thaws_80 : decode cX4_thaws 80 = .ok (.istore_n 2, 1) := by decide +kernel
theorem dX4_thaws_81 : decode cX4_thaws 81 = .ok (.iload_n 2, 1) := by decide +kernel
theorem dX4_thaws_82 : decode cX4_thaws 82 = .ok (.aload_n 0, 1) := by decide +kernel
theorem dX4_thaws_83 : decode cX4_thaws 83 = .ok (.getfield 23, 3) := by decide +kernel
theorem dX4_thaws_86 : decode cX4_thaws 86 = .ok (.iload_n 1, 1) := by decide +kernel
theorem dX4_thaws_87 : decode cX4_thaws 87 = .ok (.iaload, 1) := by decide +kernel
theorem dX4_thaws_88 : decode cX4_thaws 88 = .ok (.if_icmp .ge 7, 3) := by decide +kernel
theorem dX4_thaws_91 : decode cX4_thaws 91 = .ok (.iload_n 2, 1) := by decide +kernel
theorem dX4_thaws_92 : decode cX4_thaws 92 = .ok (.goto 9, 3) := by decide +kernel
theorem dX4_thaws_95 : decode cX4_thaws 95 = .ok (.aload_n 0, 1) := by decide +kernel
theorem dX4_thaws_96 : decode cX4_thaws 96 = .ok (.getfield 23, 3) := by decide +kernel
theorem dX4_thaws_99 : decode cX4_thaws 99 = .ok (.iload_n 1, 1) := by decide +kernel
theorem dX4_thaws_100 : decode cX4_thaws 100 = .ok (.iaload, 1) := by decide +kernel
theorem dX4_thaws_101 : decode cX4_thaws 101 = .ok (.istore 5, 2) := by decide +kernel
theorem dX4_thaws_103 : decode cX4_thaws 103 = .ok (.aload_n 0, 1) := by decide +kernel
theorem dX4_thaws_104 : decode cX4_thaws 104 = .ok (.getfield 23, 3) := by decide +kernel
theorem dX4_thaws_107 : decode cX4_thaws 107 = .ok (.iload_n 1, 1) := by decide +kernel
theorem dX4_thaws_108 : decode cX4_thaws 108 = .ok (.dup2, 1) := by decide +kernel
theorem dX4_thaws_109 : decode cX4_thaws 109 = .ok (.iaload, 1) := by decide +kernel
theorem dX4_thaws_110 : decode cX4_thaws 110 = .ok (.iload 5, 2) := by decide +kernel
theorem dX4_thaws_112 : decode cX4_thaws 112 = .ok (.isub, 1) := by decide +kernel
theorem dX4_thaws_113 : decode cX4_thaws 113 = .ok (.iastore, 1) := by decide +kernel
theorem dX4_thaws_114 : decode cX4_thaws 114 = .ok (.aload_n 0, 1) := by decide +kernel
theorem dX4_thaws_115 : decode cX4_thaws 115 = .ok (.getfield 44, 3) := by decide +kernel
theorem dX4_thaws_118 : decode cX4_thaws 118 = .ok (.iload_n 1, 1) := by decide +kernel
theorem dX4_thaws_119 : decode cX4_thaws 119 = .ok (.daload, 1) := by decide +kernel
theorem dX4_thaws_120 : decode cX4_thaws 120 = .ok (.iload 5, 2) := by decide +kernel
theorem dX4_thaws_122 : decode cX4_thaws 122 = .ok (.i2d, 1) := by decide +kernel
theorem dX4_thaws_123 : decode cX4_thaws 123 = .ok (.ldc2_w 115, 3) := by decide +kernel
theorem dX4_thaws_126 : decode cX4_thaws 126 = .ok (.iload 4, 2) := by decide +kernel
theorem dX4_thaws_128 : decode cX4_thaws 128 = .ok (.i2d, 1) := by decide +kernel
theorem dX4_thaws_129 : decode cX4_thaws 129 = .ok (.dmul, 1) := by decide +kernel
theorem dX4_thaws_130 : decode cX4_thaws 130 = .ok (.dadd, 1) := by decide +kernel
theorem dX4_thaws_131 : decode cX4_thaws 131 = .ok (.dsub, 1) := by decide +kernel
theorem dX4_thaws_132 : decode cX4_thaws 132 = .ok (.dstore 6, 2) := by decide +kernel
theorem dX4_thaws_134 : decode cX4_thaws 134 = .ok (.aload_n 0, 1) := by decide +kernel
theorem dX4_thaws_135 : decode cX4_thaws 135 = .ok (.getfield 44, 3) := by decide +kernel
theorem dX4_thaws_138 : decode cX4_thaws 138 = .ok (.iload_n 1, 1) := by decide +kernel
theorem dX4_thaws_139 : decode cX4_thaws 139 = .ok (.dload 6, 2) := by decide +kernel
theorem dX4_thaws_141 : decode cX4_thaws 141 = .ok (.dconst 0, 1) := by decide +kernel
theorem dX4_thaws_142 : decode cX4_thaws 142 = .ok (.dcmp .g, 1) := by decide +kernel
theorem dX4_thaws_143 : decode cX4_thaws 143 = .ok (.ifCond .ge 7, 3) := by decide +kernel
theorem dX4_thaws_146 : decode cX4_thaws 146 = .ok (.dconst 0, 1) := by decide +kernel
theorem dX4_thaws_147 : decode cX4_thaws 147 = .ok (.goto 5, 3) := by decide +kernel
theorem dX4_thaws_150 : decode cX4_thaws 150 = .ok (.dload 6, 2) := by decide +kernel
theorem dX4_thaws_152 : decode cX4_thaws 152 = .ok (.dastore, 1) := by decide +kernel
theorem dX4_thaws_153 : decode cX4_thaws 153 = .ok (.aload_n 0, 1) := by decide +kernel
theorem dX4_thaws_154 : decode cX4_thaws 154 = .ok (.getfield 35, 3) := by decide +kernel
theorem dX4_thaws_157 : decode cX4_thaws 157 = .ok (.iload_n 1, 1) := by decide +kernel
theorem dX4_thaws_158 : decode cX4_thaws 158 = .ok (.aload_n 0, 1) := by decide +kernel
theorem dX4_thaws_159 : decode cX4_thaws 159 = .ok (.getfield 35, 3) := by decide +kernel
theorem dX4_thaws_162 : decode cX4_thaws 162 = .ok (.iload_n 1, 1) := by decide +kernel
theorem dX4_thaws_163 : decode cX4_thaws 163 = .ok (.iaload, 1) := by decide +kernel
theorem dX4_thaws_164 : decode cX4_thaws 164 = .ok (.iconst 1, 1) := by decide +kernel
theorem dX4_thaws_165 : decode cX4_thaws 165 = .ok (.if_icmp .ne 7, 3) := by decide +kernel
theorem dX4_thaws_168 : decode cX4_thaws 168 = .ok (.iconst 2, 1) := by decide +kernel
theorem dX4_thaws_169 : decode cX4_thaws 169 = .ok (.goto 9, 3) := by decide +kernel
theorem dX4_thaws_172 : decode cX4_thaws 172 = .ok (.aload_n 0, 1) := by decide +kernel
theorem dX4_thaws_173 : decode cX4_thaws 173 = .ok (.getfield 35, 3) := by decide +kernel
theorem dX4_thaws_176 : decode cX4_thaws 176 = .ok (.iload_n 1, 1) := by decide +kernel
theorem dX4_thaws_177 : decode cX4_thaws 177 = .ok (.iaload, 1) := by decide +kernel
theorem dX4_thaws_178 : decode cX4_thaws 178 = .ok (.iastore, 1) := by decide +kernel
theorem dX4_thaws_179 : decode cX4_thaws 179 = .ok (.return_, 1) := by decide +kernel
theorem dX4_ends_0 : decode cX4_ends 0 = .ok (.iconst 0, 1) := by decide +kernel
theorem dX4_ends_1 : decode cX4_ends 1 = .ok (.istore_n 1, 1) := by decide +kernel
theorem dX4_ends_2 : decode cX4_ends 2 = .ok (.iload_n 1, 1) := by decide +kernel
theorem dX4_ends_3 : decode cX4_ends 3 = .ok (.aload_n 0, 1) := by decide +kernel
theorem dX4_ends_4 : decode cX4_ends 4 = .ok (.getfield 91, 3) := by decide +kernel
theorem dX4_ends_7 : decode cX4_ends 7 = .ok (.if_icmp .ge 44, 3) := by decide +kernel
theorem dX4_ends_10 : decode cX4_ends 10 = .ok (.aload_n 0, 1) := by decide +kernel
theorem dX4_ends_11 : decode cX4_ends 11 = .ok (.getfield 106, 3) := by decide +kernel
theorem dX4_ends_14 : decode cX4_ends 14 = .ok (.ifCond .le 19, 3) := by decide +kernel
theorem dX4_ends_17 : decode cX4_ends 17 = .ok (.aload_n 0, 1) := by decide +kernel
theorem dX4_ends_18 : decode cX4_ends 18 = .ok (.iload_n 1, 1) := by decide +kernel
theorem dX4_ends_19 : decode cX4_ends 19 = .ok (.invokevirtual 112, 3) := by decide +kernel
theorem dX4_ends_22 : decode cX4_ends 22 = .ok (.ifCond .eq 11, 3) := by decide +kernel
theorem dX4_ends_25 : decode cX4_ends 25 = .ok (.aload_n 0, 1) := by decide +kernel
theorem dX4_ends_26 : decode cX4_ends 26 = .ok (.iload_n 1, 1) := by decide +kernel
theorem dX4_ends_27 : decode cX4_ends 27 = .ok (.invokevirtual 146, 3) := by decide +kernel
theorem dX4_ends_30 : decode cX4_ends 30 = .ok (.goto 15, 3) := by decide +kernel
theorem dX4_ends_33 : decode cX4_ends 33 = .ok (.aload_n 0, 1) := by decide +kernel
theorem dX4_ends_34 : decode cX4_ends 34 = .ok (.getfield 106, 3) := by decide +kernel
theorem dX4_ends_37 : decode cX4_ends 37 = .ok (.ifCond .ge 8, 3) := by decide +kernel
theorem dX4_ends_40 : decode cX4_ends 40 = .ok (.aload_n 0, 1) := by decide +kernel
theorem dX4_ends_41 : decode cX4_ends 41 = .ok (.iload_n 1, 1) := by decide +kernel
theorem dX4_ends_42 : decode cX4_ends 42 = .ok (.invokevirtual 149, 3) := by decide +kernel
theorem dX4_ends_45 : decode cX4_ends 45 = .ok (.iinc 1 1, 3) := by decide +kernel
theorem dX4_ends_48 : decode cX4_ends 48 = .ok (.goto (-46), 3) := by decide +kernel
theorem dX4_ends_51 : decode cX4_ends 51 = .ok (.return_, 1) := by decide +kernel
theorem dX4_bearsBy_0 : decode cX4_bearsBy 0 = .ok (.aload_n 0, 1) := by decide +kernel
theorem dX4_bearsBy_1 : decode cX4_bearsBy 1 = .ok (.iload_n 1, 1) := by decide +kernel
theorem dX4_bearsBy_2 : decode cX4_bearsBy 2 = .ok (.invokevirtual 112, 3) := by decide +kernel
theorem dX4_bearsBy_5 : decode cX4_bearsBy 5 = .ok (.ifCond .ne 21, 3) := by decide +kernel
theorem dX4_bearsBy_8 : decode cX4_bearsBy 8 = .ok (.aload_n 0, 1) := by decide +kernel
theorem dX4_bearsBy_9 : decode cX4_bearsBy 9 = .ok (.getfield 32, 3) := by decide +kernel
theorem dX4_bearsBy_12 : decode cX4_bearsBy 12 = .ok (.iload_n 1, 1) := by decide +kernel
theorem dX4_bearsBy_13 : decode cX4_bearsBy 13 = .ok (.iaload, 1) := by decide +kernel
theorem dX4_bearsBy_14 : decode cX4_bearsBy 14 = .ok (.bipush 100, 2) := by decide +kernel
theorem dX4_bearsBy_16 : decode cX4_bearsBy 16 = .ok (.if_icmp .lt 8, 3) := by decide +kernel
theorem dX4_bearsBy_19 : decode cX4_bearsBy 19 = .ok (.ldc 122, 2) := by decide +kernel
theorem dX4_bearsBy_21 : decode cX4_bearsBy 21 = .ok (.goto 4, 3) := by decide +kernel
theorem dX4_bearsBy_24 : decode cX4_bearsBy 24 = .ok (.iconst 0, 1) := by decide +kernel
theorem dX4_bearsBy_25 : decode cX4_bearsBy 25 = .ok (.ireturn, 1) := by decide +kernel
theorem dX4_bearsBy_26 : decode cX4_bearsBy 26 = .ok (.ldc2_w 152, 3) := by decide +kernel
theorem dX4_bearsBy_29 : decode cX4_bearsBy 29 = .ok (.dload_n 2, 1) := by decide +kernel
theorem dX4_bearsBy_30 : decode cX4_bearsBy 30 = .ok (.dmul, 1) := by decide +kernel
theorem dX4_bearsBy_31 : decode cX4_bearsBy 31 = .ok (.dload_n 2, 1) := by decide +kernel
theorem dX4_bearsBy_32 : decode cX4_bearsBy 32 = .ok (.dmul, 1) := by decide +kernel
theorem dX4_bearsBy_33 : decode cX4_bearsBy 33 = .ok (.aload_n 0, 1) := by decide +kernel
theorem dX4_bearsBy_34 : decode cX4_bearsBy 34 = .ok (.getfield 35, 3) := by decide +kernel
theorem dX4_bearsBy_37 : decode cX4_bearsBy 37 = .ok (.iload_n 1, 1) := by decide +kernel
theorem dX4_bearsBy_38 : decode cX4_bearsBy 38 = .ok (.iaload, 1) := by decide +kernel
theorem dX4_bearsBy_39 : decode cX4_bearsBy 39 = .ok (.ifCond .ne 7, 3) := by decide +kernel
theorem dX4_bearsBy_42 : decode cX4_bearsBy 42 = .ok (.dconst 1, 1) := by decide +kernel
theorem dX4_bearsBy_43 : decode cX4_bearsBy 43 = .ok (.goto 22, 3) := by decide +kernel
theorem dX4_bearsBy_46 : decode cX4_bearsBy 46 = .ok (.aload_n 0, 1) := by decide +kernel
theorem dX4_bearsBy_47 : decode cX4_bearsBy 47 = .ok (.getfield 35, 3) := by decide +kernel
theorem dX4_bearsBy_50 : decode cX4_bearsBy 50 = .ok (.iload_n 1, 1) := by decide +kernel
theorem dX4_bearsBy_51 : decode cX4_bearsBy 51 = .ok (.iaload, 1) := by decide +kernel
theorem dX4_bearsBy_52 : decode cX4_bearsBy 52 = .ok (.iconst 1, 1) := by decide +kernel
theorem dX4_bearsBy_53 : decode cX4_bearsBy 53 = .ok (.if_icmp .ne 9, 3) := by decide +kernel
theorem dX4_bearsBy_56 : decode cX4_bearsBy 56 = .ok (.ldc2_w 154, 3) := by decide +kernel
theorem dX4_bearsBy_59 : decode cX4_bearsBy 59 = .ok (.goto 6, 3) := by decide +kernel
theorem dX4_bearsBy_62 : decode cX4_bearsBy 62 = .ok (.ldc2_w 115, 3) := by decide +kernel
theorem dX4_bearsBy_65 : decode cX4_bearsBy 65 = .ok (.dmul, 1) := by decide +kernel
theorem dX4_bearsBy_66 : decode cX4_bearsBy 66 = .ok (.d2i, 1) := by decide +kernel
theorem dX4_bearsBy_67 : decode cX4_bearsBy 67 = .ok (.ireturn, 1) := by decide +kernel
theorem dX4_speedOn_0 : decode cX4_speedOn 0 = .ok (.aload_n 0, 1) := by decide +kernel
theorem dX4_speedOn_1 : decode cX4_speedOn 1 = .ok (.getfield 57, 3) := by decide +kernel
theorem dX4_speedOn_4 : decode cX4_speedOn 4 = .ok (.iload_n 1, 1) := by decide +kernel
theorem dX4_speedOn_5 : decode cX4_speedOn 5 = .ok (.iaload, 1) := by decide +kernel
theorem dX4_speedOn_6 : decode cX4_speedOn 6 = .ok (.aload_n 0, 1) := by decide +kernel
theorem dX4_speedOn_7 : decode cX4_speedOn 7 = .ok (.getfield 41, 3) := by decide +kernel
theorem dX4_speedOn_10 : decode cX4_speedOn 10 = .ok (.iload_n 2, 1) := by decide +kernel
theorem dX4_speedOn_11 : decode cX4_speedOn 11 = .ok (.iaload, 1) := by decide +kernel
theorem dX4_speedOn_12 : decode cX4_speedOn 12 = .ok (.if_icmp .ge 12, 3) := by decide +kernel
theorem dX4_speedOn_15 : decode cX4_speedOn 15 = .ok (.aload_n 0, 1) := by decide +kernel
theorem dX4_speedOn_16 : decode cX4_speedOn 16 = .ok (.getfield 57, 3) := by decide +kernel
theorem dX4_speedOn_19 : decode cX4_speedOn 19 = .ok (.iload_n 1, 1) := by decide +kernel
theorem dX4_speedOn_20 : decode cX4_speedOn 20 = .ok (.iaload, 1) := by decide +kernel
theorem dX4_speedOn_21 : decode cX4_speedOn 21 = .ok (.goto 9, 3) := by decide +kernel
theorem dX4_speedOn_24 : decode cX4_speedOn 24 = .ok (.aload_n 0, 1) := by decide +kernel
theorem dX4_speedOn_25 : decode cX4_speedOn 25 = .ok (.getfield 41, 3) := by decide +kernel
theorem dX4_speedOn_28 : decode cX4_speedOn 28 = .ok (.iload_n 2, 1) := by decide +kernel
theorem dX4_speedOn_29 : decode cX4_speedOn 29 = .ok (.iaload, 1) := by decide +kernel
theorem dX4_speedOn_30 : decode cX4_speedOn 30 = .ok (.istore_n 3, 1) := by decide +kernel
theorem dX4_speedOn_31 : decode cX4_speedOn 31 = .ok (.ldc2_w 156, 3) := by decide +kernel
theorem dX4_speedOn_34 : decode cX4_speedOn 34 = .ok (.aload_n 0, 1) := by decide +kernel
theorem dX4_speedOn_35 : decode cX4_speedOn 35 = .ok (.getfield 20, 3) := by decide +kernel
theorem dX4_speedOn_38 : decode cX4_speedOn 38 = .ok (.iload_n 2, 1) := by decide +kernel
theorem dX4_speedOn_39 : decode cX4_speedOn 39 = .ok (.iaload, 1) := by decide +kernel
theorem dX4_speedOn_40 : decode cX4_speedOn 40 = .ok (.i2d, 1) := by decide +kernel
theorem dX4_speedOn_41 : decode cX4_speedOn 41 = .ok (.dmul, 1) := by decide +kernel
theorem dX4_speedOn_42 : decode cX4_speedOn 42 = .ok (.dstore 4, 2) := by decide +kernel
theorem dX4_speedOn_44 : decode cX4_speedOn 44 = .ok (.ldc2_w 158, 3) := by decide +kernel
theorem dX4_speedOn_47 : decode cX4_speedOn 47 = .ok (.aload_n 0, 1) := by decide +kernel
theorem dX4_speedOn_48 : decode cX4_speedOn 48 = .ok (.getfield 20, 3) := by decide +kernel
theorem dX4_speedOn_51 : decode cX4_speedOn 51 = .ok (.iload_n 2, 1) := by decide +kernel
theorem dX4_speedOn_52 : decode cX4_speedOn 52 = .ok (.iaload, 1) := by decide +kernel
theorem dX4_speedOn_53 : decode cX4_speedOn 53 = .ok (.i2d, 1) := by decide +kernel
theorem dX4_speedOn_54 : decode cX4_speedOn 54 = .ok (.dmul, 1) := by decide +kernel
theorem dX4_speedOn_55 : decode cX4_speedOn 55 = .ok (.dstore 6, 2) := by decide +kernel
theorem dX4_speedOn_57 : decode cX4_speedOn 57 = .ok (.iload_n 3, 1) := by decide +kernel
theorem dX4_speedOn_58 : decode cX4_speedOn 58 = .ok (.iload_n 3, 1) := by decide +kernel
theorem dX4_speedOn_59 : decode cX4_speedOn 59 = .ok (.imul, 1) := by decide +kernel
theorem dX4_speedOn_60 : decode cX4_speedOn 60 = .ok (.i2d, 1) := by decide +kernel
theorem dX4_speedOn_61 : decode cX4_speedOn 61 = .ok (.dstore 8, 2) := by decide +kernel
theorem dX4_speedOn_63 : decode cX4_speedOn 63 = .ok (.aload_n 0, 1) := by decide +kernel
theorem dX4_speedOn_64 : decode cX4_speedOn 64 = .ok (.iload_n 2, 1) := by decide +kernel
theorem dX4_speedOn_65 : decode cX4_speedOn 65 = .ok (.invokevirtual 112, 3) := by decide +kernel
theorem dX4_speedOn_68 : decode cX4_speedOn 68 = .ok (.ifCond .eq 35, 3) := by decide +kernel
theorem dX4_speedOn_71 : decode cX4_speedOn 71 = .ok (.dload 8, 2) := by decide +kernel
theorem dX4_speedOn_73 : decode cX4_speedOn 73 = .ok (.dload 4, 2) := by decide +kernel
theorem dX4_speedOn_75 : decode cX4_speedOn 75 = .ok (.dcmp .l, 1) := by decide +kernel
theorem dX4_speedOn_76 : decode cX4_speedOn 76 = .ok (.ifCond .le 27, 3) := by decide +kernel
theorem dX4_speedOn_79 : decode cX4_speedOn 79 = .ok (.dload 8, 2) := by decide +kernel
theorem dX4_speedOn_81 : decode cX4_speedOn 81 = .ok (.dload 6, 2) := by decide +kernel
theorem dX4_speedOn_83 : decode cX4_speedOn 83 = .ok (.dcmp .g, 1) := by decide +kernel
theorem dX4_speedOn_84 : decode cX4_speedOn 84 = .ok (.ifCond .ge 19, 3) := by decide +kernel
theorem dX4_speedOn_87 : decode cX4_speedOn 87 = .ok (.iload_n 3, 1) := by decide +kernel
theorem dX4_speedOn_88 : decode cX4_speedOn 88 = .ok (.iload_n 3, 1) := by decide +kernel
theorem dX4_speedOn_89 : decode cX4_speedOn 89 = .ok (.imul, 1) := by decide +kernel
theorem dX4_speedOn_90 : decode cX4_speedOn 90 = .ok (.i2d, 1) := by decide +kernel
theorem dX4_speedOn_91 : decode cX4_speedOn 91 = .ok (.dload 4, 2) := by decide +kernel
theorem dX4_speedOn_93 : decode cX4_speedOn 93 = .ok (.dcmp .l, 1) := by decide +kernel
theorem dX4_speedOn_94 : decode cX4_speedOn 94 = .ok (.ifCond .le 9, 3) := by decide +kernel
theorem dX4_speedOn_97 : decode cX4_speedOn 97 = .ok (.iinc 3 (-1), 3) := by decide +kernel
theorem dX4_speedOn_100 : decode cX4_speedOn 100 = .ok (.goto (-13), 3) := by decide +kernel
theorem dX4_speedOn_103 : decode cX4_speedOn 103 = .ok (.iload_n 3, 1) := by decide +kernel
theorem dX4_speedOn_104 : decode cX4_speedOn 104 = .ok (.ireturn, 1) := by decide +kernel
theorem dX4_minutesOn_0 : decode cX4_minutesOn 0 = .ok (.bipush 6, 2) := by decide +kernel
theorem dX4_minutesOn_2 : decode cX4_minutesOn 2 = .ok (.aload_n 0, 1) := by decide +kernel
theorem dX4_minutesOn_3 : decode cX4_minutesOn 3 = .ok (.iload_n 1, 1) := by decide +kernel
theorem dX4_minutesOn_4 : decode cX4_minutesOn 4 = .ok (.iload_n 2, 1) := by decide +kernel
theorem dX4_minutesOn_5 : decode cX4_minutesOn 5 = .ok (.invokevirtual 160, 3) := by decide +kernel
theorem dX4_minutesOn_8 : decode cX4_minutesOn 8 = .ok (.imul, 1) := by decide +kernel
theorem dX4_minutesOn_9 : decode cX4_minutesOn 9 = .ok (.istore_n 3, 1) := by decide +kernel
theorem dX4_minutesOn_10 : decode cX4_minutesOn 10 = .ok (.aload_n 0, 1) := by decide +kernel
theorem dX4_minutesOn_11 : decode cX4_minutesOn 11 = .ok (.getfield 17, 3) := by decide +kernel
theorem dX4_minutesOn_14 : decode cX4_minutesOn 14 = .ok (.iload_n 2, 1) := by decide +kernel
theorem dX4_minutesOn_15 : decode cX4_minutesOn 15 = .ok (.iaload, 1) := by decide +kernel
theorem dX4_minutesOn_16 : decode cX4_minutesOn 16 = .ok (.iload_n 3, 1) := by decide +kernel
theorem dX4_minutesOn_17 : decode cX4_minutesOn 17 = .ok (.iadd, 1) := by decide +kernel
theorem dX4_minutesOn_18 : decode cX4_minutesOn 18 = .ok (.iconst 1, 1) := by decide +kernel
theorem dX4_minutesOn_19 : decode cX4_minutesOn 19 = .ok (.isub, 1) := by decide +kernel
theorem dX4_minutesOn_20 : decode cX4_minutesOn 20 = .ok (.iload_n 3, 1) := by decide +kernel
theorem dX4_minutesOn_21 : decode cX4_minutesOn 21 = .ok (.idiv, 1) := by decide +kernel
theorem dX4_minutesOn_22 : decode cX4_minutesOn 22 = .ok (.ireturn, 1) := by decide +kernel
theorem dX4_weights_0 : decode cX4_weights 0 = .ok (.iconst 0, 1) := by decide +kernel
theorem dX4_weights_1 : decode cX4_weights 1 = .ok (.istore_n 2, 1) := by decide +kernel
theorem dX4_weights_2 : decode cX4_weights 2 = .ok (.iconst 0, 1) := by decide +kernel
theorem dX4_weights_3 : decode cX4_weights 3 = .ok (.istore_n 3, 1) := by decide +kernel
theorem dX4_weights_4 : decode cX4_weights 4 = .ok (.iload_n 3, 1) := by decide +kernel
theorem dX4_weights_5 : decode cX4_weights 5 = .ok (.aload_n 0, 1) := by decide +kernel
theorem dX4_weights_6 : decode cX4_weights 6 = .ok (.getfield 98, 3) := by decide +kernel
theorem dX4_weights_9 : decode cX4_weights 9 = .ok (.if_icmp .ge 41, 3) := by decide +kernel
theorem dX4_weights_12 : decode cX4_weights 12 = .ok (.iload_n 2, 1) := by decide +kernel
theorem dX4_weights_13 : decode cX4_weights 13 = .ok (.aload_n 0, 1) := by decide +kernel
theorem dX4_weights_14 : decode cX4_weights 14 = .ok (.getfield 60, 3) := by decide +kernel
theorem dX4_weights_17 : decode cX4_weights 17 = .ok (.iload_n 3, 1) := by decide +kernel
theorem dX4_weights_18 : decode cX4_weights 18 = .ok (.iaload, 1) := by decide +kernel
theorem dX4_weights_19 : decode cX4_weights 19 = .ok (.iconst 1, 1) := by decide +kernel
theorem dX4_weights_20 : decode cX4_weights 20 = .ok (.if_icmp .ne 21, 3) := by decide +kernel
theorem dX4_weights_23 : decode cX4_weights 23 = .ok (.aload_n 0, 1) := by decide +kernel
theorem dX4_weights_24 : decode cX4_weights 24 = .ok (.getfield 63, 3) := by decide +kernel
theorem dX4_weights_27 : decode cX4_weights 27 = .ok (.iload_n 3, 1) := by decide +kernel
theorem dX4_weights_28 : decode cX4_weights 28 = .ok (.iaload, 1) := by decide +kernel
theorem dX4_weights_29 : decode cX4_weights 29 = .ok (.iload_n 1, 1) := by decide +kernel
theorem dX4_weights_30 : decode cX4_weights 30 = .ok (.if_icmp .ne 11, 3) := by decide +kernel
theorem dX4_weights_33 : decode cX4_weights 33 = .ok (.aload_n 0, 1) := by decide +kernel
theorem dX4_weights_34 : decode cX4_weights 34 = .ok (.iload_n 3, 1) := by decide +kernel
theorem dX4_weights_35 : decode cX4_weights 35 = .ok (.invokevirtual 129, 3) := by decide +kernel
theorem dX4_weights_38 : decode cX4_weights 38 = .ok (.goto 4, 3) := by decide +kernel
theorem dX4_weights_41 : decode cX4_weights 41 = .ok (.iconst 0, 1) := by decide +kernel
theorem dX4_weights_42 : decode cX4_weights 42 = .ok (.iadd, 1) := by decide +kernel
theorem dX4_weights_43 : decode cX4_weights 43 = .ok (.istore_n 2, 1) := by decide +kernel
theorem dX4_weights_44 : decode cX4_weights 44 = .ok (.iinc 3 1, 3) := by decide +kernel
theorem dX4_weights_47 : decode cX4_weights 47 = .ok (.goto (-43), 3) := by decide +kernel
theorem dX4_weights_50 : decode cX4_weights 50 = .ok (.iload_n 2, 1) := by decide +kernel
theorem dX4_weights_51 : decode cX4_weights 51 = .ok (.ireturn, 1) := by decide +kernel
theorem dX4_isMet_0 : decode cX4_isMet 0 = .ok (.iconst 0, 1) := by decide +kernel
theorem dX4_isMet_1 : decode cX4_isMet 1 = .ok (.istore_n 3, 1) := by decide +kernel
theorem dX4_isMet_2 : decode cX4_isMet 2 = .ok (.iconst 0, 1) := by decide +kernel
theorem dX4_isMet_3 : decode cX4_isMet 3 = .ok (.istore 4, 2) := by decide +kernel
theorem dX4_isMet_5 : decode cX4_isMet 5 = .ok (.iload 4, 2) := by decide +kernel
theorem dX4_isMet_7 : decode cX4_isMet 7 = .ok (.aload_n 0, 1) := by decide +kernel
theorem dX4_isMet_8 : decode cX4_isMet 8 = .ok (.getfield 98, 3) := by decide +kernel
theorem dX4_isMet_11 : decode cX4_isMet 11 = .ok (.if_icmp .ge 57, 3) := by decide +kernel
theorem dX4_isMet_14 : decode cX4_isMet 14 = .ok (.iload_n 3, 1) := by decide +kernel
theorem dX4_isMet_15 : decode cX4_isMet 15 = .ok (.ifCond .ne 41, 3) := by decide +kernel
theorem dX4_isMet_18 : decode cX4_isMet 18 = .ok (.aload_n 0, 1) := by decide +kernel
theorem dX4_isMet_19 : decode cX4_isMet 19 = .ok (.getfield 60, 3) := by decide +kernel
theorem dX4_isMet_22 : decode cX4_isMet 22 = .ok (.iload 4, 2) := by decide +kernel
theorem dX4_isMet_24 : decode cX4_isMet 24 = .ok (.iaload, 1) := by decide +kernel
theorem dX4_isMet_25 : decode cX4_isMet 25 = .ok (.iconst 1, 1) := by decide +kernel
theorem dX4_isMet_26 : decode cX4_isMet 26 = .ok (.if_icmp .ne 34, 3) := by decide +kernel
theorem dX4_isMet_29 : decode cX4_isMet 29 = .ok (.aload_n 0, 1) := by decide +kernel
theorem dX4_isMet_30 : decode cX4_isMet 30 = .ok (.getfield 63, 3) := by decide +kernel
theorem dX4_isMet_33 : decode cX4_isMet 33 = .ok (.iload 4, 2) := by decide +kernel
theorem dX4_isMet_35 : decode cX4_isMet 35 = .ok (.iaload, 1) := by decide +kernel
theorem dX4_isMet_36 : decode cX4_isMet 36 = .ok (.iload_n 2, 1) := by decide +kernel
theorem dX4_isMet_37 : decode cX4_isMet 37 = .ok (.if_icmp .ne 23, 3) := by decide +kernel
theorem dX4_isMet_40 : decode cX4_isMet 40 = .ok (.aload_n 0, 1) := by decide +kernel
theorem dX4_isMet_41 : decode cX4_isMet 41 = .ok (.getfield 66, 3) := by decide +kernel
theorem dX4_isMet_44 : decode cX4_isMet 44 = .ok (.iload 4, 2) := by decide +kernel
theorem dX4_isMet_46 : decode cX4_isMet 46 = .ok (.baload, 1) := by decide +kernel
theorem dX4_isMet_47 : decode cX4_isMet 47 = .ok (.aload_n 0, 1) := by decide +kernel
theorem dX4_isMet_48 : decode cX4_isMet 48 = .ok (.getfield 66, 3) := by decide +kernel
theorem dX4_isMet_51 : decode cX4_isMet 51 = .ok (.iload_n 1, 1) := by decide +kernel
theorem dX4_isMet_52 : decode cX4_isMet 52 = .ok (.baload, 1) := by decide +kernel
theorem dX4_isMet_53 : decode cX4_isMet 53 = .ok (.if_icmp .eq 7, 3) := by decide +kernel
theorem dX4_isMet_56 : decode cX4_isMet 56 = .ok (.iconst 1, 1) := by decide +kernel
theorem dX4_isMet_57 : decode cX4_isMet 57 = .ok (.goto 4, 3) := by decide +kernel
theorem dX4_isMet_60 : decode cX4_isMet 60 = .ok (.iconst 0, 1) := by decide +kernel
theorem dX4_isMet_61 : decode cX4_isMet 61 = .ok (.istore_n 3, 1) := by decide +kernel
theorem dX4_isMet_62 : decode cX4_isMet 62 = .ok (.iinc 4 1, 3) := by decide +kernel
theorem dX4_isMet_65 : decode cX4_isMet 65 = .ok (.goto (-60), 3) := by decide +kernel
theorem dX4_isMet_68 : decode cX4_isMet 68 = .ok (.iload_n 3, 1) := by decide +kernel
theorem dX4_isMet_69 : decode cX4_isMet 69 = .ok (.ireturn, 1) := by decide +kernel
theorem dX4_nextPiece_0 : decode cX4_nextPiece 0 = .ok (.aload_n 0, 1) := by decide +kernel
theorem dX4_nextPiece_1 : decode cX4_nextPiece 1 = .ok (.getfield 66, 3) := by decide +kernel
theorem dX4_nextPiece_4 : decode cX4_nextPiece 4 = .ok (.iload_n 1, 1) := by decide +kernel
theorem dX4_nextPiece_5 : decode cX4_nextPiece 5 = .ok (.baload, 1) := by decide +kernel
theorem dX4_nextPiece_6 : decode cX4_nextPiece 6 = .ok (.ifCond .eq 12, 3) := by decide +kernel
theorem dX4_nextPiece_9 : decode cX4_nextPiece 9 = .ok (.aload_n 0, 1) := by decide +kernel
theorem dX4_nextPiece_10 : decode cX4_nextPiece 10 = .ok (.getfield 63, 3) := by decide +kernel
theorem dX4_nextPiece_13 : decode cX4_nextPiece 13 = .ok (.iload_n 1, 1) := by decide +kernel
theorem dX4_nextPiece_14 : decode cX4_nextPiece 14 = .ok (.iaload, 1) := by decide +kernel
theorem dX4_nextPiece_15 : decode cX4_nextPiece 15 = .ok (.goto 11, 3) := by decide +kernel
theorem dX4_nextPiece_18 : decode cX4_nextPiece 18 = .ok (.aload_n 0, 1) := by decide +kernel
theorem dX4_nextPiece_19 : decode cX4_nextPiece 19 = .ok (.getfield 63, 3) := by decide +kernel
theorem dX4_nextPiece_22 : decode cX4_nextPiece 22 = .ok (.iload_n 1, 1) := by decide +kernel
theorem dX4_nextPiece_23 : decode cX4_nextPiece 23 = .ok (.iaload, 1) := by decide +kernel
theorem dX4_nextPiece_24 : decode cX4_nextPiece 24 = .ok (.iconst 1, 1) := by decide +kernel
theorem dX4_nextPiece_25 : decode cX4_nextPiece 25 = .ok (.isub, 1) := by decide +kernel
theorem dX4_nextPiece_26 : decode cX4_nextPiece 26 = .ok (.ireturn, 1) := by decide +kernel
theorem dX4_against_0 : decode cX4_against 0 = .ok (.aload_n 0, 1) := by decide +kernel
theorem dX4_against_1 : decode cX4_against 1 = .ok (.iload_n 1, 1) := by decide +kernel
theorem dX4_against_2 : decode cX4_against 2 = .ok (.invokevirtual 164, 3) := by decide +kernel
theorem dX4_against_5 : decode cX4_against 5 = .ok (.istore_n 2, 1) := by decide +kernel
theorem dX4_against_6 : decode cX4_against 6 = .ok (.aload_n 0, 1) := by decide +kernel
theorem dX4_against_7 : decode cX4_against 7 = .ok (.getfield 38, 3) := by decide +kernel
theorem dX4_against_10 : decode cX4_against 10 = .ok (.iload_n 2, 1) := by decide +kernel
theorem dX4_against_11 : decode cX4_against 11 = .ok (.iaload, 1) := by decide +kernel
theorem dX4_against_12 : decode cX4_against 12 = .ok (.ifCond .ne 5, 3) := by decide +kernel
theorem dX4_against_15 : decode cX4_against 15 = .ok (.iconst 1, 1) := by decide +kernel
theorem dX4_against_16 : decode cX4_against 16 = .ok (.ireturn, 1) := by decide +kernel
theorem dX4_against_17 : decode cX4_against 17 = .ok (.aload_n 0, 1) := by decide +kernel
theorem dX4_against_18 : decode cX4_against 18 = .ok (.iload_n 2, 1) := by decide +kernel
theorem dX4_against_19 : decode cX4_against 19 = .ok (.invokevirtual 112, 3) := by decide +kernel
theorem dX4_against_22 : decode cX4_against 22 = .ok (.ifCond .eq 32, 3) := by decide +kernel
theorem dX4_against_25 : decode cX4_against 25 = .ok (.aload_n 0, 1) := by decide +kernel
theorem dX4_against_26 : decode cX4_against 26 = .ok (.getfield 106, 3) := by decide +kernel
theorem dX4_against_29 : decode cX4_against 29 = .ok (.ifCond .ge 25, 3) := by decide +kernel
theorem dX4_against_32 : decode cX4_against 32 = .ok (.aload_n 0, 1) := by decide +kernel
theorem dX4_against_33 : decode cX4_against 33 = .ok (.getfield 167, 3) := by decide +kernel
theorem dX4_against_36 : decode cX4_against 36 = .ok (.sipush 1440, 3) := by decide +kernel
theorem dX4_against_39 : decode cX4_against 39 = .ok (.irem, 1) := by decide +kernel
theorem dX4_against_40 : decode cX4_against 40 = .ok (.sipush 480, 3) := by decide +kernel
theorem dX4_against_43 : decode cX4_against 43 = .ok (.sipush 1199, 3) := by decide +kernel
theorem dX4_against_46 : decode cX4_against 46 = .ok (.invokestatic 94, 3) := by decide +kernel
theorem dX4_against_49 : decode cX4_against 49 = .ok (.ifCond .eq 5, 3) := by decide +kernel
theorem dX4_against_52 : decode cX4_against 52 = .ok (.iconst 2, 1) := by decide +kernel
theorem dX4_against_53 : decode cX4_against 53 = .ok (.ireturn, 1) := by decide +kernel
theorem dX4_against_54 : decode cX4_against 54 = .ok (.aload_n 0, 1) := by decide +kernel
theorem dX4_against_55 : decode cX4_against 55 = .ok (.getfield 38, 3) := by decide +kernel
theorem dX4_against_58 : decode cX4_against 58 = .ok (.iload_n 2, 1) := by decide +kernel
theorem dX4_against_59 : decode cX4_against 59 = .ok (.iaload, 1) := by decide +kernel
theorem dX4_against_60 : decode cX4_against 60 = .ok (.iconst 1, 1) := by decide +kernel
theorem dX4_against_61 : decode cX4_against 61 = .ok (.if_icmp .ne 16, 3) := by decide +kernel
theorem dX4_against_64 : decode cX4_against 64 = .ok (.aload_n 0, 1) := by decide +kernel
theorem dX4_against_65 : decode cX4_against 65 = .ok (.iload_n 1, 1) := by decide +kernel
theorem dX4_against_66 : decode cX4_against 66 = .ok (.invokevirtual 129, 3) := by decide +kernel
theorem dX4_against_69 : decode cX4_against 69 = .ok (.sipush 5000, 3) := by decide +kernel
theorem dX4_against_72 : decode cX4_against 72 = .ok (.if_icmp .le 5, 3) := by decide +kernel
theorem dX4_against_75 : decode cX4_against 75 = .ok (.iconst 3, 1) := by decide +kernel
theorem dX4_against_76 : decode cX4_against 76 = .ok (.ireturn, 1) := by decide +kernel
theorem dX4_against_77 : decode cX4_against 77 = .ok (.aload_n 0, 1) := by decide +kernel
theorem dX4_against_78 : decode cX4_against 78 = .ok (.getfield 167, 3) := by decide +kernel
theorem dX4_against_81 : decode cX4_against 81 = .ok (.aload_n 0, 1) := by decide +kernel
theorem dX4_against_82 : decode cX4_against 82 = .ok (.getfield 48, 3) := by decide +kernel
theorem dX4_against_85 : decode cX4_against 85 = .ok (.iconst 2, 1) := by decide +kernel
theorem dX4_against_86 : decode cX4_against 86 = .ok (.iload_n 2, 1) := by decide +kernel
theorem dX4_against_87 : decode cX4_against 87 = .ok (.imul, 1) := by decide +kernel
theorem dX4_against_88 : decode cX4_against 88 = .ok (.aload_n 0, 1) := by decide +kernel
theorem dX4_against_89 : decode cX4_against 89 = .ok (.getfield 66, 3) := by decide +kernel
theorem dX4_against_92 : decode cX4_against 92 = .ok (.iload_n 1, 1) := by decide +kernel
theorem dX4_against_93 : decode cX4_against 93 = .ok (.baload, 1) := by decide +kernel
theorem dX4_against_94 : decode cX4_against 94 = .ok (.ifCond .eq 7, 3) := by decide +kernel
theorem dX4_against_97 : decode cX4_against 97 = .ok (.iconst 1, 1) := by decide +kernel
theorem dX4_against_98 : decode cX4_against 98 = .ok (.goto 4, 3) := by decide +kernel
theorem dX4_against_101 : decode cX4_against 101 = .ok (.iconst 0, 1) := by decide +kernel
theorem dX4_against_102 : decode cX4_against 102 = .ok (.iadd, 1) := by decide +kernel
theorem dX4_against_103 : decode cX4_against 103 = .ok (.iaload, 1) := by decide +kernel
theorem dX4_against_104 : decode cX4_against 104 = .ok (.isub, 1) := by decide +kernel
theorem dX4_against_105 : decode cX4_against 105 = .ok (.aload_n 0, 1) := by decide +kernel
theorem dX4_against_106 : decode cX4_against 106 = .ok (.getfield 7, 3) := by decide +kernel
theorem dX4_against_109 : decode cX4_against 109 = .ok (.if_icmp .ge 5, 3) := by decide +kernel
theorem dX4_against_112 : decode cX4_against 112 = .ok (.iconst 4, 1) := by decide +kernel
theorem dX4_against_113 : decode cX4_against 113 = .ok (.ireturn, 1) := by decide +kernel
theorem dX4_against_114 : decode cX4_against 114 = .ok (.aload_n 0, 1) := by decide +kernel
theorem dX4_against_115 : decode cX4_against 115 = .ok (.getfield 13, 3) := by decide +kernel
theorem dX4_against_118 : decode cX4_against 118 = .ok (.iload_n 2, 1) := by decide +kernel
theorem dX4_against_119 : decode cX4_against 119 = .ok (.iaload, 1) := by decide +kernel
theorem dX4_against_120 : decode cX4_against 120 = .ok (.ifCond .eq 14, 3) := by decide +kernel
theorem dX4_against_123 : decode cX4_against 123 = .ok (.aload_n 0, 1) := by decide +kernel
theorem dX4_against_124 : decode cX4_against 124 = .ok (.iload_n 1, 1) := by decide +kernel
theorem dX4_against_125 : decode cX4_against 125 = .ok (.iload_n 2, 1) := by decide +kernel
theorem dX4_against_126 : decode cX4_against 126 = .ok (.invokevirtual 170, 3) := by decide +kernel
theorem dX4_against_129 : decode cX4_against 129 = .ok (.ifCond .eq 5, 3) := by decide +kernel
theorem dX4_against_132 : decode cX4_against 132 = .ok (.iconst 5, 1) := by decide +kernel
theorem dX4_against_133 : decode cX4_against 133 = .ok (.ireturn, 1) := by decide +kernel
theorem dX4_against_134 : decode cX4_against 134 = .ok (.aload_n 0, 1) := by decide +kernel
theorem dX4_against_135 : decode cX4_against 135 = .ok (.iload_n 1, 1) := by decide +kernel
theorem dX4_against_136 : decode cX4_against 136 = .ok (.invokevirtual 129, 3) := by decide +kernel
theorem dX4_against_139 : decode cX4_against 139 = .ok (.aload_n 0, 1) := by decide +kernel
theorem dX4_against_140 : decode cX4_against 140 = .ok (.iload_n 2, 1) := by decide +kernel
theorem dX4_against_141 : decode cX4_against 141 = .ok (.invokevirtual 174, 3) := by decide +kernel
theorem dX4_against_144 : decode cX4_against 144 = .ok (.iadd, 1) := by decide +kernel
theorem dX4_against_145 : decode cX4_against 145 = .ok (.aload_n 0, 1) := by decide +kernel
theorem dX4_against_146 : decode cX4_against 146 = .ok (.iload_n 2, 1) := by decide +kernel
theorem dX4_against_147 : decode cX4_against 147 = .ok (.aload_n 0, 1) := by decide +kernel
theorem dX4_against_148 : decode cX4_against 148 = .ok (.getfield 44, 3) := by decide +kernel
theorem dX4_against_151 : decode cX4_against 151 = .ok (.iload_n 2, 1) := by decide +kernel
theorem dX4_against_152 : decode cX4_against 152 = .ok (.daload, 1) := by decide +kernel
theorem dX4_against_153 : decode cX4_against 153 = .ok (.invokevirtual 177, 3) := by decide +kernel
theorem dX4_against_156 : decode cX4_against 156 = .ok (.if_icmp .le 8, 3) := by decide +kernel
theorem dX4_against_159 : decode cX4_against 159 = .ok (.bipush 6, 2) := by decide +kernel
theorem dX4_against_161 : decode cX4_against 161 = .ok (.goto 4, 3) := by decide +kernel
theorem dX4_against_164 : decode cX4_against 164 = .ok (.iconst 0, 1) := by decide +kernel
theorem dX4_against_165 : decode cX4_against 165 = .ok (.ireturn, 1) := by decide +kernel
theorem dX4_leaves_0 : decode cX4_leaves 0 = .ok (.aload_n 0, 1) := by decide +kernel
theorem dX4_leaves_1 : decode cX4_leaves 1 = .ok (.getfield 63, 3) := by decide +kernel
theorem dX4_leaves_4 : decode cX4_leaves 4 = .ok (.iload_n 1, 1) := by decide +kernel
theorem dX4_leaves_5 : decode cX4_leaves 5 = .ok (.iaload, 1) := by decide +kernel
theorem dX4_leaves_6 : decode cX4_leaves 6 = .ok (.istore_n 2, 1) := by decide +kernel
theorem dX4_leaves_7 : decode cX4_leaves 7 = .ok (.aload_n 0, 1) := by decide +kernel
theorem dX4_leaves_8 : decode cX4_leaves 8 = .ok (.iload_n 2, 1) := by decide +kernel
theorem dX4_leaves_9 : decode cX4_leaves 9 = .ok (.invokevirtual 112, 3) := by decide +kernel
theorem dX4_leaves_12 : decode cX4_leaves 12 = .ok (.ifCond .eq 35, 3) := by decide +kernel
theorem dX4_leaves_15 : decode cX4_leaves 15 = .ok (.aload_n 0, 1) := by decide +kernel
theorem dX4_leaves_16 : decode cX4_leaves 16 = .ok (.getfield 23, 3) := by decide +kernel
theorem dX4_leaves_19 : decode cX4_leaves 19 = .ok (.iload_n 2, 1) := by decide +kernel
theorem dX4_leaves_20 : decode cX4_leaves 20 = .ok (.iaload, 1) := by decide +kernel
theorem dX4_leaves_21 : decode cX4_leaves 21 = .ok (.aload_n 0, 1) := by decide +kernel
theorem dX4_leaves_22 : decode cX4_leaves 22 = .ok (.iload_n 1, 1) := by decide +kernel
theorem dX4_leaves_23 : decode cX4_leaves 23 = .ok (.invokevirtual 129, 3) := by decide +kernel
theorem dX4_leaves_26 : decode cX4_leaves 26 = .ok (.sipush 20000, 3) := by decide +kernel
theorem dX4_leaves_29 : decode cX4_leaves 29 = .ok (.idiv, 1) := by decide +kernel
theorem dX4_leaves_30 : decode cX4_leaves 30 = .ok (.isub, 1) := by decide +kernel
theorem dX4_leaves_31 : decode cX4_leaves 31 = .ok (.istore_n 3, 1) := by decide +kernel
theorem dX4_leaves_32 : decode cX4_leaves 32 = .ok (.aload_n 0, 1) := by decide +kernel
theorem dX4_leaves_33 : decode cX4_leaves 33 = .ok (.getfield 23, 3) := by decide +kernel
theorem dX4_leaves_36 : decode cX4_leaves 36 = .ok (.iload_n 2, 1) := by decide +kernel
theorem dX4_leaves_37 : decode cX4_leaves 37 = .ok (.iload_n 3, 1) := by decide +kernel
theorem dX4_leaves_38 : decode cX4_leaves 38 = .ok (.ifCond .ge 7, 3) := by decide +kernel
theorem dX4_leaves_41 : decode cX4_leaves 41 = .ok (.iconst 0, 1) := by decide +kernel
theorem dX4_leaves_42 : decode cX4_leaves 42 = .ok (.goto 4, 3) := by decide +kernel
theorem dX4_leaves_45 : decode cX4_leaves 45 = .ok (.iload_n 3, 1) := by decide +kernel
theorem dX4_leaves_46 : decode cX4_leaves 46 = .ok (.iastore, 1) := by decide +kernel
theorem dX4_leaves_47 : decode cX4_leaves 47 = .ok (.aload_n 0, 1) := by decide +kernel
theorem dX4_leaves_48 : decode cX4_leaves 48 = .ok (.getfield 63, 3) := by decide +kernel
theorem dX4_leaves_51 : decode cX4_leaves 51 = .ok (.iload_n 1, 1) := by decide +kernel
theorem dX4_leaves_52 : decode cX4_leaves 52 = .ok (.aload_n 0, 1) := by decide +kernel
theorem dX4_leaves_53 : decode cX4_leaves 53 = .ok (.getfield 66, 3) := by decide +kernel
theorem dX4_leaves_56 : decode cX4_leaves 56 = .ok (.iload_n 1, 1) := by decide +kernel
theorem dX4_leaves_57 : decode cX4_leaves 57 = .ok (.baload, 1) := by decide +kernel
theorem dX4_leaves_58 : decode cX4_leaves 58 = .ok (.ifCond .eq 9, 3) := by decide +kernel
theorem dX4_leaves_61 : decode cX4_leaves 61 = .ok (.iload_n 2, 1) := by decide +kernel
theorem dX4_leaves_62 : decode cX4_leaves 62 = .ok (.iconst 1, 1) := by decide +kernel
theorem dX4_leaves_63 : decode cX4_leaves 63 = .ok (.iadd, 1) := by decide +kernel
theorem dX4_leaves_64 : decode cX4_leaves 64 = .ok (.goto 4, 3) := by decide +kernel
theorem dX4_leaves_67 : decode cX4_leaves 67 = .ok (.iload_n 2, 1) := by decide +kernel
theorem dX4_leaves_68 : decode cX4_leaves 68 = .ok (.iastore, 1) := by decide +kernel
theorem dX4_leaves_69 : decode cX4_leaves 69 = .ok (.aload_n 0, 1) := by decide +kernel
theorem dX4_leaves_70 : decode cX4_leaves 70 = .ok (.getfield 60, 3) := by decide +kernel
theorem dX4_leaves_73 : decode cX4_leaves 73 = .ok (.iload_n 1, 1) := by decide +kernel
theorem dX4_leaves_74 : decode cX4_leaves 74 = .ok (.iconst 2, 1) := by decide +kernel
theorem dX4_leaves_75 : decode cX4_leaves 75 = .ok (.iastore, 1) := by decide +kernel
theorem dX4_leaves_76 : decode cX4_leaves 76 = .ok (.aload_n 0, 1) := by decide +kernel
theorem dX4_leaves_77 : decode cX4_leaves 77 = .ok (.iload_n 1, 1) := by decide +kernel
theorem dX4_leaves_78 : decode cX4_leaves 78 = .ok (.invokevirtual 137, 3) := by decide +kernel
theorem dX4_leaves_81 : decode cX4_leaves 81 = .ok (.ifCond .eq 8, 3) := by decide +kernel
theorem dX4_leaves_84 : decode cX4_leaves 84 = .ok (.aload_n 0, 1) := by decide +kernel
theorem dX4_leaves_85 : decode cX4_leaves 85 = .ok (.iload_n 1, 1) := by decide +kernel
theorem dX4_leaves_86 : decode cX4_leaves 86 = .ok (.invokevirtual 140, 3) := by decide +kernel
theorem dX4_leaves_89 : decode cX4_leaves 89 = .ok (.return_, 1) := by decide +kernel
theorem dX4_comes_0 : decode cX4_comes 0 = .ok (.aload_n 0, 1) := by decide +kernel
theorem dX4_comes_1 : decode cX4_comes 1 = .ok (.iload_n 1, 1) := by decide +kernel
theorem dX4_comes_2 : decode cX4_comes 2 = .ok (.invokevirtual 164, 3) := by decide +kernel
theorem dX4_comes_5 : decode cX4_comes 5 = .ok (.istore_n 2, 1) := by decide +kernel
theorem dX4_comes_6 : decode cX4_comes 6 = .ok (.aload_n 0, 1) := by decide +kernel
theorem dX4_comes_7 : decode cX4_comes 7 = .ok (.iload_n 1, 1) := by decide +kernel
theorem dX4_comes_8 : decode cX4_comes 8 = .ok (.invokevirtual 129, 3) := by decide +kernel
theorem dX4_comes_11 : decode cX4_comes 11 = .ok (.aload_n 0, 1) := by decide +kernel
theorem dX4_comes_12 : decode cX4_comes 12 = .ok (.iload_n 2, 1) := by decide +kernel
theorem dX4_comes_13 : decode cX4_comes 13 = .ok (.invokevirtual 174, 3) := by decide +kernel
theorem dX4_comes_16 : decode cX4_comes 16 = .ok (.iadd, 1) := by decide +kernel
theorem dX4_comes_17 : decode cX4_comes 17 = .ok (.aload_n 0, 1) := by decide +kernel
theorem dX4_comes_18 : decode cX4_comes 18 = .ok (.iload_n 2, 1) := by decide +kernel
theorem dX4_comes_19 : decode cX4_comes 19 = .ok (.aload_n 0, 1) := by decide +kernel
theorem dX4_comes_20 : decode cX4_comes 20 = .ok (.iload_n 2, 1) := by decide +kernel
theorem dX4_comes_21 : decode cX4_comes 21 = .ok (.invokevirtual 117, 3) := by decide +kernel
theorem dX4_comes_24 : decode cX4_comes 24 = .ok (.invokevirtual 177, 3) := by decide +kernel
theorem dX4_comes_27 : decode cX4_comes 27 = .ok (.if_icmp .le 7, 3) := by decide +kernel
theorem dX4_comes_30 : decode cX4_comes 30 = .ok (.iconst 1, 1) := by decide +kernel
theorem dX4_comes_31 : decode cX4_comes 31 = .ok (.goto 4, 3) := by decide +kernel
theorem dX4_comes_34 : decode cX4_comes 34 = .ok (.iconst 0, 1) := by decide +kernel
theorem dX4_comes_35 : decode cX4_comes 35 = .ok (.istore_n 3, 1) := by decide +kernel
theorem dX4_comes_36 : decode cX4_comes 36 = .ok (.aload_n 0, 1) := by decide +kernel
theorem dX4_comes_37 : decode cX4_comes 37 = .ok (.getfield 48, 3) := by decide +kernel
theorem dX4_comes_40 : decode cX4_comes 40 = .ok (.iconst 2, 1) := by decide +kernel
theorem dX4_comes_41 : decode cX4_comes 41 = .ok (.iload_n 2, 1) := by decide +kernel
theorem dX4_comes_42 : decode cX4_comes 42 = .ok (.imul, 1) := by decide +kernel
theorem dX4_comes_43 : decode cX4_comes 43 = .ok (.aload_n 0, 1) := by decide +kernel
theorem dX4_comes_44 : decode cX4_comes 44 = .ok (.getfield 66, 3) := by decide +kernel
theorem dX4_comes_47 : decode cX4_comes 47 = .ok (.iload_n 1, 1) := by decide +kernel
theorem dX4_comes_48 : decode cX4_comes 48 = .ok (.baload, 1) := by decide +kernel
theorem dX4_comes_49 : decode cX4_comes 49 = .ok (.ifCond .eq 7, 3) := by decide +kernel
theorem dX4_comes_52 : decode cX4_comes 52 = .ok (.iconst 1, 1) := by decide +kernel
theorem dX4_comes_53 : decode cX4_comes 53 = .ok (.goto 4, 3) := by decide +kernel
theorem dX4_comes_56 : decode cX4_comes 56 = .ok (.iconst 0, 1) := by decide +kernel
theorem dX4_comes_57 : decode cX4_comes 57 = .ok (.iadd, 1) := by decide +kernel
theorem dX4_comes_58 : decode cX4_comes 58 = .ok (.aload_n 0, 1) := by decide +kernel
theorem dX4_comes_59 : decode cX4_comes 59 = .ok (.getfield 167, 3) := by decide +kernel
theorem dX4_comes_62 : decode cX4_comes 62 = .ok (.iastore, 1) := by decide +kernel
theorem dX4_comes_63 : decode cX4_comes 63 = .ok (.aload_n 0, 1) := by decide +kernel
theorem dX4_comes_64 : decode cX4_comes 64 = .ok (.getfield 63, 3) := by decide +kernel
theorem dX4_comes_67 : decode cX4_comes 67 = .ok (.iload_n 1, 1) := by decide +kernel
theorem dX4_comes_68 : decode cX4_comes 68 = .ok (.iload_n 2, 1) := by decide +kernel
theorem dX4_comes_69 : decode cX4_comes 69 = .ok (.iastore, 1) := by decide +kernel
theorem dX4_comes_70 : decode cX4_comes 70 = .ok (.aload_n 0, 1) := by decide +kernel
theorem dX4_comes_71 : decode cX4_comes 71 = .ok (.getfield 60, 3) := by decide +kernel
theorem dX4_comes_74 : decode cX4_comes 74 = .ok (.iload_n 1, 1) := by decide +kernel
theorem dX4_comes_75 : decode cX4_comes 75 = .ok (.iload_n 3, 1) := by decide +kernel
theorem dX4_comes_76 : decode cX4_comes 76 = .ok (.ifCond .eq 7, 3) := by decide +kernel
theorem dX4_comes_79 : decode cX4_comes 79 = .ok (.iconst 4, 1) := by decide +kernel
theorem dX4_comes_80 : decode cX4_comes 80 = .ok (.goto 4, 3) := by decide +kernel
theorem dX4_comes_83 : decode cX4_comes 83 = .ok (.iconst 1, 1) := by decide +kernel
theorem dX4_comes_84 : decode cX4_comes 84 = .ok (.iastore, 1) := by decide +kernel
theorem dX4_comes_85 : decode cX4_comes 85 = .ok (.aload_n 0, 1) := by decide +kernel
theorem dX4_comes_86 : decode cX4_comes 86 = .ok (.getfield 70, 3) := by decide +kernel
theorem dX4_comes_89 : decode cX4_comes 89 = .ok (.iload_n 1, 1) := by decide +kernel
theorem dX4_comes_90 : decode cX4_comes 90 = .ok (.aload_n 0, 1) := by decide +kernel
theorem dX4_comes_91 : decode cX4_comes 91 = .ok (.getfield 167, 3) := by decide +kernel
theorem dX4_comes_94 : decode cX4_comes 94 = .ok (.aload_n 0, 1) := by decide +kernel
theorem dX4_comes_95 : decode cX4_comes 95 = .ok (.iload_n 1, 1) := by decide +kernel
theorem dX4_comes_96 : decode cX4_comes 96 = .ok (.iload_n 2, 1) := by decide +kernel
theorem dX4_comes_97 : decode cX4_comes 97 = .ok (.invokevirtual 181, 3) := by decide +kernel
theorem dX4_comes_100 : decode cX4_comes 100 = .ok (.iadd, 1) := by decide +kernel
theorem dX4_comes_101 : decode cX4_comes 101 = .ok (.iastore, 1) := by decide +kernel
theorem dX4_comes_102 : decode cX4_comes 102 = .ok (.iload_n 3, 1) := by decide +kernel
theorem dX4_comes_103 : decode cX4_comes 103 = .ok (.ifCond .eq 34, 3) := by decide +kernel
theorem dX4_comes_106 : decode cX4_comes 106 = .ok (.aload_n 0, 1) := by decide +kernel
theorem dX4_comes_107 : decode cX4_comes 107 = .ok (.getfield 38, 3) := by decide +kernel
theorem dX4_comes_110 : decode cX4_comes 110 = .ok (.iload_n 2, 1) := by decide +kernel
theorem dX4_comes_111 : decode cX4_comes 111 = .ok (.iconst 0, 1) := by decide +kernel
theorem dX4_comes_112 : decode cX4_comes 112 = .ok (.iastore, 1) := by decide +kernel
theorem dX4_comes_113 : decode cX4_comes 113 = .ok (.aload_n 0, 1) := by decide +kernel
theorem dX4_comes_114 : decode cX4_comes 114 = .ok (.getfield 35, 3) := by decide +kernel
theorem dX4_comes_117 : decode cX4_comes 117 = .ok (.iload_n 2, 1) := by decide +kernel
theorem dX4_comes_118 : decode cX4_comes 118 = .ok (.aload_n 0, 1) := by decide +kernel
theorem dX4_comes_119 : decode cX4_comes 119 = .ok (.iload_n 2, 1) := by decide +kernel
theorem dX4_comes_120 : decode cX4_comes 120 = .ok (.invokevirtual 112, 3) := by decide +kernel
theorem dX4_comes_123 : decode cX4_comes 123 = .ok (.ifCond .eq 7, 3) := by decide +kernel
theorem dX4_comes_126 : decode cX4_comes 126 = .ok (.iconst 2, 1) := by decide +kernel
theorem dX4_comes_127 : decode cX4_comes 127 = .ok (.goto 9, 3) := by decide +kernel
theorem dX4_comes_130 : decode cX4_comes 130 = .ok (.aload_n 0, 1) := by decide +kernel
theorem dX4_comes_131 : decode cX4_comes 131 = .ok (.getfield 35, 3) := by decide +kernel
theorem dX4_comes_134 : decode cX4_comes 134 = .ok (.iload_n 2, 1) := by decide +kernel
theorem dX4_comes_135 : decode cX4_comes 135 = .ok (.iaload, 1) := by decide +kernel
theorem dX4_comes_136 : decode cX4_comes 136 = .ok (.iastore, 1) := by decide +kernel
theorem dX4_comes_137 : decode cX4_comes 137 = .ok (.return_, 1) := by decide +kernel
theorem dX4_passes_0 : decode cX4_passes 0 = .ok (.aload_n 0, 1) := by decide +kernel
theorem dX4_passes_1 : decode cX4_passes 1 = .ok (.dup, 1) := by decide +kernel
theorem dX4_passes_2 : decode cX4_passes 2 = .ok (.getfield 167, 3) := by decide +kernel
theorem dX4_passes_5 : decode cX4_passes 5 = .ok (.iconst 1, 1) := by decide +kernel
theorem dX4_passes_6 : decode cX4_passes 6 = .ok (.iadd, 1) := by decide +kernel
theorem dX4_passes_7 : decode cX4_passes 7 = .ok (.putfield 167, 3) := by decide +kernel
theorem dX4_passes_10 : decode cX4_passes 10 = .ok (.aload_n 0, 1) := by decide +kernel
theorem dX4_passes_11 : decode cX4_passes 11 = .ok (.getfield 167, 3) := by decide +kernel
theorem dX4_passes_14 : decode cX4_passes 14 = .ok (.sipush 1440, 3) := by decide +kernel
theorem dX4_passes_17 : decode cX4_passes 17 = .ok (.irem, 1) := by decide +kernel
theorem dX4_passes_18 : decode cX4_passes 18 = .ok (.ifCond .ne 7, 3) := by decide +kernel
theorem dX4_passes_21 : decode cX4_passes 21 = .ok (.aload_n 0, 1) := by decide +kernel
theorem dX4_passes_22 : decode cX4_passes 22 = .ok (.invokevirtual 184, 3) := by decide +kernel
theorem dX4_passes_25 : decode cX4_passes 25 = .ok (.iconst 0, 1) := by decide +kernel
theorem dX4_passes_26 : decode cX4_passes 26 = .ok (.istore_n 1, 1) := by decide +kernel
theorem dX4_passes_27 : decode cX4_passes 27 = .ok (.iload_n 1, 1) := by decide +kernel
theorem dX4_passes_28 : decode cX4_passes 28 = .ok (.aload_n 0, 1) := by decide +kernel
theorem dX4_passes_29 : decode cX4_passes 29 = .ok (.getfield 98, 3) := by decide +kernel
theorem dX4_passes_32 : decode cX4_passes 32 = .ok (.if_icmp .ge 60, 3) := by decide +kernel
theorem dX4_passes_35 : decode cX4_passes 35 = .ok (.aload_n 0, 1) := by decide +kernel
theorem dX4_passes_36 : decode cX4_passes 36 = .ok (.getfield 60, 3) := by decide +kernel
theorem dX4_passes_39 : decode cX4_passes 39 = .ok (.iload_n 1, 1) := by decide +kernel
theorem dX4_passes_40 : decode cX4_passes 40 = .ok (.iaload, 1) := by decide +kernel
theorem dX4_passes_41 : decode cX4_passes 41 = .ok (.iconst 1, 1) := by decide +kernel
theorem dX4_passes_42 : decode cX4_passes 42 = .ok (.if_icmp .ne 21, 3) := by decide +kernel
theorem dX4_passes_45 : decode cX4_passes 45 = .ok (.aload_n 0, 1) := by decide +kernel
theorem dX4_passes_46 : decode cX4_passes 46 = .ok (.getfield 70, 3) := by decide +kernel
theorem dX4_passes_49 : decode cX4_passes 49 = .ok (.iload_n 1, 1) := by decide +kernel
theorem dX4_passes_50 : decode cX4_passes 50 = .ok (.iaload, 1) := by decide +kernel
theorem dX4_passes_51 : decode cX4_passes 51 = .ok (.aload_n 0, 1) := by decide +kernel
theorem dX4_passes_52 : decode cX4_passes 52 = .ok (.getfield 167, 3) := by decide +kernel
theorem dX4_passes_55 : decode cX4_passes 55 = .ok (.if_icmp .gt 8, 3) := by decide +kernel
theorem dX4_passes_58 : decode cX4_passes 58 = .ok (.aload_n 0, 1) := by decide +kernel
theorem dX4_passes_59 : decode cX4_passes 59 = .ok (.iload_n 1, 1) := by decide +kernel
theorem dX4_passes_60 : decode cX4_passes 60 = .ok (.invokevirtual 187, 3) := by decide +kernel
theorem dX4_passes_63 : decode cX4_passes 63 = .ok (.aload_n 0, 1) := by decide +kernel
theorem dX4_passes_64 : decode cX4_passes 64 = .ok (.getfield 60, 3) := by decide +kernel
theorem dX4_passes_67 : decode cX4_passes 67 = .ok (.iload_n 1, 1) := by decide +kernel
theorem dX4_passes_68 : decode cX4_passes 68 = .ok (.iaload, 1) := by decide +kernel
theorem dX4_passes_69 : decode cX4_passes 69 = .ok (.iconst 2, 1) := by decide +kernel
theorem dX4_passes_70 : decode cX4_passes 70 = .ok (.if_icmp .ne 16, 3) := by decide +kernel
theorem dX4_passes_73 : decode cX4_passes 73 = .ok (.aload_n 0, 1) := by decide +kernel
theorem dX4_passes_74 : decode cX4_passes 74 = .ok (.iload_n 1, 1) := by decide +kernel
theorem dX4_passes_75 : decode cX4_passes 75 = .ok (.invokevirtual 190, 3) := by decide +kernel
theorem dX4_passes_78 : decode cX4_passes 78 = .ok (.ifCond .ne 8, 3) := by decide +kernel
theorem dX4_passes_81 : decode cX4_passes 81 = .ok (.aload_n 0, 1) := by decide +kernel
theorem dX4_passes_82 : decode cX4_passes 82 = .ok (.iload_n 1, 1) := by decide +kernel
theorem dX4_passes_83 : decode cX4_passes 83 = .ok (.invokevirtual 193, 3) := by decide +kernel
theorem dX4_passes_86 : decode cX4_passes 86 = .ok (.iinc 1 1, 3) := by decide +kernel
theorem dX4_passes_89 : decode cX4_passes 89 = .ok (.goto (-62), 3) := by decide +kernel
theorem dX4_passes_92 : decode cX4_passes 92 = .ok (.return_, 1) := by decide +kernel
theorem dX4_pass_0 : decode cX4_pass 0 = .ok (.aload_n 0, 1) := by decide +kernel
theorem dX4_pass_1 : decode cX4_pass 1 = .ok (.iload_n 1, 1) := by decide +kernel
theorem dX4_pass_2 : decode cX4_pass 2 = .ok (.iconst 1, 1) := by decide +kernel
theorem dX4_pass_3 : decode cX4_pass 3 = .ok (.sipush 3000, 3) := by decide +kernel
theorem dX4_pass_6 : decode cX4_pass 6 = .ok (.invokestatic 94, 3) := by decide +kernel
theorem dX4_pass_9 : decode cX4_pass 9 = .ok (.ifCond .ne 7, 3) := by decide +kernel
theorem dX4_pass_12 : decode cX4_pass 12 = .ok (.iconst 1, 1) := by decide +kernel
theorem dX4_pass_13 : decode cX4_pass 13 = .ok (.goto 19, 3) := by decide +kernel
theorem dX4_pass_16 : decode cX4_pass 16 = .ok (.aload_n 0, 1) := by decide +kernel
theorem dX4_pass_17 : decode cX4_pass 17 = .ok (.getfield 167, 3) := by decide +kernel
theorem dX4_pass_20 : decode cX4_pass 20 = .ok (.iload_n 1, 1) := by decide +kernel
theorem dX4_pass_21 : decode cX4_pass 21 = .ok (.iadd, 1) := by decide +kernel
theorem dX4_pass_22 : decode cX4_pass 22 = .ok (.ldc 196, 2) := by decide +kernel
theorem dX4_pass_24 : decode cX4_pass 24 = .ok (.if_icmp .le 7, 3) := by decide +kernel
theorem dX4_pass_27 : decode cX4_pass 27 = .ok (.iconst 2, 1) := by decide +kernel
theorem dX4_pass_28 : decode cX4_pass 28 = .ok (.goto 4, 3) := by decide +kernel
theorem dX4_pass_31 : decode cX4_pass 31 = .ok (.iconst 0, 1) := by decide +kernel
theorem dX4_pass_32 : decode cX4_pass 32 = .ok (.invokevirtual 101, 3) := by decide +kernel
theorem dX4_pass_35 : decode cX4_pass 35 = .ok (.ifCond .eq 5, 3) := by decide +kernel
theorem dX4_pass_38 : decode cX4_pass 38 = .ok (.iconst 0, 1) := by decide +kernel
theorem dX4_pass_39 : decode cX4_pass 39 = .ok (.ireturn, 1) := by decide +kernel
theorem dX4_pass_40 : decode cX4_pass 40 = .ok (.iconst 0, 1) := by decide +kernel
theorem dX4_pass_41 : decode cX4_pass 41 = .ok (.istore_n 2, 1) := by decide +kernel
theorem dX4_pass_42 : decode cX4_pass 42 = .ok (.iload_n 2, 1) := by decide +kernel
theorem dX4_pass_43 : decode cX4_pass 43 = .ok (.iload_n 1, 1) := by decide +kernel
theorem dX4_pass_44 : decode cX4_pass 44 = .ok (.if_icmp .ge 13, 3) := by decide +kernel
theorem dX4_pass_47 : decode cX4_pass 47 = .ok (.aload_n 0, 1) := by decide +kernel
theorem dX4_pass_48 : decode cX4_pass 48 = .ok (.invokevirtual 197, 3) := by decide +kernel
theorem dX4_pass_51 : decode cX4_pass 51 = .ok (.iinc 2 1, 3) := by decide +kernel
theorem dX4_pass_54 : decode cX4_pass 54 = .ok (.goto (-12), 3) := by decide +kernel
theorem dX4_pass_57 : decode cX4_pass 57 = .ok (.aload_n 0, 1) := by decide +kernel
theorem dX4_pass_58 : decode cX4_pass 58 = .ok (.getfield 167, 3) := by decide +kernel
theorem dX4_pass_61 : decode cX4_pass 61 = .ok (.ireturn, 1) := by decide +kernel
theorem dX4_minute_0 : decode cX4_minute 0 = .ok (.aload_n 0, 1) := by decide +kernel
theorem dX4_minute_1 : decode cX4_minute 1 = .ok (.iconst 0, 1) := by decide +kernel
theorem dX4_minute_2 : decode cX4_minute 2 = .ok (.putfield 88, 3) := by decide +kernel
theorem dX4_minute_5 : decode cX4_minute 5 = .ok (.aload_n 0, 1) := by decide +kernel
theorem dX4_minute_6 : decode cX4_minute 6 = .ok (.getfield 167, 3) := by decide +kernel
theorem dX4_minute_9 : decode cX4_minute 9 = .ok (.ireturn, 1) := by decide +kernel
theorem dX4_told_0 : decode cX4_told 0 = .ok (.aload_n 0, 1) := by decide +kernel
theorem dX4_told_1 : decode cX4_told 1 = .ok (.aload_n 0, 1) := by decide +kernel
theorem dX4_told_2 : decode cX4_told 2 = .ok (.iload_n 1, 1) := by decide +kernel
theorem dX4_told_3 : decode cX4_told 3 = .ok (.invokevirtual 109, 3) := by decide +kernel
theorem dX4_told_6 : decode cX4_told 6 = .ok (.ifCond .ne 7, 3) := by decide +kernel
theorem dX4_told_9 : decode cX4_told 9 = .ok (.iconst 1, 1) := by decide +kernel
theorem dX4_told_10 : decode cX4_told 10 = .ok (.goto 18, 3) := by decide +kernel
theorem dX4_told_13 : decode cX4_told 13 = .ok (.iload_n 2, 1) := by decide +kernel
theorem dX4_told_14 : decode cX4_told 14 = .ok (.iconst 0, 1) := by decide +kernel
theorem dX4_told_15 : decode cX4_told 15 = .ok (.bipush 7, 2) := by decide +kernel
theorem dX4_told_17 : decode cX4_told 17 = .ok (.invokestatic 94, 3) := by decide +kernel
theorem dX4_told_20 : decode cX4_told 20 = .ok (.ifCond .eq 7, 3) := by decide +kernel
theorem dX4_told_23 : decode cX4_told 23 = .ok (.iconst 0, 1) := by decide +kernel
theorem dX4_told_24 : decode cX4_told 24 = .ok (.goto 4, 3) := by decide +kernel
theorem dX4_told_27 : decode cX4_told 27 = .ok (.iconst 2, 1) := by decide +kernel
theorem dX4_told_28 : decode cX4_told 28 = .ok (.invokevirtual 101, 3) := by decide +kernel
theorem dX4_told_31 : decode cX4_told 31 = .ok (.ifCond .eq 5, 3) := by decide +kernel
theorem dX4_told_34 : decode cX4_told 34 = .ok (.iconst 0, 1) := by decide +kernel
theorem dX4_told_35 : decode cX4_told 35 = .ok (.ireturn, 1) := by decide +kernel
theorem dX4_told_36 : decode cX4_told 36 = .ok (.iload_n 2, 1) := by decide +kernel
theorem dX4_told_37 : decode cX4_told 37 = .ok (.tableswitch 92 0 6 #[43, 50, 57, 64, 71, 78, 85], 43) := by decide +kernel
theorem dX4_told_80 : decode cX4_told 80 = .ok (.aload_n 0, 1) := by decide +kernel
theorem dX4_told_81 : decode cX4_told 81 = .ok (.getfield 23, 3) := by decide +kernel
theorem dX4_told_84 : decode cX4_told 84 = .ok (.iload_n 1, 1) := by decide +kernel
theorem dX4_told_85 : decode cX4_told 85 = .ok (.iaload, 1) := by decide +kernel
theorem dX4_told_86 : decode cX4_told 86 = .ok (.ireturn, 1) := by decide +kernel
theorem dX4_told_87 : decode cX4_told 87 = .ok (.aload_n 0, 1) := by decide +kernel
theorem dX4_told_88 : decode cX4_told 88 = .ok (.getfield 26, 3) := by decide +kernel
theorem dX4_told_91 : decode cX4_told 91 = .ok (.iload_n 1, 1) := by decide +kernel
theorem dX4_told_92 : decode cX4_told 92 = .ok (.iaload, 1) := by decide +kernel
theorem dX4_told_93 : decode cX4_told 93 = .ok (.ireturn, 1) := by decide +kernel
theorem dX4_told_94 : decode cX4_told 94 = .ok (.aload_n 0, 1) := by decide +kernel
theorem dX4_told_95 : decode cX4_told 95 = .ok (.getfield 29, 3) := by decide +kernel
theorem dX4_told_98 : decode cX4_told 98 = .ok (.iload_n 1, 1) := by decide +kernel
theorem dX4_told_99 : decode cX4_told 99 = .ok (.iaload, 1) := by decide +kernel
theorem dX4_told_100 : decode cX4_told 100 = .ok (.ireturn, 1) := by decide +kernel
theorem dX4_told_101 : decode cX4_told 101 = .ok (.aload_n 0, 1) := by decide +kernel
theorem dX4_told_102 : decode cX4_told 102 = .ok (.getfield 32, 3) := by decide +kernel
theorem dX4_told_105 : decode cX4_told 105 = .ok (.iload_n 1, 1) := by decide +kernel
theorem dX4_told_106 : decode cX4_told 106 = .ok (.iaload, 1) := by decide +kernel
theorem dX4_told_107 : decode cX4_told 107 = .ok (.ireturn, 1) := by decide +kernel
theorem dX4_told_108 : decode cX4_told 108 = .ok (.aload_n 0, 1) := by decide +kernel
theorem dX4_told_109 : decode cX4_told 109 = .ok (.getfield 35, 3) := by decide +kernel
theorem dX4_told_112 : decode cX4_told 112 = .ok (.iload_n 1, 1) := by decide +kernel
theorem dX4_told_113 : decode cX4_told 113 = .ok (.iaload, 1) := by decide +kernel
theorem dX4_told_114 : decode cX4_told 114 = .ok (.ireturn, 1) := by decide +kernel
theorem dX4_told_115 : decode cX4_told 115 = .ok (.aload_n 0, 1) := by decide +kernel
theorem dX4_told_116 : decode cX4_told 116 = .ok (.getfield 38, 3) := by decide +kernel
theorem dX4_told_119 : decode cX4_told 119 = .ok (.iload_n 1, 1) := by decide +kernel
theorem dX4_told_120 : decode cX4_told 120 = .ok (.iaload, 1) := by decide +kernel
theorem dX4_told_121 : decode cX4_told 121 = .ok (.ireturn, 1) := by decide +kernel
theorem dX4_told_122 : decode cX4_told 122 = .ok (.aload_n 0, 1) := by decide +kernel
theorem dX4_told_123 : decode cX4_told 123 = .ok (.getfield 41, 3) := by decide +kernel
theorem dX4_told_126 : decode cX4_told 126 = .ok (.iload_n 1, 1) := by decide +kernel
theorem dX4_told_127 : decode cX4_told 127 = .ok (.iaload, 1) := by decide +kernel
theorem dX4_told_128 : decode cX4_told 128 = .ok (.ireturn, 1) := by decide +kernel
theorem dX4_told_129 : decode cX4_told 129 = .ok (.aload_n 0, 1) := by decide +kernel
theorem dX4_told_130 : decode cX4_told 130 = .ok (.iload_n 1, 1) := by decide +kernel
theorem dX4_told_131 : decode cX4_told 131 = .ok (.invokevirtual 200, 3) := by decide +kernel
theorem dX4_told_134 : decode cX4_told 134 = .ok (.ireturn, 1) := by decide +kernel
theorem dX4_many_0 : decode cX4_many 0 = .ok (.iconst 0, 1) := by decide +kernel
theorem dX4_many_1 : decode cX4_many 1 = .ok (.istore_n 2, 1) := by decide +kernel
theorem dX4_many_2 : decode cX4_many 2 = .ok (.iconst 0, 1) := by decide +kernel
theorem dX4_many_3 : decode cX4_many 3 = .ok (.istore_n 3, 1) := by decide +kernel
theorem dX4_many_4 : decode cX4_many 4 = .ok (.iload_n 3, 1) := by decide +kernel
theorem dX4_many_5 : decode cX4_many 5 = .ok (.aload_n 0, 1) := by decide +kernel
theorem dX4_many_6 : decode cX4_many 6 = .ok (.getfield 98, 3) := by decide +kernel
theorem dX4_many_9 : decode cX4_many 9 = .ok (.if_icmp .ge 37, 3) := by decide +kernel
theorem dX4_many_12 : decode cX4_many 12 = .ok (.iload_n 2, 1) := by decide +kernel
theorem dX4_many_13 : decode cX4_many 13 = .ok (.aload_n 0, 1) := by decide +kernel
theorem dX4_many_14 : decode cX4_many 14 = .ok (.getfield 60, 3) := by decide +kernel
theorem dX4_many_17 : decode cX4_many 17 = .ok (.iload_n 3, 1) := by decide +kernel
theorem dX4_many_18 : decode cX4_many 18 = .ok (.iaload, 1) := by decide +kernel
theorem dX4_many_19 : decode cX4_many 19 = .ok (.iconst 1, 1) := by decide +kernel
theorem dX4_many_20 : decode cX4_many 20 = .ok (.if_icmp .ne 17, 3) := by decide +kernel
theorem dX4_many_23 : decode cX4_many 23 = .ok (.aload_n 0, 1) := by decide +kernel
theorem dX4_many_24 : decode cX4_many 24 = .ok (.getfield 63, 3) := by decide +kernel
theorem dX4_many_27 : decode cX4_many 27 = .ok (.iload_n 3, 1) := by decide +kernel
theorem dX4_many_28 : decode cX4_many 28 = .ok (.iaload, 1) := by decide +kernel
theorem dX4_many_29 : decode cX4_many 29 = .ok (.iload_n 1, 1) := by decide +kernel
theorem dX4_many_30 : decode cX4_many 30 = .ok (.if_icmp .ne 7, 3) := by decide +kernel
theorem dX4_many_33 : decode cX4_many 33 = .ok (.iconst 1, 1) := by decide +kernel
theorem dX4_many_34 : decode cX4_many 34 = .ok (.goto 4, 3) := by decide +kernel
theorem dX4_many_37 : decode cX4_many 37 = .ok (.iconst 0, 1) := by decide +kernel
theorem dX4_many_38 : decode cX4_many 38 = .ok (.iadd, 1) := by decide +kernel
theorem dX4_many_39 : decode cX4_many 39 = .ok (.istore_n 2, 1) := by decide +kernel
theorem dX4_many_40 : decode cX4_many 40 = .ok (.iinc 3 1, 3) := by decide +kernel
theorem dX4_many_43 : decode cX4_many 43 = .ok (.goto (-39), 3) := by decide +kernel
theorem dX4_many_46 : decode cX4_many 46 = .ok (.iload_n 2, 1) := by decide +kernel
theorem dX4_many_47 : decode cX4_many 47 = .ok (.ireturn, 1) := by decide +kernel
theorem dX4_thickness_0 : decode cX4_thickness 0 = .ok (.aload_n 0, 1) := by decide +kernel
theorem dX4_thickness_1 : decode cX4_thickness 1 = .ok (.aload_n 0, 1) := by decide +kernel
theorem dX4_thickness_2 : decode cX4_thickness 2 = .ok (.iload_n 1, 1) := by decide +kernel
theorem dX4_thickness_3 : decode cX4_thickness 3 = .ok (.invokevirtual 109, 3) := by decide +kernel
theorem dX4_thickness_6 : decode cX4_thickness 6 = .ok (.ifCond .eq 7, 3) := by decide +kernel
theorem dX4_thickness_9 : decode cX4_thickness 9 = .ok (.iconst 0, 1) := by decide +kernel
theorem dX4_thickness_10 : decode cX4_thickness 10 = .ok (.goto 4, 3) := by decide +kernel
theorem dX4_thickness_13 : decode cX4_thickness 13 = .ok (.iconst 1, 1) := by decide +kernel
theorem dX4_thickness_14 : decode cX4_thickness 14 = .ok (.invokevirtual 101, 3) := by decide +kernel
theorem dX4_thickness_17 : decode cX4_thickness 17 = .ok (.ifCond .eq 7, 3) := by decide +kernel
theorem dX4_thickness_20 : decode cX4_thickness 20 = .ok (.dconst 0, 1) := by decide +kernel
theorem dX4_thickness_21 : decode cX4_thickness 21 = .ok (.goto 21, 3) := by decide +kernel
theorem dX4_thickness_24 : decode cX4_thickness 24 = .ok (.iload_n 2, 1) := by decide +kernel
theorem dX4_thickness_25 : decode cX4_thickness 25 = .ok (.ifCond .eq 12, 3) := by decide +kernel
theorem dX4_thickness_28 : decode cX4_thickness 28 = .ok (.aload_n 0, 1) := by decide +kernel
theorem dX4_thickness_29 : decode cX4_thickness 29 = .ok (.getfield 44, 3) := by decide +kernel
theorem dX4_thickness_32 : decode cX4_thickness 32 = .ok (.iload_n 1, 1) := by decide +kernel
theorem dX4_thickness_33 : decode cX4_thickness 33 = .ok (.daload, 1) := by decide +kernel
theorem dX4_thickness_34 : decode cX4_thickness 34 = .ok (.goto 8, 3) := by decide +kernel
theorem dX4_thickness_37 : decode cX4_thickness 37 = .ok (.aload_n 0, 1) := by decide +kernel
theorem dX4_thickness_38 : decode cX4_thickness 38 = .ok (.iload_n 1, 1) := by decide +kernel
theorem dX4_thickness_39 : decode cX4_thickness 39 = .ok (.invokevirtual 117, 3) := by decide +kernel
theorem dX4_thickness_42 : decode cX4_thickness 42 = .ok (.dreturn, 1) := by decide +kernel
theorem dX4_bears_0 : decode cX4_bears 0 = .ok (.aload_n 0, 1) := by decide +kernel
theorem dX4_bears_1 : decode cX4_bears 1 = .ok (.aload_n 0, 1) := by decide +kernel
theorem dX4_bears_2 : decode cX4_bears 2 = .ok (.iload_n 1, 1) := by decide +kernel
theorem dX4_bears_3 : decode cX4_bears 3 = .ok (.invokevirtual 109, 3) := by decide +kernel
theorem dX4_bears_6 : decode cX4_bears 6 = .ok (.ifCond .eq 7, 3) := by decide +kernel
theorem dX4_bears_9 : decode cX4_bears 9 = .ok (.iconst 0, 1) := by decide +kernel
theorem dX4_bears_10 : decode cX4_bears 10 = .ok (.goto 4, 3) := by decide +kernel
theorem dX4_bears_13 : decode cX4_bears 13 = .ok (.iconst 1, 1) := by decide +kernel
theorem dX4_bears_14 : decode cX4_bears 14 = .ok (.invokevirtual 101, 3) := by decide +kernel
theorem dX4_bears_17 : decode cX4_bears 17 = .ok (.ifCond .eq 7, 3) := by decide +kernel
theorem dX4_bears_20 : decode cX4_bears 20 = .ok (.iconst 0, 1) := by decide +kernel
theorem dX4_bears_21 : decode cX4_bears 21 = .ok (.goto 26, 3) := by decide +kernel
theorem dX4_bears_24 : decode cX4_bears 24 = .ok (.aload_n 0, 1) := by decide +kernel
theorem dX4_bears_25 : decode cX4_bears 25 = .ok (.iload_n 1, 1) := by decide +kernel
theorem dX4_bears_26 : decode cX4_bears 26 = .ok (.iload_n 2, 1) := by decide +kernel
theorem dX4_bears_27 : decode cX4_bears 27 = .ok (.ifCond .eq 12, 3) := by decide +kernel
theorem dX4_bears_30 : decode cX4_bears 30 = .ok (.aload_n 0, 1) := by decide +kernel
theorem dX4_bears_31 : decode cX4_bears 31 = .ok (.getfield 44, 3) := by decide +kernel
theorem dX4_bears_34 : decode cX4_bears 34 = .ok (.iload_n 1, 1) := by decide +kernel
theorem dX4_bears_35 : decode cX4_bears 35 = .ok (.daload, 1) := by decide +kernel
theorem dX4_bears_36 : decode cX4_bears 36 = .ok (.goto 8, 3) := by decide +kernel
theorem dX4_bears_39 : decode cX4_bears 39 = .ok (.aload_n 0, 1) := by decide +kernel
theorem dX4_bears_40 : decode cX4_bears 40 = .ok (.iload_n 1, 1) := by decide +kernel
theorem dX4_bears_41 : decode cX4_bears 41 = .ok (.invokevirtual 117, 3) := by decide +kernel
theorem dX4_bears_44 : decode cX4_bears 44 = .ok (.invokevirtual 177, 3) := by decide +kernel
theorem dX4_bears_47 : decode cX4_bears 47 = .ok (.ireturn, 1) := by decide +kernel
theorem dX4_ofVehicle_0 : decode cX4_ofVehicle 0 = .ok (.aload_n 0, 1) := by decide +kernel
theorem dX4_ofVehicle_1 : decode cX4_ofVehicle 1 = .ok (.aload_n 0, 1) := by decide +kernel
theorem dX4_ofVehicle_2 : decode cX4_ofVehicle 2 = .ok (.iload_n 1, 1) := by decide +kernel
theorem dX4_ofVehicle_3 : decode cX4_ofVehicle 3 = .ok (.invokevirtual 123, 3) := by decide +kernel
theorem dX4_ofVehicle_6 : decode cX4_ofVehicle 6 = .ok (.ifCond .ne 7, 3) := by decide +kernel
theorem dX4_ofVehicle_9 : decode cX4_ofVehicle 9 = .ok (.iconst 1, 1) := by decide +kernel
theorem dX4_ofVehicle_10 : decode cX4_ofVehicle 10 = .ok (.goto 18, 3) := by decide +kernel
theorem dX4_ofVehicle_13 : decode cX4_ofVehicle 13 = .ok (.iload_n 2, 1) := by decide +kernel
theorem dX4_ofVehicle_14 : decode cX4_ofVehicle 14 = .ok (.iconst 0, 1) := by decide +kernel
theorem dX4_ofVehicle_15 : decode cX4_ofVehicle 15 = .ok (.bipush 6, 2) := by decide +kernel
theorem dX4_ofVehicle_17 : decode cX4_ofVehicle 17 = .ok (.invokestatic 94, 3) := by decide +kernel
theorem dX4_ofVehicle_20 : decode cX4_ofVehicle 20 = .ok (.ifCond .eq 7, 3) := by decide +kernel
theorem dX4_ofVehicle_23 : decode cX4_ofVehicle 23 = .ok (.iconst 0, 1) := by decide +kernel
theorem dX4_ofVehicle_24 : decode cX4_ofVehicle 24 = .ok (.goto 4, 3) := by decide +kernel
theorem dX4_ofVehicle_27 : decode cX4_ofVehicle 27 = .ok (.iconst 2, 1) := by decide +kernel
theorem dX4_ofVehicle_28 : decode cX4_ofVehicle 28 = .ok (.invokevirtual 101, 3) := by decide +kernel
theorem dX4_ofVehicle_31 : decode cX4_ofVehicle 31 = .ok (.ifCond .eq 5, 3) := by decide +kernel
theorem dX4_ofVehicle_34 : decode cX4_ofVehicle 34 = .ok (.iconst 0, 1) := by decide +kernel
theorem dX4_ofVehicle_35 : decode cX4_ofVehicle 35 = .ok (.ireturn, 1) := by decide +kernel
theorem dX4_ofVehicle_36 : decode cX4_ofVehicle 36 = .ok (.iload_n 2, 1) := by decide +kernel
theorem dX4_ofVehicle_37 : decode cX4_ofVehicle 37 = .ok (.tableswitch 88 0 5 #[39, 46, 52, 59, 66, 73], 39) := by decide +kernel
theorem dX4_ofVehicle_76 : decode cX4_ofVehicle 76 = .ok (.aload_n 0, 1) := by decide +kernel
theorem dX4_ofVehicle_77 : decode cX4_ofVehicle 77 = .ok (.getfield 60, 3) := by decide +kernel
theorem dX4_ofVehicle_80 : decode cX4_ofVehicle 80 = .ok (.iload_n 1, 1) := by decide +kernel
theorem dX4_ofVehicle_81 : decode cX4_ofVehicle 81 = .ok (.iaload, 1) := by decide +kernel
theorem dX4_ofVehicle_82 : decode cX4_ofVehicle 82 = .ok (.ireturn, 1) := by decide +kernel
theorem dX4_ofVehicle_83 : decode cX4_ofVehicle 83 = .ok (.aload_n 0, 1) := by decide +kernel
theorem dX4_ofVehicle_84 : decode cX4_ofVehicle 84 = .ok (.iload_n 1, 1) := by decide +kernel
theorem dX4_ofVehicle_85 : decode cX4_ofVehicle 85 = .ok (.invokevirtual 129, 3) := by decide +kernel
theorem dX4_ofVehicle_88 : decode cX4_ofVehicle 88 = .ok (.ireturn, 1) := by decide +kernel
theorem dX4_ofVehicle_89 : decode cX4_ofVehicle 89 = .ok (.aload_n 0, 1) := by decide +kernel
theorem dX4_ofVehicle_90 : decode cX4_ofVehicle 90 = .ok (.getfield 73, 3) := by decide +kernel
theorem dX4_ofVehicle_93 : decode cX4_ofVehicle 93 = .ok (.iload_n 1, 1) := by decide +kernel
theorem dX4_ofVehicle_94 : decode cX4_ofVehicle 94 = .ok (.iaload, 1) := by decide +kernel
theorem dX4_ofVehicle_95 : decode cX4_ofVehicle 95 = .ok (.ireturn, 1) := by decide +kernel
theorem dX4_ofVehicle_96 : decode cX4_ofVehicle 96 = .ok (.aload_n 0, 1) := by decide +kernel
theorem dX4_ofVehicle_97 : decode cX4_ofVehicle 97 = .ok (.getfield 76, 3) := by decide +kernel
theorem dX4_ofVehicle_100 : decode cX4_ofVehicle 100 = .ok (.iload_n 1, 1) := by decide +kernel
theorem dX4_ofVehicle_101 : decode cX4_ofVehicle 101 = .ok (.iaload, 1) := by decide +kernel
theorem dX4_ofVehicle_102 : decode cX4_ofVehicle 102 = .ok (.ireturn, 1) := by decide +kernel
theorem dX4_ofVehicle_103 : decode cX4_ofVehicle 103 = .ok (.aload_n 0, 1) := by decide +kernel
theorem dX4_ofVehicle_104 : decode cX4_ofVehicle 104 = .ok (.getfield 63, 3) := by decide +kernel
theorem dX4_ofVehicle_107 : decode cX4_ofVehicle 107 = .ok (.iload_n 1, 1) := by decide +kernel
theorem dX4_ofVehicle_108 : decode cX4_ofVehicle 108 = .ok (.iaload, 1) := by decide +kernel
theorem dX4_ofVehicle_109 : decode cX4_ofVehicle 109 = .ok (.ireturn, 1) := by decide +kernel
theorem dX4_ofVehicle_110 : decode cX4_ofVehicle 110 = .ok (.aload_n 0, 1) := by decide +kernel
theorem dX4_ofVehicle_111 : decode cX4_ofVehicle 111 = .ok (.getfield 66, 3) := by decide +kernel
theorem dX4_ofVehicle_114 : decode cX4_ofVehicle 114 = .ok (.iload_n 1, 1) := by decide +kernel
theorem dX4_ofVehicle_115 : decode cX4_ofVehicle 115 = .ok (.baload, 1) := by decide +kernel
theorem dX4_ofVehicle_116 : decode cX4_ofVehicle 116 = .ok (.ifCond .eq 7, 3) := by decide +kernel
theorem dX4_ofVehicle_119 : decode cX4_ofVehicle 119 = .ok (.iconst 1, 1) := by decide +kernel
theorem dX4_ofVehicle_120 : decode cX4_ofVehicle 120 = .ok (.goto 4, 3) := by decide +kernel
theorem dX4_ofVehicle_123 : decode cX4_ofVehicle 123 = .ok (.iconst 0, 1) := by decide +kernel
theorem dX4_ofVehicle_124 : decode cX4_ofVehicle 124 = .ok (.ireturn, 1) := by decide +kernel
theorem dX4_ofVehicle_125 : decode cX4_ofVehicle 125 = .ok (.aload_n 0, 1) := by decide +kernel
theorem dX4_ofVehicle_126 : decode cX4_ofVehicle 126 = .ok (.getfield 60, 3) := by decide +kernel
theorem dX4_ofVehicle_129 : decode cX4_ofVehicle 129 = .ok (.iload_n 1, 1) := by decide +kernel
theorem dX4_ofVehicle_130 : decode cX4_ofVehicle 130 = .ok (.iaload, 1) := by decide +kernel
theorem dX4_ofVehicle_131 : decode cX4_ofVehicle 131 = .ok (.iconst 1, 1) := by decide +kernel
theorem dX4_ofVehicle_132 : decode cX4_ofVehicle 132 = .ok (.if_icmp .ne 12, 3) := by decide +kernel
theorem dX4_ofVehicle_135 : decode cX4_ofVehicle 135 = .ok (.aload_n 0, 1) := by decide +kernel
theorem dX4_ofVehicle_136 : decode cX4_ofVehicle 136 = .ok (.getfield 70, 3) := by decide +kernel
theorem dX4_ofVehicle_139 : decode cX4_ofVehicle 139 = .ok (.iload_n 1, 1) := by decide +kernel
theorem dX4_ofVehicle_140 : decode cX4_ofVehicle 140 = .ok (.iaload, 1) := by decide +kernel
theorem dX4_ofVehicle_141 : decode cX4_ofVehicle 141 = .ok (.goto 4, 3) := by decide +kernel
theorem dX4_ofVehicle_144 : decode cX4_ofVehicle 144 = .ok (.iconst (-1), 1) := by decide +kernel
theorem dX4_ofVehicle_145 : decode cX4_ofVehicle 145 = .ok (.ireturn, 1) := by decide +kernel
theorem dX4_why_0 : decode cX4_why 0 = .ok (.aload_n 0, 1) := by decide +kernel
theorem dX4_why_1 : decode cX4_why 1 = .ok (.aload_n 0, 1) := by decide +kernel
theorem dX4_why_2 : decode cX4_why 2 = .ok (.iload_n 1, 1) := by decide +kernel
theorem dX4_why_3 : decode cX4_why 3 = .ok (.invokevirtual 123, 3) := by decide +kernel
theorem dX4_why_6 : decode cX4_why 6 = .ok (.ifCond .eq 7, 3) := by decide +kernel
theorem dX4_why_9 : decode cX4_why 9 = .ok (.iconst 0, 1) := by decide +kernel
theorem dX4_why_10 : decode cX4_why 10 = .ok (.goto 4, 3) := by decide +kernel
theorem dX4_why_13 : decode cX4_why 13 = .ok (.iconst 1, 1) := by decide +kernel
theorem dX4_why_14 : decode cX4_why 14 = .ok (.invokevirtual 101, 3) := by decide +kernel
theorem dX4_why_17 : decode cX4_why 17 = .ok (.ifCond .eq 7, 3) := by decide +kernel
theorem dX4_why_20 : decode cX4_why 20 = .ok (.iconst 0, 1) := by decide +kernel
theorem dX4_why_21 : decode cX4_why 21 = .ok (.goto 22, 3) := by decide +kernel
theorem dX4_why_24 : decode cX4_why 24 = .ok (.aload_n 0, 1) := by decide +kernel
theorem dX4_why_25 : decode cX4_why 25 = .ok (.getfield 60, 3) := by decide +kernel
theorem dX4_why_28 : decode cX4_why 28 = .ok (.iload_n 1, 1) := by decide +kernel
theorem dX4_why_29 : decode cX4_why 29 = .ok (.iaload, 1) := by decide +kernel
theorem dX4_why_30 : decode cX4_why 30 = .ok (.iconst 2, 1) := by decide +kernel
theorem dX4_why_31 : decode cX4_why 31 = .ok (.if_icmp .ne 11, 3) := by decide +kernel
theorem dX4_why_34 : decode cX4_why 34 = .ok (.aload_n 0, 1) := by decide +kernel
theorem dX4_why_35 : decode cX4_why 35 = .ok (.iload_n 1, 1) := by decide +kernel
theorem dX4_why_36 : decode cX4_why 36 = .ok (.invokevirtual 190, 3) := by decide +kernel
theorem dX4_why_39 : decode cX4_why 39 = .ok (.goto 4, 3) := by decide +kernel
theorem dX4_why_42 : decode cX4_why 42 = .ok (.iconst (-1), 1) := by decide +kernel
theorem dX4_why_43 : decode cX4_why 43 = .ok (.ireturn, 1) := by decide +kernel
theorem dX4_speed_0 : decode cX4_speed 0 = .ok (.aload_n 0, 1) := by decide +kernel
theorem dX4_speed_1 : decode cX4_speed 1 = .ok (.aload_n 0, 1) := by decide +kernel
theorem dX4_speed_2 : decode cX4_speed 2 = .ok (.iload_n 1, 1) := by decide +kernel
theorem dX4_speed_3 : decode cX4_speed 3 = .ok (.invokevirtual 123, 3) := by decide +kernel
theorem dX4_speed_6 : decode cX4_speed 6 = .ok (.ifCond .eq 15, 3) := by decide +kernel
theorem dX4_speed_9 : decode cX4_speed 9 = .ok (.aload_n 0, 1) := by decide +kernel
theorem dX4_speed_10 : decode cX4_speed 10 = .ok (.iload_n 2, 1) := by decide +kernel
theorem dX4_speed_11 : decode cX4_speed 11 = .ok (.invokevirtual 109, 3) := by decide +kernel
theorem dX4_speed_14 : decode cX4_speed 14 = .ok (.ifCond .eq 7, 3) := by decide +kernel
theorem dX4_speed_17 : decode cX4_speed 17 = .ok (.iconst 0, 1) := by decide +kernel
theorem dX4_speed_18 : decode cX4_speed 18 = .ok (.goto 4, 3) := by decide +kernel
theorem dX4_speed_21 : decode cX4_speed 21 = .ok (.iconst 1, 1) := by decide +kernel
theorem dX4_speed_22 : decode cX4_speed 22 = .ok (.invokevirtual 101, 3) := by decide +kernel
theorem dX4_speed_25 : decode cX4_speed 25 = .ok (.ifCond .eq 7, 3) := by decide +kernel
theorem dX4_speed_28 : decode cX4_speed 28 = .ok (.iconst 0, 1) := by decide +kernel
theorem dX4_speed_29 : decode cX4_speed 29 = .ok (.goto 9, 3) := by decide +kernel
theorem dX4_speed_32 : decode cX4_speed 32 = .ok (.aload_n 0, 1) := by decide +kernel
theorem dX4_speed_33 : decode cX4_speed 33 = .ok (.iload_n 1, 1) := by decide +kernel
theorem dX4_speed_34 : decode cX4_speed 34 = .ok (.iload_n 2, 1) := by decide +kernel
theorem dX4_speed_35 : decode cX4_speed 35 = .ok (.invokevirtual 160, 3) := by decide +kernel
theorem dX4_speed_38 : decode cX4_speed 38 = .ok (.ireturn, 1) := by decide +kernel
theorem dX4_minutes_0 : decode cX4_minutes 0 = .ok (.aload_n 0, 1) := by decide +kernel
theorem dX4_minutes_1 : decode cX4_minutes 1 = .ok (.aload_n 0, 1) := by decide +kernel
theorem dX4_minutes_2 : decode cX4_minutes 2 = .ok (.iload_n 1, 1) := by decide +kernel
theorem dX4_minutes_3 : decode cX4_minutes 3 = .ok (.invokevirtual 123, 3) := by decide +kernel
theorem dX4_minutes_6 : decode cX4_minutes 6 = .ok (.ifCond .eq 15, 3) := by decide +kernel
theorem dX4_minutes_9 : decode cX4_minutes 9 = .ok (.aload_n 0, 1) := by decide +kernel
theorem dX4_minutes_10 : decode cX4_minutes 10 = .ok (.iload_n 2, 1) := by decide +kernel
theorem dX4_minutes_11 : decode cX4_minutes 11 = .ok (.invokevirtual 109, 3) := by decide +kernel
theorem dX4_minutes_14 : decode cX4_minutes 14 = .ok (.ifCond .eq 7, 3) := by decide +kernel
theorem dX4_minutes_17 : decode cX4_minutes 17 = .ok (.iconst 0, 1) := by decide +kernel
theorem dX4_minutes_18 : decode cX4_minutes 18 = .ok (.goto 4, 3) := by decide +kernel
theorem dX4_minutes_21 : decode cX4_minutes 21 = .ok (.iconst 1, 1) := by decide +kernel
theorem dX4_minutes_22 : decode cX4_minutes 22 = .ok (.invokevirtual 101, 3) := by decide +kernel
theorem dX4_minutes_25 : decode cX4_minutes 25 = .ok (.ifCond .eq 7, 3) := by decide +kernel
theorem dX4_minutes_28 : decode cX4_minutes 28 = .ok (.iconst 0, 1) := by decide +kernel
theorem dX4_minutes_29 : decode cX4_minutes 29 = .ok (.goto 9, 3) := by decide +kernel
theorem dX4_minutes_32 : decode cX4_minutes 32 = .ok (.aload_n 0, 1) := by decide +kernel
theorem dX4_minutes_33 : decode cX4_minutes 33 = .ok (.iload_n 1, 1) := by decide +kernel
theorem dX4_minutes_34 : decode cX4_minutes 34 = .ok (.iload_n 2, 1) := by decide +kernel
theorem dX4_minutes_35 : decode cX4_minutes 35 = .ok (.invokevirtual 181, 3) := by decide +kernel
theorem dX4_minutes_38 : decode cX4_minutes 38 = .ok (.ireturn, 1) := by decide +kernel
theorem dX4_minutesAnew_0 : decode cX4_minutesAnew 0 = .ok (.aload_n 0, 1) := by decide +kernel
theorem dX4_minutesAnew_1 : decode cX4_minutesAnew 1 = .ok (.iload_n 1, 1) := by decide +kernel
theorem dX4_minutesAnew_2 : decode cX4_minutesAnew 2 = .ok (.iload_n 2, 1) := by decide +kernel
theorem dX4_minutesAnew_3 : decode cX4_minutesAnew 3 = .ok (.invokevirtual 203, 3) := by decide +kernel
theorem dX4_minutesAnew_6 : decode cX4_minutesAnew 6 = .ok (.ireturn, 1) := by decide +kernel
theorem dX4_carried_0 : decode cX4_carried 0 = .ok (.iconst 0, 1) := by decide +kernel
theorem dX4_carried_1 : decode cX4_carried 1 = .ok (.istore_n 3, 1) := by decide +kernel
theorem dX4_carried_2 : decode cX4_carried 2 = .ok (.iconst 0, 1) := by decide +kernel
theorem dX4_carried_3 : decode cX4_carried 3 = .ok (.istore 4, 2) := by decide +kernel
theorem dX4_carried_5 : decode cX4_carried 5 = .ok (.iload 4, 2) := by decide +kernel
theorem dX4_carried_7 : decode cX4_carried 7 = .ok (.aload_n 0, 1) := by decide +kernel
theorem dX4_carried_8 : decode cX4_carried 8 = .ok (.getfield 98, 3) := by decide +kernel
theorem dX4_carried_11 : decode cX4_carried 11 = .ok (.if_icmp .ge 54, 3) := by decide +kernel
theorem dX4_carried_14 : decode cX4_carried 14 = .ok (.iload_n 3, 1) := by decide +kernel
theorem dX4_carried_15 : decode cX4_carried 15 = .ok (.aload_n 0, 1) := by decide +kernel
theorem dX4_carried_16 : decode cX4_carried 16 = .ok (.getfield 76, 3) := by decide +kernel
theorem dX4_carried_19 : decode cX4_carried 19 = .ok (.iload 4, 2) := by decide +kernel
theorem dX4_carried_21 : decode cX4_carried 21 = .ok (.iaload, 1) := by decide +kernel
theorem dX4_carried_22 : decode cX4_carried 22 = .ok (.iload_n 1, 1) := by decide +kernel
theorem dX4_carried_23 : decode cX4_carried 23 = .ok (.if_icmp .ne 33, 3) := by decide +kernel
theorem dX4_carried_26 : decode cX4_carried 26 = .ok (.aload_n 0, 1) := by decide +kernel
theorem dX4_carried_27 : decode cX4_carried 27 = .ok (.getfield 60, 3) := by decide +kernel
theorem dX4_carried_30 : decode cX4_carried 30 = .ok (.iload 4, 2) := by decide +kernel
theorem dX4_carried_32 : decode cX4_carried 32 = .ok (.iaload, 1) := by decide +kernel
theorem dX4_carried_33 : decode cX4_carried 33 = .ok (.iconst 4, 1) := by decide +kernel
theorem dX4_carried_34 : decode cX4_carried 34 = .ok (.if_icmp .ne 7, 3) := by decide +kernel
theorem dX4_carried_37 : decode cX4_carried 37 = .ok (.iconst 1, 1) := by decide +kernel
theorem dX4_carried_38 : decode cX4_carried 38 = .ok (.goto 4, 3) := by decide +kernel
theorem dX4_carried_41 : decode cX4_carried 41 = .ok (.iconst 0, 1) := by decide +kernel
theorem dX4_carried_42 : decode cX4_carried 42 = .ok (.iload_n 2, 1) := by decide +kernel
theorem dX4_carried_43 : decode cX4_carried 43 = .ok (.if_icmp .ne 13, 3) := by decide +kernel
theorem dX4_carried_46 : decode cX4_carried 46 = .ok (.aload_n 0, 1) := by decide +kernel
theorem dX4_carried_47 : decode cX4_carried 47 = .ok (.getfield 73, 3) := by decide +kernel
theorem dX4_carried_50 : decode cX4_carried 50 = .ok (.iload 4, 2) := by decide +kernel
theorem dX4_carried_52 : decode cX4_carried 52 = .ok (.iaload, 1) := by decide +kernel
theorem dX4_carried_53 : decode cX4_carried 53 = .ok (.goto 4, 3) := by decide +kernel
theorem dX4_carried_56 : decode cX4_carried 56 = .ok (.iconst 0, 1) := by decide +kernel
theorem dX4_carried_57 : decode cX4_carried 57 = .ok (.iadd, 1) := by decide +kernel
theorem dX4_carried_58 : decode cX4_carried 58 = .ok (.istore_n 3, 1) := by decide +kernel
theorem dX4_carried_59 : decode cX4_carried 59 = .ok (.iinc 4 1, 3) := by decide +kernel
theorem dX4_carried_62 : decode cX4_carried 62 = .ok (.goto (-57), 3) := by decide +kernel
theorem dX4_carried_65 : decode cX4_carried 65 = .ok (.iload_n 3, 1) := by decide +kernel
theorem dX4_carried_66 : decode cX4_carried 66 = .ok (.ireturn, 1) := by decide +kernel
theorem dX4_missing_0 : decode cX4_missing 0 = .ok (.aload_n 0, 1) := by decide +kernel
theorem dX4_missing_1 : decode cX4_missing 1 = .ok (.getfield 85, 3) := by decide +kernel
theorem dX4_missing_4 : decode cX4_missing 4 = .ok (.iload_n 1, 1) := by decide +kernel
theorem dX4_missing_5 : decode cX4_missing 5 = .ok (.iaload, 1) := by decide +kernel
theorem dX4_missing_6 : decode cX4_missing 6 = .ok (.aload_n 0, 1) := by decide +kernel
theorem dX4_missing_7 : decode cX4_missing 7 = .ok (.getfield 82, 3) := by decide +kernel
theorem dX4_missing_10 : decode cX4_missing 10 = .ok (.iload_n 1, 1) := by decide +kernel
theorem dX4_missing_11 : decode cX4_missing 11 = .ok (.iaload, 1) := by decide +kernel
theorem dX4_missing_12 : decode cX4_missing 12 = .ok (.if_icmp .le 19, 3) := by decide +kernel
theorem dX4_missing_15 : decode cX4_missing 15 = .ok (.aload_n 0, 1) := by decide +kernel
theorem dX4_missing_16 : decode cX4_missing 16 = .ok (.getfield 85, 3) := by decide +kernel
theorem dX4_missing_19 : decode cX4_missing 19 = .ok (.iload_n 1, 1) := by decide +kernel
theorem dX4_missing_20 : decode cX4_missing 20 = .ok (.iaload, 1) := by decide +kernel
theorem dX4_missing_21 : decode cX4_missing 21 = .ok (.aload_n 0, 1) := by decide +kernel
theorem dX4_missing_22 : decode cX4_missing 22 = .ok (.getfield 82, 3) := by decide +kernel
theorem dX4_missing_25 : decode cX4_missing 25 = .ok (.iload_n 1, 1) := by decide +kernel
theorem dX4_missing_26 : decode cX4_missing 26 = .ok (.iaload, 1) := by decide +kernel
theorem dX4_missing_27 : decode cX4_missing 27 = .ok (.isub, 1) := by decide +kernel
theorem dX4_missing_28 : decode cX4_missing 28 = .ok (.goto 4, 3) := by decide +kernel
theorem dX4_missing_31 : decode cX4_missing 31 = .ok (.iconst 0, 1) := by decide +kernel
theorem dX4_missing_32 : decode cX4_missing 32 = .ok (.ireturn, 1) := by decide +kernel
theorem dX4_kilos_0 : decode cX4_kilos 0 = .ok (.aload_n 0, 1) := by decide +kernel
theorem dX4_kilos_1 : decode cX4_kilos 1 = .ok (.iload_n 1, 1) := by decide +kernel
theorem dX4_kilos_2 : decode cX4_kilos 2 = .ok (.invokestatic 126, 3) := by decide +kernel
theorem dX4_kilos_5 : decode cX4_kilos 5 = .ok (.ifCond .ne 7, 3) := by decide +kernel
theorem dX4_kilos_8 : decode cX4_kilos 8 = .ok (.iconst 1, 1) := by decide +kernel
theorem dX4_kilos_9 : decode cX4_kilos 9 = .ok (.goto 17, 3) := by decide +kernel
theorem dX4_kilos_12 : decode cX4_kilos 12 = .ok (.iload_n 2, 1) := by decide +kernel
theorem dX4_kilos_13 : decode cX4_kilos 13 = .ok (.iconst 0, 1) := by decide +kernel
theorem dX4_kilos_14 : decode cX4_kilos 14 = .ok (.iconst 4, 1) := by decide +kernel
theorem dX4_kilos_15 : decode cX4_kilos 15 = .ok (.invokestatic 94, 3) := by decide +kernel
theorem dX4_kilos_18 : decode cX4_kilos 18 = .ok (.ifCond .eq 7, 3) := by decide +kernel
theorem dX4_kilos_21 : decode cX4_kilos 21 = .ok (.iconst 0, 1) := by decide +kernel
theorem dX4_kilos_22 : decode cX4_kilos 22 = .ok (.goto 4, 3) := by decide +kernel
theorem dX4_kilos_25 : decode cX4_kilos 25 = .ok (.iconst 2, 1) := by decide +kernel
theorem dX4_kilos_26 : decode cX4_kilos 26 = .ok (.invokevirtual 101, 3) := by decide +kernel
theorem dX4_kilos_29 : decode cX4_kilos 29 = .ok (.ifCond .eq 5, 3) := by decide +kernel
theorem dX4_kilos_32 : decode cX4_kilos 32 = .ok (.iconst 0, 1) := by decide +kernel
theorem dX4_kilos_33 : decode cX4_kilos 33 = .ok (.ireturn, 1) := by decide +kernel
theorem dX4_kilos_34 : decode cX4_kilos 34 = .ok (.iload_n 2, 1) := by decide +kernel
theorem dX4_kilos_35 : decode cX4_kilos 35 = .ok (.ifCond .ne 12, 3) := by decide +kernel
theorem dX4_kilos_38 : decode cX4_kilos 38 = .ok (.aload_n 0, 1) := by decide +kernel
theorem dX4_kilos_39 : decode cX4_kilos 39 = .ok (.getfield 79, 3) := by decide +kernel
theorem dX4_kilos_42 : decode cX4_kilos 42 = .ok (.iload_n 1, 1) := by decide +kernel
theorem dX4_kilos_43 : decode cX4_kilos 43 = .ok (.iaload, 1) := by decide +kernel
theorem dX4_kilos_44 : decode cX4_kilos 44 = .ok (.goto 45, 3) := by decide +kernel
theorem dX4_kilos_47 : decode cX4_kilos 47 = .ok (.iload_n 2, 1) := by decide +kernel
theorem dX4_kilos_48 : decode cX4_kilos 48 = .ok (.iconst 1, 1) := by decide +kernel
theorem dX4_kilos_49 : decode cX4_kilos 49 = .ok (.if_icmp .ne 12, 3) := by decide +kernel
theorem dX4_kilos_52 : decode cX4_kilos 52 = .ok (.aload_n 0, 1) := by decide +kernel
theorem dX4_kilos_53 : decode cX4_kilos 53 = .ok (.getfield 82, 3) := by decide +kernel
theorem dX4_kilos_56 : decode cX4_kilos 56 = .ok (.iload_n 1, 1) := by decide +kernel
theorem dX4_kilos_57 : decode cX4_kilos 57 = .ok (.iaload, 1) := by decide +kernel
theorem dX4_kilos_58 : decode cX4_kilos 58 = .ok (.goto 31, 3) := by decide +kernel
theorem dX4_kilos_61 : decode cX4_kilos 61 = .ok (.iload_n 2, 1) := by decide +kernel
theorem dX4_kilos_62 : decode cX4_kilos 62 = .ok (.iconst 4, 1) := by decide +kernel
theorem dX4_kilos_63 : decode cX4_kilos 63 = .ok (.if_icmp .ne 11, 3) := by decide +kernel
theorem dX4_kilos_66 : decode cX4_kilos 66 = .ok (.aload_n 0, 1) := by decide +kernel
theorem dX4_kilos_67 : decode cX4_kilos 67 = .ok (.iload_n 1, 1) := by decide +kernel
theorem dX4_kilos_68 : decode cX4_kilos 68 = .ok (.invokevirtual 206, 3) := by decide +kernel
theorem dX4_kilos_71 : decode cX4_kilos 71 = .ok (.goto 18, 3) := by decide +kernel
theorem dX4_kilos_74 : decode cX4_kilos 74 = .ok (.aload_n 0, 1) := by decide +kernel
theorem dX4_kilos_75 : decode cX4_kilos 75 = .ok (.iload_n 1, 1) := by decide +kernel
theorem dX4_kilos_76 : decode cX4_kilos 76 = .ok (.iload_n 2, 1) := by decide +kernel
theorem dX4_kilos_77 : decode cX4_kilos 77 = .ok (.iconst 3, 1) := by decide +kernel
theorem dX4_kilos_78 : decode cX4_kilos 78 = .ok (.if_icmp .ne 7, 3) := by decide +kernel
theorem dX4_kilos_81 : decode cX4_kilos 81 = .ok (.iconst 1, 1) := by decide +kernel
theorem dX4_kilos_82 : decode cX4_kilos 82 = .ok (.goto 4, 3) := by decide +kernel
theorem dX4_kilos_85 : decode cX4_kilos 85 = .ok (.iconst 0, 1) := by decide +kernel
theorem dX4_kilos_86 : decode cX4_kilos 86 = .ok (.invokevirtual 209, 3) := by decide +kernel
theorem dX4_kilos_89 : decode cX4_kilos 89 = .ok (.ireturn, 1) := by decide +kernel
theorem dX4_kilosAnew_0 : decode cX4_kilosAnew 0 = .ok (.aload_n 0, 1) := by decide +kernel
theorem dX4_kilosAnew_1 : decode cX4_kilosAnew 1 = .ok (.iload_n 1, 1) := by decide +kernel
theorem dX4_kilosAnew_2 : decode cX4_kilosAnew 2 = .ok (.invokestatic 126, 3) := by decide +kernel
theorem dX4_kilosAnew_5 : decode cX4_kilosAnew 5 = .ok (.ifCond .eq 7, 3) := by decide +kernel
theorem dX4_kilosAnew_8 : decode cX4_kilosAnew 8 = .ok (.iconst 0, 1) := by decide +kernel
theorem dX4_kilosAnew_9 : decode cX4_kilosAnew 9 = .ok (.goto 4, 3) := by decide +kernel
theorem dX4_kilosAnew_12 : decode cX4_kilosAnew 12 = .ok (.iconst 1, 1) := by decide +kernel
theorem dX4_kilosAnew_13 : decode cX4_kilosAnew 13 = .ok (.invokevirtual 101, 3) := by decide +kernel
theorem dX4_kilosAnew_16 : decode cX4_kilosAnew 16 = .ok (.ifCond .eq 7, 3) := by decide +kernel
theorem dX4_kilosAnew_19 : decode cX4_kilosAnew 19 = .ok (.iconst 0, 1) := by decide +kernel
theorem dX4_kilosAnew_20 : decode cX4_kilosAnew 20 = .ok (.goto 9, 3) := by decide +kernel
theorem dX4_kilosAnew_23 : decode cX4_kilosAnew 23 = .ok (.aload_n 0, 1) := by decide +kernel
theorem dX4_kilosAnew_24 : decode cX4_kilosAnew 24 = .ok (.getfield 79, 3) := by decide +kernel
theorem dX4_kilosAnew_27 : decode cX4_kilosAnew 27 = .ok (.iload_n 1, 1) := by decide +kernel
theorem dX4_kilosAnew_28 : decode cX4_kilosAnew 28 = .ok (.iaload, 1) := by decide +kernel
theorem dX4_kilosAnew_29 : decode cX4_kilosAnew 29 = .ok (.ireturn, 1) := by decide +kernel
theorem dX4_bill_0 : decode cX4_bill 0 = .ok (.aload_n 0, 1) := by decide +kernel
theorem dX4_bill_1 : decode cX4_bill 1 = .ok (.iconst 0, 1) := by decide +kernel
theorem dX4_bill_2 : decode cX4_bill 2 = .ok (.putfield 88, 3) := by decide +kernel
theorem dX4_bill_5 : decode cX4_bill 5 = .ok (.lconst 0, 1) := by decide +kernel
theorem dX4_bill_6 : decode cX4_bill 6 = .ok (.lstore_n 1, 1) := by decide +kernel
theorem dX4_bill_7 : decode cX4_bill 7 = .ok (.iconst 0, 1) := by decide +kernel
theorem dX4_bill_8 : decode cX4_bill 8 = .ok (.istore_n 3, 1) := by decide +kernel
theorem dX4_bill_9 : decode cX4_bill 9 = .ok (.iload_n 3, 1) := by decide +kernel
theorem dX4_bill_10 : decode cX4_bill 10 = .ok (.iconst 3, 1) := by decide +kernel
theorem dX4_bill_11 : decode cX4_bill 11 = .ok (.if_icmp .ge 30, 3) := by decide +kernel
theorem dX4_bill_14 : decode cX4_bill 14 = .ok (.lload_n 1, 1) := by decide +kernel
theorem dX4_bill_15 : decode cX4_bill 15 = .ok (.aload_n 0, 1) := by decide +kernel
theorem dX4_bill_16 : decode cX4_bill 16 = .ok (.getfield 82, 3) := by decide +kernel
theorem dX4_bill_19 : decode cX4_bill 19 = .ok (.iload_n 3, 1) := by decide +kernel
theorem dX4_bill_20 : decode cX4_bill 20 = .ok (.iaload, 1) := by decide +kernel
theorem dX4_bill_21 : decode cX4_bill 21 = .ok (.i2l, 1) := by decide +kernel
theorem dX4_bill_22 : decode cX4_bill 22 = .ok (.ldc2_w 213, 3) := by decide +kernel
theorem dX4_bill_25 : decode cX4_bill 25 = .ok (.aload_n 0, 1) := by decide +kernel
theorem dX4_bill_26 : decode cX4_bill 26 = .ok (.iload_n 3, 1) := by decide +kernel
theorem dX4_bill_27 : decode cX4_bill 27 = .ok (.invokevirtual 206, 3) := by decide +kernel
theorem dX4_bill_30 : decode cX4_bill 30 = .ok (.i2l, 1) := by decide +kernel
theorem dX4_bill_31 : decode cX4_bill 31 = .ok (.lmul, 1) := by decide +kernel
theorem dX4_bill_32 : decode cX4_bill 32 = .ok (.ladd, 1) := by decide +kernel
theorem dX4_bill_33 : decode cX4_bill 33 = .ok (.ladd, 1) := by decide +kernel
theorem dX4_bill_34 : decode cX4_bill 34 = .ok (.lstore_n 1, 1) := by decide +kernel
theorem dX4_bill_35 : decode cX4_bill 35 = .ok (.iinc 3 1, 3) := by decide +kernel
theorem dX4_bill_38 : decode cX4_bill 38 = .ok (.goto (-29), 3) := by decide +kernel
theorem dX4_bill_41 : decode cX4_bill 41 = .ok (.lload_n 1, 1) := by decide +kernel
theorem dX4_bill_42 : decode cX4_bill 42 = .ok (.lreturn, 1) := by decide +kernel
end
section
/-! ===== the reference's state and its world ===== -/
abbrev NN : Type := { x : UInt64 // vf_n64 x }
abbrev MS : Type := (Nat → Nat → Int32) × (Nat → NN)
def mset (S : MS) (k j : Nat) (v : Int32) : MS := (fun k' j' => if k' = k ∧ j' = j then v else S.1 k' j', S.2)
def mkset (S : MS) (j : Nat) (v : NN) : MS := (S.1, fun j' => if j' = j then v else S.2 j')
theorem mset_s {S : MS} {k j : Nat} {v : Int32} : (mset S k j v).1 k j = v := if_pos ⟨rfl, rfl⟩
theorem mset_n {S : MS} {k j k' j' : Nat} {v : Int32} (h : ¬ (k' = k ∧ j' = j)) : (mset S k j v).1 k' j' = S.1 k' j' := if_neg h
theorem mset_k {S : MS} {k j k' : Nat} {v : Int32} (h : k' ≠ k) : (mset S k j v).1 k' = S.1 k' := funext fun _ => if_neg fun z => h z.1
theorem mset_u {S : MS} {k j : Nat} {v : Int32} : (mset S k j v).1 k = upd (S.1 k) j v := funext fun x => by
  by_cases h : x = j
  · subst h
    simp [mset, upd]
  · simp [mset, upd, h]
def mLen (i : Nat) : Nat := if i = 15 then 20 else if 4 ≤ i ∧ i ≤ 14 then 10 else if 17 ≤ i ∧ i ≤ 25 then 16 else if 26 ≤ i ∧ i ≤ 28 then 3 else 0
def mF (ad : Nat → Nat) (S : MS) : List Value := [.int (S.1 0 0), .int (S.1 1 0), .int (S.1 2 0), .int (S.1 3 0), .ref (ad 4), .ref (ad 5), .ref (ad 6), .ref (ad 7), .ref (ad 8), .ref (ad 9), .ref (ad 10), .ref (ad 11), .ref (ad 12), .ref (ad 13), .ref (ad 14), .ref (ad 15), .int (S.1 16 0), .ref (ad 17), .ref (ad 18), .ref (ad 19), .ref (ad 20), .ref (ad 21), .ref (ad 22), .ref (ad 23), .ref (ad 24), .ref (ad 25), .ref (ad 26), .ref (ad 27), .ref (ad 28), .int (S.1 29 0)]
def mC (T : Nat → ClassId) (ad : Nat → Nat) (S : MS) (i : Nat) : Option (Nat × va_E) := if i = 0 then some (ad 0, .inr (5, mF ad S)) else if i = 14 then some (ad 14, .inl (T 1, 10, .inr (.inr (.inr (.inl fun j => (S.2 j).1))))) else if mLen i = 0 then none else some (ad i, .inl (if i = 22 then T 2 else T 0, mLen i, .inl (S.1 i)))
def mW (T : Nat → ClassId) (ad : Nat → Nat) (S : MS) : WD := fun k i => if k = 4 then mC T ad S i else none
theorem mF_arr {ad : Nat → Nat} {S : MS} {c j : Nat} {x : Int32} (hc : mLen c ≠ 0) : mF ad (mset S c j x) = mF ad S := by
  have h : ∀ n, mLen n = 0 → n ≠ c := fun n h0 e => hc (e ▸ h0)
  simp only [mF, mset_k (h 0 rfl), mset_k (h 1 rfl), mset_k (h 2 rfl), mset_k (h 3 rfl), mset_k (h 16 rfl), mset_k (h 29 rfl)]
theorem mU_arr {T : Nat → ClassId} {ad : Nat → Nat} {S : MS} {c j : Nat} {x : Int32} (hc : mLen c ≠ 0) (h14 : c ≠ 14) : fU (mW T ad S) 4 c (ad c, .inl (if c = 22 then T 2 else T 0, mLen c, .inl (upd (S.1 c) j x))) = mW T ad (mset S c j x) := by
  have c0 : c ≠ 0 := fun e => hc (by rw [e]; rfl)
  funext k i
  by_cases h : k = 4 ∧ i = c
  · obtain ⟨rfl, rfl⟩ := h
    rw [fU_same]
    simp only [mW, if_true, mC, if_neg c0, if_neg h14, if_neg hc, mset_u]
  · rw [fU_ne h]
    by_cases hk : k = 4
    · have hi : i ≠ c := fun e => h ⟨hk, e⟩
      simp only [mW, if_pos hk, mC, mF_arr hc, mset_k hi]
      rfl
    · simp only [mW, if_neg hk]
theorem mU_sc {T : Nat → ClassId} {ad : Nat → Nat} {S : MS} {c : Nat} {x : Int32} (hc : mLen c = 0) (hF : (mF ad S).set c (.int x) = mF ad (mset S c 0 x)) : fU (mW T ad S) 4 0 (ad 0, .inr (5, (mF ad S).set c (.int x))) = mW T ad (mset S c 0 x) := by
  funext k i
  by_cases h : k = 4 ∧ i = 0
  · obtain ⟨rfl, rfl⟩ := h
    rw [fU_same, hF]
    rfl
  · rw [fU_ne h]
    by_cases hk : k = 4
    · have hi : i ≠ 0 := fun e => h ⟨hk, e⟩
      simp only [mW, if_pos hk, mC, if_neg hi]
      by_cases hl : mLen i = 0
      · simp only [if_pos hl]
        rfl
      · have hic : i ≠ c := fun e => hl (e ▸ hc)
        simp only [mset_k hic]
        rfl
    · simp only [mW, if_neg hk]
theorem mU_kn {T : Nat → ClassId} {ad : Nat → Nat} {S : MS} {j : Nat} {x : NN} : fU (mW T ad S) 4 14 (ad 14, .inl (T 1, 10, .inr (.inr (.inr (.inl (vf_upd (fun j => (S.2 j).1) j x.1)))))) = mW T ad (mkset S j x) := by
  funext k i
  by_cases h : k = 4 ∧ i = 14
  · obtain ⟨rfl, rfl⟩ := h
    rw [fU_same]
    have e : vf_upd (fun j => (S.2 j).1) j x.1 = fun j' => ((mkset S j x).2 j').1 := funext fun y => by
      by_cases hy : y = j
      · subst hy
        simp [mkset, vf_upd]
      · simp [mkset, vf_upd, hy]
    rw [e]
    rfl
  · rw [fU_ne h]
    by_cases hk : k = 4
    · have hi : i ≠ 14 := fun e => h ⟨hk, e⟩
      simp only [mW, if_pos hk, mC, if_neg hi]
      rfl
    · simp only [mW, if_neg hk]
theorem inM : ∀ w ∈ u_ws RX4 TX4 30, w ∈ WL := by
  intro w hw
  obtain ⟨k, hk, rfl⟩ := List.mem_map.mp hw
  have hk := List.mem_range.mp hk
  match k, hk with
  | 0, _ => exact q787
  | 1, _ => exact q789
  | 2, _ => exact q791
  | 3, _ => exact q793
  | 4, _ => exact q795
  | 5, _ => exact q797
  | 6, _ => exact q799
  | 7, _ => exact q801
  | 8, _ => exact q803
  | 9, _ => exact q805
  | 10, _ => exact q807
  | 11, _ => exact q809
  | 12, _ => exact q811
  | 13, _ => exact q813
  | 14, _ => exact q815
  | 15, _ => exact q817
  | 16, _ => exact q819
  | 17, _ => exact q821
  | 18, _ => exact q823
  | 19, _ => exact q825
  | 20, _ => exact q827
  | 21, _ => exact q829
  | 22, _ => exact q831
  | 23, _ => exact q833
  | 24, _ => exact q835
  | 25, _ => exact q837
  | 26, _ => exact q839
  | 27, _ => exact q841
  | 28, _ => exact q843
  | 29, _ => exact q845
  | n + 30, h => exact absurd h (by omega)
section MROWS
variable {p : Program} {e : Env} {R : Room} {s : State} {m : MethodId} {args : Array Value} {below : List Frame} {meth : Method} {c : Code} {H : Heap} {locs : List Loc} {cells slots : Nat} {Q : State → Prop}
variable {cc : ByteArray} {pc : Nat} {ls : Array Slot} {rest : List Value} {G : GX} {A : Nat → Prop} {H0 : Heap} {ad : Nat → Nat} {S S1 : MS}
theorem gM_167 (hx : p.tables.exec = Jvm.exec) (hb : c.code = cc) (hts : ∀ w ∈ WL, w.before args s = true) (hown : s.vm.findClass RX4 = some m.cls) (hK : va_K G.2.2.1 vwCl (TYS G.2.2.2) s) (hI : fI G.2.2.1 A H0 (mW G.2.2.2 ad S) H locs) (hdg : decode cc pc = .ok (.getfield 167, 3)) (kk : W p G.1 e R s m args below meth c H locs cells slots Q (F0 m (pc + 3) ls (.int (S.1 0 0) :: rest))) : W p G.1 e R s m args below meth c H locs cells slots Q (F0 m pc ls (.ref (ad 0) :: rest)) := fx_get hx hb hts hown hK hI inM rfl 0 (by decide) q757 (fun _ h => h) (k := 4) (i := 0) rfl rfl hdg kk
theorem pM_167 {x : Int32} (hx : p.tables.exec = Jvm.exec) (hb : c.code = cc) (hts : ∀ w ∈ WL, w.before args s = true) (hown : s.vm.findClass RX4 = some m.cls) (hK : va_K G.2.2.1 vwCl (TYS G.2.2.2) s) (hI : fI G.2.2.1 A H0 (mW G.2.2.2 ad S) H locs) (hS : S1 = mset S 0 0 x) (hdg : decode cc pc = .ok (.putfield 167, 3)) (kk : ∀ (H1 : Heap) (locs1 : List Loc), fI G.2.2.1 A H0 (mW G.2.2.2 ad S1) H1 locs1 → W p G.1 e R s m args below meth c H1 locs1 cells slots Q (F0 m (pc + 3) ls (rest))) : W p G.1 e R s m args below meth c H locs cells slots Q (F0 m pc ls (.int x :: .ref (ad 0) :: rest)) := fx_put hx hb hts hown hK hI inM rfl tyX4 tyX4_ok nmX4 0 (by decide) q757 (fun _ h => h) rfl (k := 4) (i := 0) rfl rfl rfl (Nat.le_of_ble_eq_true rfl) (by rw [hS]; exact mU_sc rfl rfl) hdg kk
theorem gM_106 (hx : p.tables.exec = Jvm.exec) (hb : c.code = cc) (hts : ∀ w ∈ WL, w.before args s = true) (hown : s.vm.findClass RX4 = some m.cls) (hK : va_K G.2.2.1 vwCl (TYS G.2.2.2) s) (hI : fI G.2.2.1 A H0 (mW G.2.2.2 ad S) H locs) (hdg : decode cc pc = .ok (.getfield 106, 3)) (kk : W p G.1 e R s m args below meth c H locs cells slots Q (F0 m (pc + 3) ls (.int (S.1 1 0) :: rest))) : W p G.1 e R s m args below meth c H locs cells slots Q (F0 m pc ls (.ref (ad 0) :: rest)) := fx_get hx hb hts hown hK hI inM rfl 1 (by decide) q758 (fun _ h => h) (k := 4) (i := 0) rfl rfl hdg kk
theorem pM_106 {x : Int32} (hx : p.tables.exec = Jvm.exec) (hb : c.code = cc) (hts : ∀ w ∈ WL, w.before args s = true) (hown : s.vm.findClass RX4 = some m.cls) (hK : va_K G.2.2.1 vwCl (TYS G.2.2.2) s) (hI : fI G.2.2.1 A H0 (mW G.2.2.2 ad S) H locs) (hS : S1 = mset S 1 0 x) (hdg : decode cc pc = .ok (.putfield 106, 3)) (kk : ∀ (H1 : Heap) (locs1 : List Loc), fI G.2.2.1 A H0 (mW G.2.2.2 ad S1) H1 locs1 → W p G.1 e R s m args below meth c H1 locs1 cells slots Q (F0 m (pc + 3) ls (rest))) : W p G.1 e R s m args below meth c H locs cells slots Q (F0 m pc ls (.int x :: .ref (ad 0) :: rest)) := fx_put hx hb hts hown hK hI inM rfl tyX4 tyX4_ok nmX4 1 (by decide) q758 (fun _ h => h) rfl (k := 4) (i := 0) rfl rfl rfl (Nat.le_of_ble_eq_true rfl) (by rw [hS]; exact mU_sc rfl rfl) hdg kk
theorem gM_7 (hx : p.tables.exec = Jvm.exec) (hb : c.code = cc) (hts : ∀ w ∈ WL, w.before args s = true) (hown : s.vm.findClass RX4 = some m.cls) (hK : va_K G.2.2.1 vwCl (TYS G.2.2.2) s) (hI : fI G.2.2.1 A H0 (mW G.2.2.2 ad S) H locs) (hdg : decode cc pc = .ok (.getfield 7, 3)) (kk : W p G.1 e R s m args below meth c H locs cells slots Q (F0 m (pc + 3) ls (.int (S.1 2 0) :: rest))) : W p G.1 e R s m args below meth c H locs cells slots Q (F0 m pc ls (.ref (ad 0) :: rest)) := fx_get hx hb hts hown hK hI inM rfl 2 (by decide) q759 (fun _ h => h) (k := 4) (i := 0) rfl rfl hdg kk
theorem pM_7 {x : Int32} (hx : p.tables.exec = Jvm.exec) (hb : c.code = cc) (hts : ∀ w ∈ WL, w.before args s = true) (hown : s.vm.findClass RX4 = some m.cls) (hK : va_K G.2.2.1 vwCl (TYS G.2.2.2) s) (hI : fI G.2.2.1 A H0 (mW G.2.2.2 ad S) H locs) (hS : S1 = mset S 2 0 x) (hdg : decode cc pc = .ok (.putfield 7, 3)) (kk : ∀ (H1 : Heap) (locs1 : List Loc), fI G.2.2.1 A H0 (mW G.2.2.2 ad S1) H1 locs1 → W p G.1 e R s m args below meth c H1 locs1 cells slots Q (F0 m (pc + 3) ls (rest))) : W p G.1 e R s m args below meth c H locs cells slots Q (F0 m pc ls (.int x :: .ref (ad 0) :: rest)) := fx_put hx hb hts hown hK hI inM rfl tyX4 tyX4_ok nmX4 2 (by decide) q759 (fun _ h => h) rfl (k := 4) (i := 0) rfl rfl rfl (Nat.le_of_ble_eq_true rfl) (by rw [hS]; exact mU_sc rfl rfl) hdg kk
theorem gM_91 (hx : p.tables.exec = Jvm.exec) (hb : c.code = cc) (hts : ∀ w ∈ WL, w.before args s = true) (hown : s.vm.findClass RX4 = some m.cls) (hK : va_K G.2.2.1 vwCl (TYS G.2.2.2) s) (hI : fI G.2.2.1 A H0 (mW G.2.2.2 ad S) H locs) (hdg : decode cc pc = .ok (.getfield 91, 3)) (kk : W p G.1 e R s m args below meth c H locs cells slots Q (F0 m (pc + 3) ls (.int (S.1 3 0) :: rest))) : W p G.1 e R s m args below meth c H locs cells slots Q (F0 m pc ls (.ref (ad 0) :: rest)) := fx_get hx hb hts hown hK hI inM rfl 3 (by decide) q760 (fun _ h => h) (k := 4) (i := 0) rfl rfl hdg kk
theorem pM_91 {x : Int32} (hx : p.tables.exec = Jvm.exec) (hb : c.code = cc) (hts : ∀ w ∈ WL, w.before args s = true) (hown : s.vm.findClass RX4 = some m.cls) (hK : va_K G.2.2.1 vwCl (TYS G.2.2.2) s) (hI : fI G.2.2.1 A H0 (mW G.2.2.2 ad S) H locs) (hS : S1 = mset S 3 0 x) (hdg : decode cc pc = .ok (.putfield 91, 3)) (kk : ∀ (H1 : Heap) (locs1 : List Loc), fI G.2.2.1 A H0 (mW G.2.2.2 ad S1) H1 locs1 → W p G.1 e R s m args below meth c H1 locs1 cells slots Q (F0 m (pc + 3) ls (rest))) : W p G.1 e R s m args below meth c H locs cells slots Q (F0 m pc ls (.int x :: .ref (ad 0) :: rest)) := fx_put hx hb hts hown hK hI inM rfl tyX4 tyX4_ok nmX4 3 (by decide) q760 (fun _ h => h) rfl (k := 4) (i := 0) rfl rfl rfl (Nat.le_of_ble_eq_true rfl) (by rw [hS]; exact mU_sc rfl rfl) hdg kk
theorem gM_13 (hx : p.tables.exec = Jvm.exec) (hb : c.code = cc) (hts : ∀ w ∈ WL, w.before args s = true) (hown : s.vm.findClass RX4 = some m.cls) (hK : va_K G.2.2.1 vwCl (TYS G.2.2.2) s) (hI : fI G.2.2.1 A H0 (mW G.2.2.2 ad S) H locs) (hdg : decode cc pc = .ok (.getfield 13, 3)) (kk : W p G.1 e R s m args below meth c H locs cells slots Q (F0 m (pc + 3) ls (.ref (ad 4) :: rest))) : W p G.1 e R s m args below meth c H locs cells slots Q (F0 m pc ls (.ref (ad 0) :: rest)) := fx_get hx hb hts hown hK hI inM rfl 4 (by decide) q761 (fun _ h => h) (k := 4) (i := 0) rfl rfl hdg kk
theorem gM_17 (hx : p.tables.exec = Jvm.exec) (hb : c.code = cc) (hts : ∀ w ∈ WL, w.before args s = true) (hown : s.vm.findClass RX4 = some m.cls) (hK : va_K G.2.2.1 vwCl (TYS G.2.2.2) s) (hI : fI G.2.2.1 A H0 (mW G.2.2.2 ad S) H locs) (hdg : decode cc pc = .ok (.getfield 17, 3)) (kk : W p G.1 e R s m args below meth c H locs cells slots Q (F0 m (pc + 3) ls (.ref (ad 5) :: rest))) : W p G.1 e R s m args below meth c H locs cells slots Q (F0 m pc ls (.ref (ad 0) :: rest)) := fx_get hx hb hts hown hK hI inM rfl 5 (by decide) q762 (fun _ h => h) (k := 4) (i := 0) rfl rfl hdg kk
theorem gM_20 (hx : p.tables.exec = Jvm.exec) (hb : c.code = cc) (hts : ∀ w ∈ WL, w.before args s = true) (hown : s.vm.findClass RX4 = some m.cls) (hK : va_K G.2.2.1 vwCl (TYS G.2.2.2) s) (hI : fI G.2.2.1 A H0 (mW G.2.2.2 ad S) H locs) (hdg : decode cc pc = .ok (.getfield 20, 3)) (kk : W p G.1 e R s m args below meth c H locs cells slots Q (F0 m (pc + 3) ls (.ref (ad 6) :: rest))) : W p G.1 e R s m args below meth c H locs cells slots Q (F0 m pc ls (.ref (ad 0) :: rest)) := fx_get hx hb hts hown hK hI inM rfl 6 (by decide) q763 (fun _ h => h) (k := 4) (i := 0) rfl rfl hdg kk
theorem gM_23 (hx : p.tables.exec = Jvm.exec) (hb : c.code = cc) (hts : ∀ w ∈ WL, w.before args s = true) (hown : s.vm.findClass RX4 = some m.cls) (hK : va_K G.2.2.1 vwCl (TYS G.2.2.2) s) (hI : fI G.2.2.1 A H0 (mW G.2.2.2 ad S) H locs) (hdg : decode cc pc = .ok (.getfield 23, 3)) (kk : W p G.1 e R s m args below meth c H locs cells slots Q (F0 m (pc + 3) ls (.ref (ad 7) :: rest))) : W p G.1 e R s m args below meth c H locs cells slots Q (F0 m pc ls (.ref (ad 0) :: rest)) := fx_get hx hb hts hown hK hI inM rfl 7 (by decide) q764 (fun _ h => h) (k := 4) (i := 0) rfl rfl hdg kk
theorem gM_26 (hx : p.tables.exec = Jvm.exec) (hb : c.code = cc) (hts : ∀ w ∈ WL, w.before args s = true) (hown : s.vm.findClass RX4 = some m.cls) (hK : va_K G.2.2.1 vwCl (TYS G.2.2.2) s) (hI : fI G.2.2.1 A H0 (mW G.2.2.2 ad S) H locs) (hdg : decode cc pc = .ok (.getfield 26, 3)) (kk : W p G.1 e R s m args below meth c H locs cells slots Q (F0 m (pc + 3) ls (.ref (ad 8) :: rest))) : W p G.1 e R s m args below meth c H locs cells slots Q (F0 m pc ls (.ref (ad 0) :: rest)) := fx_get hx hb hts hown hK hI inM rfl 8 (by decide) q765 (fun _ h => h) (k := 4) (i := 0) rfl rfl hdg kk
theorem gM_29 (hx : p.tables.exec = Jvm.exec) (hb : c.code = cc) (hts : ∀ w ∈ WL, w.before args s = true) (hown : s.vm.findClass RX4 = some m.cls) (hK : va_K G.2.2.1 vwCl (TYS G.2.2.2) s) (hI : fI G.2.2.1 A H0 (mW G.2.2.2 ad S) H locs) (hdg : decode cc pc = .ok (.getfield 29, 3)) (kk : W p G.1 e R s m args below meth c H locs cells slots Q (F0 m (pc + 3) ls (.ref (ad 9) :: rest))) : W p G.1 e R s m args below meth c H locs cells slots Q (F0 m pc ls (.ref (ad 0) :: rest)) := fx_get hx hb hts hown hK hI inM rfl 9 (by decide) q766 (fun _ h => h) (k := 4) (i := 0) rfl rfl hdg kk
theorem gM_32 (hx : p.tables.exec = Jvm.exec) (hb : c.code = cc) (hts : ∀ w ∈ WL, w.before args s = true) (hown : s.vm.findClass RX4 = some m.cls) (hK : va_K G.2.2.1 vwCl (TYS G.2.2.2) s) (hI : fI G.2.2.1 A H0 (mW G.2.2.2 ad S) H locs) (hdg : decode cc pc = .ok (.getfield 32, 3)) (kk : W p G.1 e R s m args below meth c H locs cells slots Q (F0 m (pc + 3) ls (.ref (ad 10) :: rest))) : W p G.1 e R s m args below meth c H locs cells slots Q (F0 m pc ls (.ref (ad 0) :: rest)) := fx_get hx hb hts hown hK hI inM rfl 10 (by decide) q767 (fun _ h => h) (k := 4) (i := 0) rfl rfl hdg kk
theorem gM_35 (hx : p.tables.exec = Jvm.exec) (hb : c.code = cc) (hts : ∀ w ∈ WL, w.before args s = true) (hown : s.vm.findClass RX4 = some m.cls) (hK : va_K G.2.2.1 vwCl (TYS G.2.2.2) s) (hI : fI G.2.2.1 A H0 (mW G.2.2.2 ad S) H locs) (hdg : decode cc pc = .ok (.getfield 35, 3)) (kk : W p G.1 e R s m args below meth c H locs cells slots Q (F0 m (pc + 3) ls (.ref (ad 11) :: rest))) : W p G.1 e R s m args below meth c H locs cells slots Q (F0 m pc ls (.ref (ad 0) :: rest)) := fx_get hx hb hts hown hK hI inM rfl 11 (by decide) q768 (fun _ h => h) (k := 4) (i := 0) rfl rfl hdg kk
theorem gM_38 (hx : p.tables.exec = Jvm.exec) (hb : c.code = cc) (hts : ∀ w ∈ WL, w.before args s = true) (hown : s.vm.findClass RX4 = some m.cls) (hK : va_K G.2.2.1 vwCl (TYS G.2.2.2) s) (hI : fI G.2.2.1 A H0 (mW G.2.2.2 ad S) H locs) (hdg : decode cc pc = .ok (.getfield 38, 3)) (kk : W p G.1 e R s m args below meth c H locs cells slots Q (F0 m (pc + 3) ls (.ref (ad 12) :: rest))) : W p G.1 e R s m args below meth c H locs cells slots Q (F0 m pc ls (.ref (ad 0) :: rest)) := fx_get hx hb hts hown hK hI inM rfl 12 (by decide) q769 (fun _ h => h) (k := 4) (i := 0) rfl rfl hdg kk
theorem gM_41 (hx : p.tables.exec = Jvm.exec) (hb : c.code = cc) (hts : ∀ w ∈ WL, w.before args s = true) (hown : s.vm.findClass RX4 = some m.cls) (hK : va_K G.2.2.1 vwCl (TYS G.2.2.2) s) (hI : fI G.2.2.1 A H0 (mW G.2.2.2 ad S) H locs) (hdg : decode cc pc = .ok (.getfield 41, 3)) (kk : W p G.1 e R s m args below meth c H locs cells slots Q (F0 m (pc + 3) ls (.ref (ad 13) :: rest))) : W p G.1 e R s m args below meth c H locs cells slots Q (F0 m pc ls (.ref (ad 0) :: rest)) := fx_get hx hb hts hown hK hI inM rfl 13 (by decide) q770 (fun _ h => h) (k := 4) (i := 0) rfl rfl hdg kk
theorem gM_44 (hx : p.tables.exec = Jvm.exec) (hb : c.code = cc) (hts : ∀ w ∈ WL, w.before args s = true) (hown : s.vm.findClass RX4 = some m.cls) (hK : va_K G.2.2.1 vwCl (TYS G.2.2.2) s) (hI : fI G.2.2.1 A H0 (mW G.2.2.2 ad S) H locs) (hdg : decode cc pc = .ok (.getfield 44, 3)) (kk : W p G.1 e R s m args below meth c H locs cells slots Q (F0 m (pc + 3) ls (.ref (ad 14) :: rest))) : W p G.1 e R s m args below meth c H locs cells slots Q (F0 m pc ls (.ref (ad 0) :: rest)) := fx_get hx hb hts hown hK hI inM rfl 14 (by decide) q771 (fun _ h => h) (k := 4) (i := 0) rfl rfl hdg kk
theorem gM_48 (hx : p.tables.exec = Jvm.exec) (hb : c.code = cc) (hts : ∀ w ∈ WL, w.before args s = true) (hown : s.vm.findClass RX4 = some m.cls) (hK : va_K G.2.2.1 vwCl (TYS G.2.2.2) s) (hI : fI G.2.2.1 A H0 (mW G.2.2.2 ad S) H locs) (hdg : decode cc pc = .ok (.getfield 48, 3)) (kk : W p G.1 e R s m args below meth c H locs cells slots Q (F0 m (pc + 3) ls (.ref (ad 15) :: rest))) : W p G.1 e R s m args below meth c H locs cells slots Q (F0 m pc ls (.ref (ad 0) :: rest)) := fx_get hx hb hts hown hK hI inM rfl 15 (by decide) q772 (fun _ h => h) (k := 4) (i := 0) rfl rfl hdg kk
theorem gM_98 (hx : p.tables.exec = Jvm.exec) (hb : c.code = cc) (hts : ∀ w ∈ WL, w.before args s = true) (hown : s.vm.findClass RX4 = some m.cls) (hK : va_K G.2.2.1 vwCl (TYS G.2.2.2) s) (hI : fI G.2.2.1 A H0 (mW G.2.2.2 ad S) H locs) (hdg : decode cc pc = .ok (.getfield 98, 3)) (kk : W p G.1 e R s m args below meth c H locs cells slots Q (F0 m (pc + 3) ls (.int (S.1 16 0) :: rest))) : W p G.1 e R s m args below meth c H locs cells slots Q (F0 m pc ls (.ref (ad 0) :: rest)) := fx_get hx hb hts hown hK hI inM rfl 16 (by decide) q773 (fun _ h => h) (k := 4) (i := 0) rfl rfl hdg kk
theorem pM_98 {x : Int32} (hx : p.tables.exec = Jvm.exec) (hb : c.code = cc) (hts : ∀ w ∈ WL, w.before args s = true) (hown : s.vm.findClass RX4 = some m.cls) (hK : va_K G.2.2.1 vwCl (TYS G.2.2.2) s) (hI : fI G.2.2.1 A H0 (mW G.2.2.2 ad S) H locs) (hS : S1 = mset S 16 0 x) (hdg : decode cc pc = .ok (.putfield 98, 3)) (kk : ∀ (H1 : Heap) (locs1 : List Loc), fI G.2.2.1 A H0 (mW G.2.2.2 ad S1) H1 locs1 → W p G.1 e R s m args below meth c H1 locs1 cells slots Q (F0 m (pc + 3) ls (rest))) : W p G.1 e R s m args below meth c H locs cells slots Q (F0 m pc ls (.int x :: .ref (ad 0) :: rest)) := fx_put hx hb hts hown hK hI inM rfl tyX4 tyX4_ok nmX4 16 (by decide) q773 (fun _ h => h) rfl (k := 4) (i := 0) rfl rfl rfl (Nat.le_of_ble_eq_true rfl) (by rw [hS]; exact mU_sc rfl rfl) hdg kk
theorem gM_51 (hx : p.tables.exec = Jvm.exec) (hb : c.code = cc) (hts : ∀ w ∈ WL, w.before args s = true) (hown : s.vm.findClass RX4 = some m.cls) (hK : va_K G.2.2.1 vwCl (TYS G.2.2.2) s) (hI : fI G.2.2.1 A H0 (mW G.2.2.2 ad S) H locs) (hdg : decode cc pc = .ok (.getfield 51, 3)) (kk : W p G.1 e R s m args below meth c H locs cells slots Q (F0 m (pc + 3) ls (.ref (ad 17) :: rest))) : W p G.1 e R s m args below meth c H locs cells slots Q (F0 m pc ls (.ref (ad 0) :: rest)) := fx_get hx hb hts hown hK hI inM rfl 17 (by decide) q774 (fun _ h => h) (k := 4) (i := 0) rfl rfl hdg kk
theorem gM_54 (hx : p.tables.exec = Jvm.exec) (hb : c.code = cc) (hts : ∀ w ∈ WL, w.before args s = true) (hown : s.vm.findClass RX4 = some m.cls) (hK : va_K G.2.2.1 vwCl (TYS G.2.2.2) s) (hI : fI G.2.2.1 A H0 (mW G.2.2.2 ad S) H locs) (hdg : decode cc pc = .ok (.getfield 54, 3)) (kk : W p G.1 e R s m args below meth c H locs cells slots Q (F0 m (pc + 3) ls (.ref (ad 18) :: rest))) : W p G.1 e R s m args below meth c H locs cells slots Q (F0 m pc ls (.ref (ad 0) :: rest)) := fx_get hx hb hts hown hK hI inM rfl 18 (by decide) q775 (fun _ h => h) (k := 4) (i := 0) rfl rfl hdg kk
theorem gM_57 (hx : p.tables.exec = Jvm.exec) (hb : c.code = cc) (hts : ∀ w ∈ WL, w.before args s = true) (hown : s.vm.findClass RX4 = some m.cls) (hK : va_K G.2.2.1 vwCl (TYS G.2.2.2) s) (hI : fI G.2.2.1 A H0 (mW G.2.2.2 ad S) H locs) (hdg : decode cc pc = .ok (.getfield 57, 3)) (kk : W p G.1 e R s m args below meth c H locs cells slots Q (F0 m (pc + 3) ls (.ref (ad 19) :: rest))) : W p G.1 e R s m args below meth c H locs cells slots Q (F0 m pc ls (.ref (ad 0) :: rest)) := fx_get hx hb hts hown hK hI inM rfl 19 (by decide) q776 (fun _ h => h) (k := 4) (i := 0) rfl rfl hdg kk
theorem gM_60 (hx : p.tables.exec = Jvm.exec) (hb : c.code = cc) (hts : ∀ w ∈ WL, w.before args s = true) (hown : s.vm.findClass RX4 = some m.cls) (hK : va_K G.2.2.1 vwCl (TYS G.2.2.2) s) (hI : fI G.2.2.1 A H0 (mW G.2.2.2 ad S) H locs) (hdg : decode cc pc = .ok (.getfield 60, 3)) (kk : W p G.1 e R s m args below meth c H locs cells slots Q (F0 m (pc + 3) ls (.ref (ad 20) :: rest))) : W p G.1 e R s m args below meth c H locs cells slots Q (F0 m pc ls (.ref (ad 0) :: rest)) := fx_get hx hb hts hown hK hI inM rfl 20 (by decide) q777 (fun _ h => h) (k := 4) (i := 0) rfl rfl hdg kk
theorem gM_63 (hx : p.tables.exec = Jvm.exec) (hb : c.code = cc) (hts : ∀ w ∈ WL, w.before args s = true) (hown : s.vm.findClass RX4 = some m.cls) (hK : va_K G.2.2.1 vwCl (TYS G.2.2.2) s) (hI : fI G.2.2.1 A H0 (mW G.2.2.2 ad S) H locs) (hdg : decode cc pc = .ok (.getfield 63, 3)) (kk : W p G.1 e R s m args below meth c H locs cells slots Q (F0 m (pc + 3) ls (.ref (ad 21) :: rest))) : W p G.1 e R s m args below meth c H locs cells slots Q (F0 m pc ls (.ref (ad 0) :: rest)) := fx_get hx hb hts hown hK hI inM rfl 21 (by decide) q778 (fun _ h => h) (k := 4) (i := 0) rfl rfl hdg kk
theorem gM_66 (hx : p.tables.exec = Jvm.exec) (hb : c.code = cc) (hts : ∀ w ∈ WL, w.before args s = true) (hown : s.vm.findClass RX4 = some m.cls) (hK : va_K G.2.2.1 vwCl (TYS G.2.2.2) s) (hI : fI G.2.2.1 A H0 (mW G.2.2.2 ad S) H locs) (hdg : decode cc pc = .ok (.getfield 66, 3)) (kk : W p G.1 e R s m args below meth c H locs cells slots Q (F0 m (pc + 3) ls (.ref (ad 22) :: rest))) : W p G.1 e R s m args below meth c H locs cells slots Q (F0 m pc ls (.ref (ad 0) :: rest)) := fx_get hx hb hts hown hK hI inM rfl 22 (by decide) q779 (fun _ h => h) (k := 4) (i := 0) rfl rfl hdg kk
theorem gM_70 (hx : p.tables.exec = Jvm.exec) (hb : c.code = cc) (hts : ∀ w ∈ WL, w.before args s = true) (hown : s.vm.findClass RX4 = some m.cls) (hK : va_K G.2.2.1 vwCl (TYS G.2.2.2) s) (hI : fI G.2.2.1 A H0 (mW G.2.2.2 ad S) H locs) (hdg : decode cc pc = .ok (.getfield 70, 3)) (kk : W p G.1 e R s m args below meth c H locs cells slots Q (F0 m (pc + 3) ls (.ref (ad 23) :: rest))) : W p G.1 e R s m args below meth c H locs cells slots Q (F0 m pc ls (.ref (ad 0) :: rest)) := fx_get hx hb hts hown hK hI inM rfl 23 (by decide) q780 (fun _ h => h) (k := 4) (i := 0) rfl rfl hdg kk
theorem gM_73 (hx : p.tables.exec = Jvm.exec) (hb : c.code = cc) (hts : ∀ w ∈ WL, w.before args s = true) (hown : s.vm.findClass RX4 = some m.cls) (hK : va_K G.2.2.1 vwCl (TYS G.2.2.2) s) (hI : fI G.2.2.1 A H0 (mW G.2.2.2 ad S) H locs) (hdg : decode cc pc = .ok (.getfield 73, 3)) (kk : W p G.1 e R s m args below meth c H locs cells slots Q (F0 m (pc + 3) ls (.ref (ad 24) :: rest))) : W p G.1 e R s m args below meth c H locs cells slots Q (F0 m pc ls (.ref (ad 0) :: rest)) := fx_get hx hb hts hown hK hI inM rfl 24 (by decide) q781 (fun _ h => h) (k := 4) (i := 0) rfl rfl hdg kk
theorem gM_76 (hx : p.tables.exec = Jvm.exec) (hb : c.code = cc) (hts : ∀ w ∈ WL, w.before args s = true) (hown : s.vm.findClass RX4 = some m.cls) (hK : va_K G.2.2.1 vwCl (TYS G.2.2.2) s) (hI : fI G.2.2.1 A H0 (mW G.2.2.2 ad S) H locs) (hdg : decode cc pc = .ok (.getfield 76, 3)) (kk : W p G.1 e R s m args below meth c H locs cells slots Q (F0 m (pc + 3) ls (.ref (ad 25) :: rest))) : W p G.1 e R s m args below meth c H locs cells slots Q (F0 m pc ls (.ref (ad 0) :: rest)) := fx_get hx hb hts hown hK hI inM rfl 25 (by decide) q782 (fun _ h => h) (k := 4) (i := 0) rfl rfl hdg kk
theorem gM_79 (hx : p.tables.exec = Jvm.exec) (hb : c.code = cc) (hts : ∀ w ∈ WL, w.before args s = true) (hown : s.vm.findClass RX4 = some m.cls) (hK : va_K G.2.2.1 vwCl (TYS G.2.2.2) s) (hI : fI G.2.2.1 A H0 (mW G.2.2.2 ad S) H locs) (hdg : decode cc pc = .ok (.getfield 79, 3)) (kk : W p G.1 e R s m args below meth c H locs cells slots Q (F0 m (pc + 3) ls (.ref (ad 26) :: rest))) : W p G.1 e R s m args below meth c H locs cells slots Q (F0 m pc ls (.ref (ad 0) :: rest)) := fx_get hx hb hts hown hK hI inM rfl 26 (by decide) q783 (fun _ h => h) (k := 4) (i := 0) rfl rfl hdg kk
theorem gM_82 (hx : p.tables.exec = Jvm.exec) (hb : c.code = cc) (hts : ∀ w ∈ WL, w.before args s = true) (hown : s.vm.findClass RX4 = some m.cls) (hK : va_K G.2.2.1 vwCl (TYS G.2.2.2) s) (hI : fI G.2.2.1 A H0 (mW G.2.2.2 ad S) H locs) (hdg : decode cc pc = .ok (.getfield 82, 3)) (kk : W p G.1 e R s m args below meth c H locs cells slots Q (F0 m (pc + 3) ls (.ref (ad 27) :: rest))) : W p G.1 e R s m args below meth c H locs cells slots Q (F0 m pc ls (.ref (ad 0) :: rest)) := fx_get hx hb hts hown hK hI inM rfl 27 (by decide) q784 (fun _ h => h) (k := 4) (i := 0) rfl rfl hdg kk
theorem gM_85 (hx : p.tables.exec = Jvm.exec) (hb : c.code = cc) (hts : ∀ w ∈ WL, w.before args s = true) (hown : s.vm.findClass RX4 = some m.cls) (hK : va_K G.2.2.1 vwCl (TYS G.2.2.2) s) (hI : fI G.2.2.1 A H0 (mW G.2.2.2 ad S) H locs) (hdg : decode cc pc = .ok (.getfield 85, 3)) (kk : W p G.1 e R s m args below meth c H locs cells slots Q (F0 m (pc + 3) ls (.ref (ad 28) :: rest))) : W p G.1 e R s m args below meth c H locs cells slots Q (F0 m pc ls (.ref (ad 0) :: rest)) := fx_get hx hb hts hown hK hI inM rfl 28 (by decide) q785 (fun _ h => h) (k := 4) (i := 0) rfl rfl hdg kk
theorem gM_88 (hx : p.tables.exec = Jvm.exec) (hb : c.code = cc) (hts : ∀ w ∈ WL, w.before args s = true) (hown : s.vm.findClass RX4 = some m.cls) (hK : va_K G.2.2.1 vwCl (TYS G.2.2.2) s) (hI : fI G.2.2.1 A H0 (mW G.2.2.2 ad S) H locs) (hdg : decode cc pc = .ok (.getfield 88, 3)) (kk : W p G.1 e R s m args below meth c H locs cells slots Q (F0 m (pc + 3) ls (.int (S.1 29 0) :: rest))) : W p G.1 e R s m args below meth c H locs cells slots Q (F0 m pc ls (.ref (ad 0) :: rest)) := fx_get hx hb hts hown hK hI inM rfl 29 (by decide) q786 (fun _ h => h) (k := 4) (i := 0) rfl rfl hdg kk
theorem pM_88 {x : Int32} (hx : p.tables.exec = Jvm.exec) (hb : c.code = cc) (hts : ∀ w ∈ WL, w.before args s = true) (hown : s.vm.findClass RX4 = some m.cls) (hK : va_K G.2.2.1 vwCl (TYS G.2.2.2) s) (hI : fI G.2.2.1 A H0 (mW G.2.2.2 ad S) H locs) (hS : S1 = mset S 29 0 x) (hdg : decode cc pc = .ok (.putfield 88, 3)) (kk : ∀ (H1 : Heap) (locs1 : List Loc), fI G.2.2.1 A H0 (mW G.2.2.2 ad S1) H1 locs1 → W p G.1 e R s m args below meth c H1 locs1 cells slots Q (F0 m (pc + 3) ls (rest))) : W p G.1 e R s m args below meth c H locs cells slots Q (F0 m pc ls (.int x :: .ref (ad 0) :: rest)) := fx_put hx hb hts hown hK hI inM rfl tyX4 tyX4_ok nmX4 29 (by decide) q786 (fun _ h => h) rfl (k := 4) (i := 0) rfl rfl rfl (Nat.le_of_ble_eq_true rfl) (by rw [hS]; exact mU_sc rfl rfl) hdg kk
theorem lM_4 {i : Int32} (hx : p.tables.exec = Jvm.exec) (hb : c.code = cc) (hK : va_K G.2.2.1 vwCl (TYS G.2.2.2) s) (hI : fI G.2.2.1 A H0 (mW G.2.2.2 ad S) H locs) (hin : vp_in i 10) (hdg : decode cc pc = .ok (.iaload, 1)) (kk : W p G.1 e R s m args below meth c H locs cells slots Q (F0 m (pc + 1) ls (.int (S.1 4 i.toNatClampNeg) :: rest))) : W p G.1 e R s m args below meth c H locs cells slots Q (F0 m pc ls (.int i :: .ref (ad 4) :: rest)) := fx_iald hx hb hK hI (k := 4) (j := 4) (n := 10) rfl hin hdg kk
theorem sM_4 {i x : Int32} (hx : p.tables.exec = Jvm.exec) (hb : c.code = cc) (hK : va_K G.2.2.1 vwCl (TYS G.2.2.2) s) (hI : fI G.2.2.1 A H0 (mW G.2.2.2 ad S) H locs) (hin : vp_in i 10) (hS : S1 = mset S 4 i.toNatClampNeg x) (hdg : decode cc pc = .ok (.iastore, 1)) (kk : ∀ (H1 : Heap) (locs1 : List Loc), fI G.2.2.1 A H0 (mW G.2.2.2 ad S1) H1 locs1 → W p G.1 e R s m args below meth c H1 locs1 cells slots Q (F0 m (pc + 1) ls (rest))) : W p G.1 e R s m args below meth c H locs cells slots Q (F0 m pc ls (.int x :: .int i :: .ref (ad 4) :: rest)) := fx_iast hx hb hK hI (k := 4) (j := 4) (n := 10) rfl hin (by rw [hS]; exact mU_arr (c := 4) (by decide) (by decide)) hdg kk
theorem lM_5 {i : Int32} (hx : p.tables.exec = Jvm.exec) (hb : c.code = cc) (hK : va_K G.2.2.1 vwCl (TYS G.2.2.2) s) (hI : fI G.2.2.1 A H0 (mW G.2.2.2 ad S) H locs) (hin : vp_in i 10) (hdg : decode cc pc = .ok (.iaload, 1)) (kk : W p G.1 e R s m args below meth c H locs cells slots Q (F0 m (pc + 1) ls (.int (S.1 5 i.toNatClampNeg) :: rest))) : W p G.1 e R s m args below meth c H locs cells slots Q (F0 m pc ls (.int i :: .ref (ad 5) :: rest)) := fx_iald hx hb hK hI (k := 4) (j := 5) (n := 10) rfl hin hdg kk
theorem sM_5 {i x : Int32} (hx : p.tables.exec = Jvm.exec) (hb : c.code = cc) (hK : va_K G.2.2.1 vwCl (TYS G.2.2.2) s) (hI : fI G.2.2.1 A H0 (mW G.2.2.2 ad S) H locs) (hin : vp_in i 10) (hS : S1 = mset S 5 i.toNatClampNeg x) (hdg : decode cc pc = .ok (.iastore, 1)) (kk : ∀ (H1 : Heap) (locs1 : List Loc), fI G.2.2.1 A H0 (mW G.2.2.2 ad S1) H1 locs1 → W p G.1 e R s m args below meth c H1 locs1 cells slots Q (F0 m (pc + 1) ls (rest))) : W p G.1 e R s m args below meth c H locs cells slots Q (F0 m pc ls (.int x :: .int i :: .ref (ad 5) :: rest)) := fx_iast hx hb hK hI (k := 4) (j := 5) (n := 10) rfl hin (by rw [hS]; exact mU_arr (c := 5) (by decide) (by decide)) hdg kk
theorem lM_6 {i : Int32} (hx : p.tables.exec = Jvm.exec) (hb : c.code = cc) (hK : va_K G.2.2.1 vwCl (TYS G.2.2.2) s) (hI : fI G.2.2.1 A H0 (mW G.2.2.2 ad S) H locs) (hin : vp_in i 10) (hdg : decode cc pc = .ok (.iaload, 1)) (kk : W p G.1 e R s m args below meth c H locs cells slots Q (F0 m (pc + 1) ls (.int (S.1 6 i.toNatClampNeg) :: rest))) : W p G.1 e R s m args below meth c H locs cells slots Q (F0 m pc ls (.int i :: .ref (ad 6) :: rest)) := fx_iald hx hb hK hI (k := 4) (j := 6) (n := 10) rfl hin hdg kk
theorem sM_6 {i x : Int32} (hx : p.tables.exec = Jvm.exec) (hb : c.code = cc) (hK : va_K G.2.2.1 vwCl (TYS G.2.2.2) s) (hI : fI G.2.2.1 A H0 (mW G.2.2.2 ad S) H locs) (hin : vp_in i 10) (hS : S1 = mset S 6 i.toNatClampNeg x) (hdg : decode cc pc = .ok (.iastore, 1)) (kk : ∀ (H1 : Heap) (locs1 : List Loc), fI G.2.2.1 A H0 (mW G.2.2.2 ad S1) H1 locs1 → W p G.1 e R s m args below meth c H1 locs1 cells slots Q (F0 m (pc + 1) ls (rest))) : W p G.1 e R s m args below meth c H locs cells slots Q (F0 m pc ls (.int x :: .int i :: .ref (ad 6) :: rest)) := fx_iast hx hb hK hI (k := 4) (j := 6) (n := 10) rfl hin (by rw [hS]; exact mU_arr (c := 6) (by decide) (by decide)) hdg kk
theorem lM_7 {i : Int32} (hx : p.tables.exec = Jvm.exec) (hb : c.code = cc) (hK : va_K G.2.2.1 vwCl (TYS G.2.2.2) s) (hI : fI G.2.2.1 A H0 (mW G.2.2.2 ad S) H locs) (hin : vp_in i 10) (hdg : decode cc pc = .ok (.iaload, 1)) (kk : W p G.1 e R s m args below meth c H locs cells slots Q (F0 m (pc + 1) ls (.int (S.1 7 i.toNatClampNeg) :: rest))) : W p G.1 e R s m args below meth c H locs cells slots Q (F0 m pc ls (.int i :: .ref (ad 7) :: rest)) := fx_iald hx hb hK hI (k := 4) (j := 7) (n := 10) rfl hin hdg kk
theorem sM_7 {i x : Int32} (hx : p.tables.exec = Jvm.exec) (hb : c.code = cc) (hK : va_K G.2.2.1 vwCl (TYS G.2.2.2) s) (hI : fI G.2.2.1 A H0 (mW G.2.2.2 ad S) H locs) (hin : vp_in i 10) (hS : S1 = mset S 7 i.toNatClampNeg x) (hdg : decode cc pc = .ok (.iastore, 1)) (kk : ∀ (H1 : Heap) (locs1 : List Loc), fI G.2.2.1 A H0 (mW G.2.2.2 ad S1) H1 locs1 → W p G.1 e R s m args below meth c H1 locs1 cells slots Q (F0 m (pc + 1) ls (rest))) : W p G.1 e R s m args below meth c H locs cells slots Q (F0 m pc ls (.int x :: .int i :: .ref (ad 7) :: rest)) := fx_iast hx hb hK hI (k := 4) (j := 7) (n := 10) rfl hin (by rw [hS]; exact mU_arr (c := 7) (by decide) (by decide)) hdg kk
theorem lM_8 {i : Int32} (hx : p.tables.exec = Jvm.exec) (hb : c.code = cc) (hK : va_K G.2.2.1 vwCl (TYS G.2.2.2) s) (hI : fI G.2.2.1 A H0 (mW G.2.2.2 ad S) H locs) (hin : vp_in i 10) (hdg : decode cc pc = .ok (.iaload, 1)) (kk : W p G.1 e R s m args below meth c H locs cells slots Q (F0 m (pc + 1) ls (.int (S.1 8 i.toNatClampNeg) :: rest))) : W p G.1 e R s m args below meth c H locs cells slots Q (F0 m pc ls (.int i :: .ref (ad 8) :: rest)) := fx_iald hx hb hK hI (k := 4) (j := 8) (n := 10) rfl hin hdg kk
theorem sM_8 {i x : Int32} (hx : p.tables.exec = Jvm.exec) (hb : c.code = cc) (hK : va_K G.2.2.1 vwCl (TYS G.2.2.2) s) (hI : fI G.2.2.1 A H0 (mW G.2.2.2 ad S) H locs) (hin : vp_in i 10) (hS : S1 = mset S 8 i.toNatClampNeg x) (hdg : decode cc pc = .ok (.iastore, 1)) (kk : ∀ (H1 : Heap) (locs1 : List Loc), fI G.2.2.1 A H0 (mW G.2.2.2 ad S1) H1 locs1 → W p G.1 e R s m args below meth c H1 locs1 cells slots Q (F0 m (pc + 1) ls (rest))) : W p G.1 e R s m args below meth c H locs cells slots Q (F0 m pc ls (.int x :: .int i :: .ref (ad 8) :: rest)) := fx_iast hx hb hK hI (k := 4) (j := 8) (n := 10) rfl hin (by rw [hS]; exact mU_arr (c := 8) (by decide) (by decide)) hdg kk
theorem lM_9 {i : Int32} (hx : p.tables.exec = Jvm.exec) (hb : c.code = cc) (hK : va_K G.2.2.1 vwCl (TYS G.2.2.2) s) (hI : fI G.2.2.1 A H0 (mW G.2.2.2 ad S) H locs) (hin : vp_in i 10) (hdg : decode cc pc = .ok (.iaload, 1)) (kk : W p G.1 e R s m args below meth c H locs cells slots Q (F0 m (pc + 1) ls (.int (S.1 9 i.toNatClampNeg) :: rest))) : W p G.1 e R s m args below meth c H locs cells slots Q (F0 m pc ls (.int i :: .ref (ad 9) :: rest)) := fx_iald hx hb hK hI (k := 4) (j := 9) (n := 10) rfl hin hdg kk
theorem sM_9 {i x : Int32} (hx : p.tables.exec = Jvm.exec) (hb : c.code = cc) (hK : va_K G.2.2.1 vwCl (TYS G.2.2.2) s) (hI : fI G.2.2.1 A H0 (mW G.2.2.2 ad S) H locs) (hin : vp_in i 10) (hS : S1 = mset S 9 i.toNatClampNeg x) (hdg : decode cc pc = .ok (.iastore, 1)) (kk : ∀ (H1 : Heap) (locs1 : List Loc), fI G.2.2.1 A H0 (mW G.2.2.2 ad S1) H1 locs1 → W p G.1 e R s m args below meth c H1 locs1 cells slots Q (F0 m (pc + 1) ls (rest))) : W p G.1 e R s m args below meth c H locs cells slots Q (F0 m pc ls (.int x :: .int i :: .ref (ad 9) :: rest)) := fx_iast hx hb hK hI (k := 4) (j := 9) (n := 10) rfl hin (by rw [hS]; exact mU_arr (c := 9) (by decide) (by decide)) hdg kk
theorem lM_10 {i : Int32} (hx : p.tables.exec = Jvm.exec) (hb : c.code = cc) (hK : va_K G.2.2.1 vwCl (TYS G.2.2.2) s) (hI : fI G.2.2.1 A H0 (mW G.2.2.2 ad S) H locs) (hin : vp_in i 10) (hdg : decode cc pc = .ok (.iaload, 1)) (kk : W p G.1 e R s m args below meth c H locs cells slots Q (F0 m (pc + 1) ls (.int (S.1 10 i.toNatClampNeg) :: rest))) : W p G.1 e R s m args below meth c H locs cells slots Q (F0 m pc ls (.int i :: .ref (ad 10) :: rest)) := fx_iald hx hb hK hI (k := 4) (j := 10) (n := 10) rfl hin hdg kk
theorem sM_10 {i x : Int32} (hx : p.tables.exec = Jvm.exec) (hb : c.code = cc) (hK : va_K G.2.2.1 vwCl (TYS G.2.2.2) s) (hI : fI G.2.2.1 A H0 (mW G.2.2.2 ad S) H locs) (hin : vp_in i 10) (hS : S1 = mset S 10 i.toNatClampNeg x) (hdg : decode cc pc = .ok (.iastore, 1)) (kk : ∀ (H1 : Heap) (locs1 : List Loc), fI G.2.2.1 A H0 (mW G.2.2.2 ad S1) H1 locs1 → W p G.1 e R s m args below meth c H1 locs1 cells slots Q (F0 m (pc + 1) ls (rest))) : W p G.1 e R s m args below meth c H locs cells slots Q (F0 m pc ls (.int x :: .int i :: .ref (ad 10) :: rest)) := fx_iast hx hb hK hI (k := 4) (j := 10) (n := 10) rfl hin (by rw [hS]; exact mU_arr (c := 10) (by decide) (by decide)) hdg kk
theorem lM_11 {i : Int32} (hx : p.tables.exec = Jvm.exec) (hb : c.code = cc) (hK : va_K G.2.2.1 vwCl (TYS G.2.2.2) s) (hI : fI G.2.2.1 A H0 (mW G.2.2.2 ad S) H locs) (hin : vp_in i 10) (hdg : decode cc pc = .ok (.iaload, 1)) (kk : W p G.1 e R s m args below meth c H locs cells slots Q (F0 m (pc + 1) ls (.int (S.1 11 i.toNatClampNeg) :: rest))) : W p G.1 e R s m args below meth c H locs cells slots Q (F0 m pc ls (.int i :: .ref (ad 11) :: rest)) := fx_iald hx hb hK hI (k := 4) (j := 11) (n := 10) rfl hin hdg kk
theorem sM_11 {i x : Int32} (hx : p.tables.exec = Jvm.exec) (hb : c.code = cc) (hK : va_K G.2.2.1 vwCl (TYS G.2.2.2) s) (hI : fI G.2.2.1 A H0 (mW G.2.2.2 ad S) H locs) (hin : vp_in i 10) (hS : S1 = mset S 11 i.toNatClampNeg x) (hdg : decode cc pc = .ok (.iastore, 1)) (kk : ∀ (H1 : Heap) (locs1 : List Loc), fI G.2.2.1 A H0 (mW G.2.2.2 ad S1) H1 locs1 → W p G.1 e R s m args below meth c H1 locs1 cells slots Q (F0 m (pc + 1) ls (rest))) : W p G.1 e R s m args below meth c H locs cells slots Q (F0 m pc ls (.int x :: .int i :: .ref (ad 11) :: rest)) := fx_iast hx hb hK hI (k := 4) (j := 11) (n := 10) rfl hin (by rw [hS]; exact mU_arr (c := 11) (by decide) (by decide)) hdg kk
theorem lM_12 {i : Int32} (hx : p.tables.exec = Jvm.exec) (hb : c.code = cc) (hK : va_K G.2.2.1 vwCl (TYS G.2.2.2) s) (hI : fI G.2.2.1 A H0 (mW G.2.2.2 ad S) H locs) (hin : vp_in i 10) (hdg : decode cc pc = .ok (.iaload, 1)) (kk : W p G.1 e R s m args below meth c H locs cells slots Q (F0 m (pc + 1) ls (.int (S.1 12 i.toNatClampNeg) :: rest))) : W p G.1 e R s m args below meth c H locs cells slots Q (F0 m pc ls (.int i :: .ref (ad 12) :: rest)) := fx_iald hx hb hK hI (k := 4) (j := 12) (n := 10) rfl hin hdg kk
theorem sM_12 {i x : Int32} (hx : p.tables.exec = Jvm.exec) (hb : c.code = cc) (hK : va_K G.2.2.1 vwCl (TYS G.2.2.2) s) (hI : fI G.2.2.1 A H0 (mW G.2.2.2 ad S) H locs) (hin : vp_in i 10) (hS : S1 = mset S 12 i.toNatClampNeg x) (hdg : decode cc pc = .ok (.iastore, 1)) (kk : ∀ (H1 : Heap) (locs1 : List Loc), fI G.2.2.1 A H0 (mW G.2.2.2 ad S1) H1 locs1 → W p G.1 e R s m args below meth c H1 locs1 cells slots Q (F0 m (pc + 1) ls (rest))) : W p G.1 e R s m args below meth c H locs cells slots Q (F0 m pc ls (.int x :: .int i :: .ref (ad 12) :: rest)) := fx_iast hx hb hK hI (k := 4) (j := 12) (n := 10) rfl hin (by rw [hS]; exact mU_arr (c := 12) (by decide) (by decide)) hdg kk
theorem lM_13 {i : Int32} (hx : p.tables.exec = Jvm.exec) (hb : c.code = cc) (hK : va_K G.2.2.1 vwCl (TYS G.2.2.2) s) (hI : fI G.2.2.1 A H0 (mW G.2.2.2 ad S) H locs) (hin : vp_in i 10) (hdg : decode cc pc = .ok (.iaload, 1)) (kk : W p G.1 e R s m args below meth c H locs cells slots Q (F0 m (pc + 1) ls (.int (S.1 13 i.toNatClampNeg) :: rest))) : W p G.1 e R s m args below meth c H locs cells slots Q (F0 m pc ls (.int i :: .ref (ad 13) :: rest)) := fx_iald hx hb hK hI (k := 4) (j := 13) (n := 10) rfl hin hdg kk
theorem sM_13 {i x : Int32} (hx : p.tables.exec = Jvm.exec) (hb : c.code = cc) (hK : va_K G.2.2.1 vwCl (TYS G.2.2.2) s) (hI : fI G.2.2.1 A H0 (mW G.2.2.2 ad S) H locs) (hin : vp_in i 10) (hS : S1 = mset S 13 i.toNatClampNeg x) (hdg : decode cc pc = .ok (.iastore, 1)) (kk : ∀ (H1 : Heap) (locs1 : List Loc), fI G.2.2.1 A H0 (mW G.2.2.2 ad S1) H1 locs1 → W p G.1 e R s m args below meth c H1 locs1 cells slots Q (F0 m (pc + 1) ls (rest))) : W p G.1 e R s m args below meth c H locs cells slots Q (F0 m pc ls (.int x :: .int i :: .ref (ad 13) :: rest)) := fx_iast hx hb hK hI (k := 4) (j := 13) (n := 10) rfl hin (by rw [hS]; exact mU_arr (c := 13) (by decide) (by decide)) hdg kk
theorem lM_15 {i : Int32} (hx : p.tables.exec = Jvm.exec) (hb : c.code = cc) (hK : va_K G.2.2.1 vwCl (TYS G.2.2.2) s) (hI : fI G.2.2.1 A H0 (mW G.2.2.2 ad S) H locs) (hin : vp_in i 20) (hdg : decode cc pc = .ok (.iaload, 1)) (kk : W p G.1 e R s m args below meth c H locs cells slots Q (F0 m (pc + 1) ls (.int (S.1 15 i.toNatClampNeg) :: rest))) : W p G.1 e R s m args below meth c H locs cells slots Q (F0 m pc ls (.int i :: .ref (ad 15) :: rest)) := fx_iald hx hb hK hI (k := 4) (j := 15) (n := 20) rfl hin hdg kk
theorem sM_15 {i x : Int32} (hx : p.tables.exec = Jvm.exec) (hb : c.code = cc) (hK : va_K G.2.2.1 vwCl (TYS G.2.2.2) s) (hI : fI G.2.2.1 A H0 (mW G.2.2.2 ad S) H locs) (hin : vp_in i 20) (hS : S1 = mset S 15 i.toNatClampNeg x) (hdg : decode cc pc = .ok (.iastore, 1)) (kk : ∀ (H1 : Heap) (locs1 : List Loc), fI G.2.2.1 A H0 (mW G.2.2.2 ad S1) H1 locs1 → W p G.1 e R s m args below meth c H1 locs1 cells slots Q (F0 m (pc + 1) ls (rest))) : W p G.1 e R s m args below meth c H locs cells slots Q (F0 m pc ls (.int x :: .int i :: .ref (ad 15) :: rest)) := fx_iast hx hb hK hI (k := 4) (j := 15) (n := 20) rfl hin (by rw [hS]; exact mU_arr (c := 15) (by decide) (by decide)) hdg kk
theorem lM_17 {i : Int32} (hx : p.tables.exec = Jvm.exec) (hb : c.code = cc) (hK : va_K G.2.2.1 vwCl (TYS G.2.2.2) s) (hI : fI G.2.2.1 A H0 (mW G.2.2.2 ad S) H locs) (hin : vp_in i 16) (hdg : decode cc pc = .ok (.iaload, 1)) (kk : W p G.1 e R s m args below meth c H locs cells slots Q (F0 m (pc + 1) ls (.int (S.1 17 i.toNatClampNeg) :: rest))) : W p G.1 e R s m args below meth c H locs cells slots Q (F0 m pc ls (.int i :: .ref (ad 17) :: rest)) := fx_iald hx hb hK hI (k := 4) (j := 17) (n := 16) rfl hin hdg kk
theorem sM_17 {i x : Int32} (hx : p.tables.exec = Jvm.exec) (hb : c.code = cc) (hK : va_K G.2.2.1 vwCl (TYS G.2.2.2) s) (hI : fI G.2.2.1 A H0 (mW G.2.2.2 ad S) H locs) (hin : vp_in i 16) (hS : S1 = mset S 17 i.toNatClampNeg x) (hdg : decode cc pc = .ok (.iastore, 1)) (kk : ∀ (H1 : Heap) (locs1 : List Loc), fI G.2.2.1 A H0 (mW G.2.2.2 ad S1) H1 locs1 → W p G.1 e R s m args below meth c H1 locs1 cells slots Q (F0 m (pc + 1) ls (rest))) : W p G.1 e R s m args below meth c H locs cells slots Q (F0 m pc ls (.int x :: .int i :: .ref (ad 17) :: rest)) := fx_iast hx hb hK hI (k := 4) (j := 17) (n := 16) rfl hin (by rw [hS]; exact mU_arr (c := 17) (by decide) (by decide)) hdg kk
theorem lM_18 {i : Int32} (hx : p.tables.exec = Jvm.exec) (hb : c.code = cc) (hK : va_K G.2.2.1 vwCl (TYS G.2.2.2) s) (hI : fI G.2.2.1 A H0 (mW G.2.2.2 ad S) H locs) (hin : vp_in i 16) (hdg : decode cc pc = .ok (.iaload, 1)) (kk : W p G.1 e R s m args below meth c H locs cells slots Q (F0 m (pc + 1) ls (.int (S.1 18 i.toNatClampNeg) :: rest))) : W p G.1 e R s m args below meth c H locs cells slots Q (F0 m pc ls (.int i :: .ref (ad 18) :: rest)) := fx_iald hx hb hK hI (k := 4) (j := 18) (n := 16) rfl hin hdg kk
theorem sM_18 {i x : Int32} (hx : p.tables.exec = Jvm.exec) (hb : c.code = cc) (hK : va_K G.2.2.1 vwCl (TYS G.2.2.2) s) (hI : fI G.2.2.1 A H0 (mW G.2.2.2 ad S) H locs) (hin : vp_in i 16) (hS : S1 = mset S 18 i.toNatClampNeg x) (hdg : decode cc pc = .ok (.iastore, 1)) (kk : ∀ (H1 : Heap) (locs1 : List Loc), fI G.2.2.1 A H0 (mW G.2.2.2 ad S1) H1 locs1 → W p G.1 e R s m args below meth c H1 locs1 cells slots Q (F0 m (pc + 1) ls (rest))) : W p G.1 e R s m args below meth c H locs cells slots Q (F0 m pc ls (.int x :: .int i :: .ref (ad 18) :: rest)) := fx_iast hx hb hK hI (k := 4) (j := 18) (n := 16) rfl hin (by rw [hS]; exact mU_arr (c := 18) (by decide) (by decide)) hdg kk
theorem lM_19 {i : Int32} (hx : p.tables.exec = Jvm.exec) (hb : c.code = cc) (hK : va_K G.2.2.1 vwCl (TYS G.2.2.2) s) (hI : fI G.2.2.1 A H0 (mW G.2.2.2 ad S) H locs) (hin : vp_in i 16) (hdg : decode cc pc = .ok (.iaload, 1)) (kk : W p G.1 e R s m args below meth c H locs cells slots Q (F0 m (pc + 1) ls (.int (S.1 19 i.toNatClampNeg) :: rest))) : W p G.1 e R s m args below meth c H locs cells slots Q (F0 m pc ls (.int i :: .ref (ad 19) :: rest)) := fx_iald hx hb hK hI (k := 4) (j := 19) (n := 16) rfl hin hdg kk
theorem sM_19 {i x : Int32} (hx : p.tables.exec = Jvm.exec) (hb : c.code = cc) (hK : va_K G.2.2.1 vwCl (TYS G.2.2.2) s) (hI : fI G.2.2.1 A H0 (mW G.2.2.2 ad S) H locs) (hin : vp_in i 16) (hS : S1 = mset S 19 i.toNatClampNeg x) (hdg : decode cc pc = .ok (.iastore, 1)) (kk : ∀ (H1 : Heap) (locs1 : List Loc), fI G.2.2.1 A H0 (mW G.2.2.2 ad S1) H1 locs1 → W p G.1 e R s m args below meth c H1 locs1 cells slots Q (F0 m (pc + 1) ls (rest))) : W p G.1 e R s m args below meth c H locs cells slots Q (F0 m pc ls (.int x :: .int i :: .ref (ad 19) :: rest)) := fx_iast hx hb hK hI (k := 4) (j := 19) (n := 16) rfl hin (by rw [hS]; exact mU_arr (c := 19) (by decide) (by decide)) hdg kk
theorem lM_20 {i : Int32} (hx : p.tables.exec = Jvm.exec) (hb : c.code = cc) (hK : va_K G.2.2.1 vwCl (TYS G.2.2.2) s) (hI : fI G.2.2.1 A H0 (mW G.2.2.2 ad S) H locs) (hin : vp_in i 16) (hdg : decode cc pc = .ok (.iaload, 1)) (kk : W p G.1 e R s m args below meth c H locs cells slots Q (F0 m (pc + 1) ls (.int (S.1 20 i.toNatClampNeg) :: rest))) : W p G.1 e R s m args below meth c H locs cells slots Q (F0 m pc ls (.int i :: .ref (ad 20) :: rest)) := fx_iald hx hb hK hI (k := 4) (j := 20) (n := 16) rfl hin hdg kk
theorem sM_20 {i x : Int32} (hx : p.tables.exec = Jvm.exec) (hb : c.code = cc) (hK : va_K G.2.2.1 vwCl (TYS G.2.2.2) s) (hI : fI G.2.2.1 A H0 (mW G.2.2.2 ad S) H locs) (hin : vp_in i 16) (hS : S1 = mset S 20 i.toNatClampNeg x) (hdg : decode cc pc = .ok (.iastore, 1)) (kk : ∀ (H1 : Heap) (locs1 : List Loc), fI G.2.2.1 A H0 (mW G.2.2.2 ad S1) H1 locs1 → W p G.1 e R s m args below meth c H1 locs1 cells slots Q (F0 m (pc + 1) ls (rest))) : W p G.1 e R s m args below meth c H locs cells slots Q (F0 m pc ls (.int x :: .int i :: .ref (ad 20) :: rest)) := fx_iast hx hb hK hI (k := 4) (j := 20) (n := 16) rfl hin (by rw [hS]; exact mU_arr (c := 20) (by decide) (by decide)) hdg kk
theorem lM_21 {i : Int32} (hx : p.tables.exec = Jvm.exec) (hb : c.code = cc) (hK : va_K G.2.2.1 vwCl (TYS G.2.2.2) s) (hI : fI G.2.2.1 A H0 (mW G.2.2.2 ad S) H locs) (hin : vp_in i 16) (hdg : decode cc pc = .ok (.iaload, 1)) (kk : W p G.1 e R s m args below meth c H locs cells slots Q (F0 m (pc + 1) ls (.int (S.1 21 i.toNatClampNeg) :: rest))) : W p G.1 e R s m args below meth c H locs cells slots Q (F0 m pc ls (.int i :: .ref (ad 21) :: rest)) := fx_iald hx hb hK hI (k := 4) (j := 21) (n := 16) rfl hin hdg kk
theorem sM_21 {i x : Int32} (hx : p.tables.exec = Jvm.exec) (hb : c.code = cc) (hK : va_K G.2.2.1 vwCl (TYS G.2.2.2) s) (hI : fI G.2.2.1 A H0 (mW G.2.2.2 ad S) H locs) (hin : vp_in i 16) (hS : S1 = mset S 21 i.toNatClampNeg x) (hdg : decode cc pc = .ok (.iastore, 1)) (kk : ∀ (H1 : Heap) (locs1 : List Loc), fI G.2.2.1 A H0 (mW G.2.2.2 ad S1) H1 locs1 → W p G.1 e R s m args below meth c H1 locs1 cells slots Q (F0 m (pc + 1) ls (rest))) : W p G.1 e R s m args below meth c H locs cells slots Q (F0 m pc ls (.int x :: .int i :: .ref (ad 21) :: rest)) := fx_iast hx hb hK hI (k := 4) (j := 21) (n := 16) rfl hin (by rw [hS]; exact mU_arr (c := 21) (by decide) (by decide)) hdg kk
theorem lM_23 {i : Int32} (hx : p.tables.exec = Jvm.exec) (hb : c.code = cc) (hK : va_K G.2.2.1 vwCl (TYS G.2.2.2) s) (hI : fI G.2.2.1 A H0 (mW G.2.2.2 ad S) H locs) (hin : vp_in i 16) (hdg : decode cc pc = .ok (.iaload, 1)) (kk : W p G.1 e R s m args below meth c H locs cells slots Q (F0 m (pc + 1) ls (.int (S.1 23 i.toNatClampNeg) :: rest))) : W p G.1 e R s m args below meth c H locs cells slots Q (F0 m pc ls (.int i :: .ref (ad 23) :: rest)) := fx_iald hx hb hK hI (k := 4) (j := 23) (n := 16) rfl hin hdg kk
theorem sM_23 {i x : Int32} (hx : p.tables.exec = Jvm.exec) (hb : c.code = cc) (hK : va_K G.2.2.1 vwCl (TYS G.2.2.2) s) (hI : fI G.2.2.1 A H0 (mW G.2.2.2 ad S) H locs) (hin : vp_in i 16) (hS : S1 = mset S 23 i.toNatClampNeg x) (hdg : decode cc pc = .ok (.iastore, 1)) (kk : ∀ (H1 : Heap) (locs1 : List Loc), fI G.2.2.1 A H0 (mW G.2.2.2 ad S1) H1 locs1 → W p G.1 e R s m args below meth c H1 locs1 cells slots Q (F0 m (pc + 1) ls (rest))) : W p G.1 e R s m args below meth c H locs cells slots Q (F0 m pc ls (.int x :: .int i :: .ref (ad 23) :: rest)) := fx_iast hx hb hK hI (k := 4) (j := 23) (n := 16) rfl hin (by rw [hS]; exact mU_arr (c := 23) (by decide) (by decide)) hdg kk
theorem lM_24 {i : Int32} (hx : p.tables.exec = Jvm.exec) (hb : c.code = cc) (hK : va_K G.2.2.1 vwCl (TYS G.2.2.2) s) (hI : fI G.2.2.1 A H0 (mW G.2.2.2 ad S) H locs) (hin : vp_in i 16) (hdg : decode cc pc = .ok (.iaload, 1)) (kk : W p G.1 e R s m args below meth c H locs cells slots Q (F0 m (pc + 1) ls (.int (S.1 24 i.toNatClampNeg) :: rest))) : W p G.1 e R s m args below meth c H locs cells slots Q (F0 m pc ls (.int i :: .ref (ad 24) :: rest)) := fx_iald hx hb hK hI (k := 4) (j := 24) (n := 16) rfl hin hdg kk
theorem sM_24 {i x : Int32} (hx : p.tables.exec = Jvm.exec) (hb : c.code = cc) (hK : va_K G.2.2.1 vwCl (TYS G.2.2.2) s) (hI : fI G.2.2.1 A H0 (mW G.2.2.2 ad S) H locs) (hin : vp_in i 16) (hS : S1 = mset S 24 i.toNatClampNeg x) (hdg : decode cc pc = .ok (.iastore, 1)) (kk : ∀ (H1 : Heap) (locs1 : List Loc), fI G.2.2.1 A H0 (mW G.2.2.2 ad S1) H1 locs1 → W p G.1 e R s m args below meth c H1 locs1 cells slots Q (F0 m (pc + 1) ls (rest))) : W p G.1 e R s m args below meth c H locs cells slots Q (F0 m pc ls (.int x :: .int i :: .ref (ad 24) :: rest)) := fx_iast hx hb hK hI (k := 4) (j := 24) (n := 16) rfl hin (by rw [hS]; exact mU_arr (c := 24) (by decide) (by decide)) hdg kk
theorem lM_25 {i : Int32} (hx : p.tables.exec = Jvm.exec) (hb : c.code = cc) (hK : va_K G.2.2.1 vwCl (TYS G.2.2.2) s) (hI : fI G.2.2.1 A H0 (mW G.2.2.2 ad S) H locs) (hin : vp_in i 16) (hdg : decode cc pc = .ok (.iaload, 1)) (kk : W p G.1 e R s m args below meth c H locs cells slots Q (F0 m (pc + 1) ls (.int (S.1 25 i.toNatClampNeg) :: rest))) : W p G.1 e R s m args below meth c H locs cells slots Q (F0 m pc ls (.int i :: .ref (ad 25) :: rest)) := fx_iald hx hb hK hI (k := 4) (j := 25) (n := 16) rfl hin hdg kk
theorem sM_25 {i x : Int32} (hx : p.tables.exec = Jvm.exec) (hb : c.code = cc) (hK : va_K G.2.2.1 vwCl (TYS G.2.2.2) s) (hI : fI G.2.2.1 A H0 (mW G.2.2.2 ad S) H locs) (hin : vp_in i 16) (hS : S1 = mset S 25 i.toNatClampNeg x) (hdg : decode cc pc = .ok (.iastore, 1)) (kk : ∀ (H1 : Heap) (locs1 : List Loc), fI G.2.2.1 A H0 (mW G.2.2.2 ad S1) H1 locs1 → W p G.1 e R s m args below meth c H1 locs1 cells slots Q (F0 m (pc + 1) ls (rest))) : W p G.1 e R s m args below meth c H locs cells slots Q (F0 m pc ls (.int x :: .int i :: .ref (ad 25) :: rest)) := fx_iast hx hb hK hI (k := 4) (j := 25) (n := 16) rfl hin (by rw [hS]; exact mU_arr (c := 25) (by decide) (by decide)) hdg kk
theorem lM_26 {i : Int32} (hx : p.tables.exec = Jvm.exec) (hb : c.code = cc) (hK : va_K G.2.2.1 vwCl (TYS G.2.2.2) s) (hI : fI G.2.2.1 A H0 (mW G.2.2.2 ad S) H locs) (hin : vp_in i 3) (hdg : decode cc pc = .ok (.iaload, 1)) (kk : W p G.1 e R s m args below meth c H locs cells slots Q (F0 m (pc + 1) ls (.int (S.1 26 i.toNatClampNeg) :: rest))) : W p G.1 e R s m args below meth c H locs cells slots Q (F0 m pc ls (.int i :: .ref (ad 26) :: rest)) := fx_iald hx hb hK hI (k := 4) (j := 26) (n := 3) rfl hin hdg kk
theorem sM_26 {i x : Int32} (hx : p.tables.exec = Jvm.exec) (hb : c.code = cc) (hK : va_K G.2.2.1 vwCl (TYS G.2.2.2) s) (hI : fI G.2.2.1 A H0 (mW G.2.2.2 ad S) H locs) (hin : vp_in i 3) (hS : S1 = mset S 26 i.toNatClampNeg x) (hdg : decode cc pc = .ok (.iastore, 1)) (kk : ∀ (H1 : Heap) (locs1 : List Loc), fI G.2.2.1 A H0 (mW G.2.2.2 ad S1) H1 locs1 → W p G.1 e R s m args below meth c H1 locs1 cells slots Q (F0 m (pc + 1) ls (rest))) : W p G.1 e R s m args below meth c H locs cells slots Q (F0 m pc ls (.int x :: .int i :: .ref (ad 26) :: rest)) := fx_iast hx hb hK hI (k := 4) (j := 26) (n := 3) rfl hin (by rw [hS]; exact mU_arr (c := 26) (by decide) (by decide)) hdg kk
theorem lM_27 {i : Int32} (hx : p.tables.exec = Jvm.exec) (hb : c.code = cc) (hK : va_K G.2.2.1 vwCl (TYS G.2.2.2) s) (hI : fI G.2.2.1 A H0 (mW G.2.2.2 ad S) H locs) (hin : vp_in i 3) (hdg : decode cc pc = .ok (.iaload, 1)) (kk : W p G.1 e R s m args below meth c H locs cells slots Q (F0 m (pc + 1) ls (.int (S.1 27 i.toNatClampNeg) :: rest))) : W p G.1 e R s m args below meth c H locs cells slots Q (F0 m pc ls (.int i :: .ref (ad 27) :: rest)) := fx_iald hx hb hK hI (k := 4) (j := 27) (n := 3) rfl hin hdg kk
theorem sM_27 {i x : Int32} (hx : p.tables.exec = Jvm.exec) (hb : c.code = cc) (hK : va_K G.2.2.1 vwCl (TYS G.2.2.2) s) (hI : fI G.2.2.1 A H0 (mW G.2.2.2 ad S) H locs) (hin : vp_in i 3) (hS : S1 = mset S 27 i.toNatClampNeg x) (hdg : decode cc pc = .ok (.iastore, 1)) (kk : ∀ (H1 : Heap) (locs1 : List Loc), fI G.2.2.1 A H0 (mW G.2.2.2 ad S1) H1 locs1 → W p G.1 e R s m args below meth c H1 locs1 cells slots Q (F0 m (pc + 1) ls (rest))) : W p G.1 e R s m args below meth c H locs cells slots Q (F0 m pc ls (.int x :: .int i :: .ref (ad 27) :: rest)) := fx_iast hx hb hK hI (k := 4) (j := 27) (n := 3) rfl hin (by rw [hS]; exact mU_arr (c := 27) (by decide) (by decide)) hdg kk
theorem lM_28 {i : Int32} (hx : p.tables.exec = Jvm.exec) (hb : c.code = cc) (hK : va_K G.2.2.1 vwCl (TYS G.2.2.2) s) (hI : fI G.2.2.1 A H0 (mW G.2.2.2 ad S) H locs) (hin : vp_in i 3) (hdg : decode cc pc = .ok (.iaload, 1)) (kk : W p G.1 e R s m args below meth c H locs cells slots Q (F0 m (pc + 1) ls (.int (S.1 28 i.toNatClampNeg) :: rest))) : W p G.1 e R s m args below meth c H locs cells slots Q (F0 m pc ls (.int i :: .ref (ad 28) :: rest)) := fx_iald hx hb hK hI (k := 4) (j := 28) (n := 3) rfl hin hdg kk
theorem sM_28 {i x : Int32} (hx : p.tables.exec = Jvm.exec) (hb : c.code = cc) (hK : va_K G.2.2.1 vwCl (TYS G.2.2.2) s) (hI : fI G.2.2.1 A H0 (mW G.2.2.2 ad S) H locs) (hin : vp_in i 3) (hS : S1 = mset S 28 i.toNatClampNeg x) (hdg : decode cc pc = .ok (.iastore, 1)) (kk : ∀ (H1 : Heap) (locs1 : List Loc), fI G.2.2.1 A H0 (mW G.2.2.2 ad S1) H1 locs1 → W p G.1 e R s m args below meth c H1 locs1 cells slots Q (F0 m (pc + 1) ls (rest))) : W p G.1 e R s m args below meth c H locs cells slots Q (F0 m pc ls (.int x :: .int i :: .ref (ad 28) :: rest)) := fx_iast hx hb hK hI (k := 4) (j := 28) (n := 3) rfl hin (by rw [hS]; exact mU_arr (c := 28) (by decide) (by decide)) hdg kk
theorem lM_22 {i : Int32} (hx : p.tables.exec = Jvm.exec) (hb : c.code = cc) (hK : va_K G.2.2.1 vwCl (TYS G.2.2.2) s) (hI : fI G.2.2.1 A H0 (mW G.2.2.2 ad S) H locs) (hin : vp_in i 16) (hdg : decode cc pc = .ok (.baload, 1)) (kk : W p G.1 e R s m args below meth c H locs cells slots Q (F0 m (pc + 1) ls (.int (S.1 22 i.toNatClampNeg) :: rest))) : W p G.1 e R s m args below meth c H locs cells slots Q (F0 m pc ls (.int i :: .ref (ad 22) :: rest)) := fx_zald hx hb hK hI (k := 4) (j := 22) (n := 16) rfl hin hdg kk
theorem sM_22 {i x : Int32} (hx : p.tables.exec = Jvm.exec) (hb : c.code = cc) (hK : va_K G.2.2.1 vwCl (TYS G.2.2.2) s) (hI : fI G.2.2.1 A H0 (mW G.2.2.2 ad S) H locs) (hin : vp_in i 16) (hnx : vp_nar .boolean x = x) (hS : S1 = mset S 22 i.toNatClampNeg x) (hdg : decode cc pc = .ok (.bastore, 1)) (kk : ∀ (H1 : Heap) (locs1 : List Loc), fI G.2.2.1 A H0 (mW G.2.2.2 ad S1) H1 locs1 → W p G.1 e R s m args below meth c H1 locs1 cells slots Q (F0 m (pc + 1) ls (rest))) : W p G.1 e R s m args below meth c H locs cells slots Q (F0 m pc ls (.int x :: .int i :: .ref (ad 22) :: rest)) := fx_zast hx hb hK hI (k := 4) (j := 22) (n := 16) rfl hin hnx (by rw [hS]; exact mU_arr (c := 22) (by decide) (by decide)) hdg kk
theorem lM_14 {i : Int32} (hx : p.tables.exec = Jvm.exec) (hb : c.code = cc) (hK : va_K G.2.2.1 vwCl (TYS G.2.2.2) s) (hI : fI G.2.2.1 A H0 (mW G.2.2.2 ad S) H locs) (hin : vp_in i 10) (hdg : decode cc pc = .ok (.daload, 1)) (kk : W p G.1 e R s m args below meth c H locs cells slots Q (F0 m (pc + 1) ls (.double (S.2 i.toNatClampNeg).1 :: rest))) : W p G.1 e R s m args below meth c H locs cells slots Q (F0 m pc ls (.int i :: .ref (ad 14) :: rest)) := fx_dald hx hb hK hI (k := 4) (j := 14) (n := 10) rfl hin hdg kk
theorem sM_14 {i : Int32} {x : NN} (hx : p.tables.exec = Jvm.exec) (hb : c.code = cc) (hK : va_K G.2.2.1 vwCl (TYS G.2.2.2) s) (hI : fI G.2.2.1 A H0 (mW G.2.2.2 ad S) H locs) (hin : vp_in i 10) (hS : S1 = mkset S i.toNatClampNeg x) (hdg : decode cc pc = .ok (.dastore, 1)) (kk : ∀ (H1 : Heap) (locs1 : List Loc), fI G.2.2.1 A H0 (mW G.2.2.2 ad S1) H1 locs1 → W p G.1 e R s m args below meth c H1 locs1 cells slots Q (F0 m (pc + 1) ls (rest))) : W p G.1 e R s m args below meth c H locs cells slots Q (F0 m pc ls (.double x.1 :: .int i :: .ref (ad 14) :: rest)) := fx_dast hx hb hK hI (k := 4) (j := 14) (n := 10) rfl hin (by rw [hS]; exact mU_kn) hdg kk
end MROWS
end
section
theorem kM_94 : CkS RX4 94 yX4_isIn cX4_isIn 3 (some .boolean) 3 := ⟨q860, q858, q859, q5, by decide +kernel⟩
theorem kM_101 : CkV RX4 101 yX4_fails cX4_fails 2 (some .boolean) 1 := ⟨q864, q861, q863, qp18, q5, by decide +kernel⟩
theorem kM_109 : CkV RX4 109 yX4_isPiece cX4_isPiece 2 (some .boolean) 1 := ⟨q881, q878, q880, qp19, q5, by decide +kernel⟩
theorem kM_112 : CkV RX4 112 yX4_isWater cX4_isWater 2 (some .boolean) 1 := ⟨q889, q886, q888, qp20, q5, by decide +kernel⟩
theorem kM_117 : CkV RX4 117 yX4_thick cX4_thick 2 (some .double) 1 := ⟨q897, q894, q896, qp21, q5, by decide +kernel⟩
theorem kM_123 : CkV RX4 123 yX4_isVehicle cX4_isVehicle 2 (some .boolean) 1 := ⟨q924, q921, q923, qp22, q5, by decide +kernel⟩
theorem kM_126 : CkS RX4 126 yX4_isGoods cX4_isGoods 1 (some .boolean) 1 := ⟨q927, q925, q926, q5, by decide +kernel⟩
theorem kM_129 : CkV RX4 129 yX4_weight cX4_weight 2 (some .int) 1 := ⟨q931, q928, q930, qp23, q5, by decide +kernel⟩
theorem kM_137 : CkV RX4 137 yX4_isThere cX4_isThere 2 (some .boolean) 1 := ⟨q943, q940, q942, qp24, q5, by decide +kernel⟩
theorem kM_140 : CkV RX4 140 yX4_arrives cX4_arrives 2 none 1 := ⟨q947, q944, q946, qp25, q5, by decide +kernel⟩
theorem kM_133 : CkV RX4 133 yX4_unloads cX4_unloads 3 none 2 := ⟨q951, q948, q950, qp26, q5, by decide +kernel⟩
theorem kM_197 : CkV RX4 197 yX4_passes cX4_passes 2 none 0 := ⟨q966, q963, q965, qp27, q5, by decide +kernel⟩
theorem kM_184 : CkV RX4 184 yX4_ends cX4_ends 2 none 0 := ⟨q970, q967, q969, qp28, q5, by decide +kernel⟩
theorem kM_146 : CkV RX4 146 yX4_freezes cX4_freezes 4 none 1 := ⟨q974, q971, q973, qp29, q5, by decide +kernel⟩
theorem kM_149 : CkV RX4 149 yX4_thaws cX4_thaws 8 none 1 := ⟨q978, q975, q977, qp30, q5, by decide +kernel⟩
theorem kM_187 : CkV RX4 187 yX4_leaves cX4_leaves 4 none 1 := ⟨q982, q979, q981, qp31, q5, by decide +kernel⟩
theorem kM_190 : CkV RX4 190 yX4_against cX4_against 3 (some .int) 1 := ⟨q986, q983, q985, qp32, q5, by decide +kernel⟩
theorem kM_164 : CkV RX4 164 yX4_nextPiece cX4_nextPiece 2 (some .int) 1 := ⟨q990, q987, q989, qp33, q5, by decide +kernel⟩
theorem kM_170 : CkV RX4 170 yX4_isMet cX4_isMet 5 (some .boolean) 2 := ⟨q994, q991, q993, qp34, q5, by decide +kernel⟩
theorem kM_174 : CkV RX4 174 yX4_weights cX4_weights 4 (some .int) 1 := ⟨q998, q995, q997, qp35, q5, by decide +kernel⟩
theorem kM_177 : CkV RX4 177 yX4_bearsBy cX4_bearsBy 4 (some .int) 2 := ⟨q1002, q999, q1001, qp36, q5, by decide +kernel⟩
theorem kM_193 : CkV RX4 193 yX4_comes cX4_comes 4 none 1 := ⟨q1008, q1005, q1007, qp37, q5, by decide +kernel⟩
theorem kM_181 : CkV RX4 181 yX4_minutesOn cX4_minutesOn 4 (some .int) 2 := ⟨q1012, q1009, q1011, qp38, q5, by decide +kernel⟩
theorem kM_160 : CkV RX4 160 yX4_speedOn cX4_speedOn 10 (some .int) 2 := ⟨q1016, q1013, q1015, qp39, q5, by decide +kernel⟩
theorem kM_200 : CkV RX4 200 yX4_many cX4_many 4 (some .int) 1 := ⟨q1030, q1027, q1029, qp40, q5, by decide +kernel⟩
theorem kM_203 : CkV RX4 203 yX4_minutes cX4_minutes 3 (some .int) 2 := ⟨q1054, q1059, q1052, q1053, q5, by decide +kernel⟩
theorem kM_206 : CkV RX4 206 yX4_missing cX4_missing 2 (some .int) 1 := ⟨q1067, q1064, q1066, qp41, q5, by decide +kernel⟩
theorem kM_209 : CkV RX4 209 yX4_carried cX4_carried 5 (some .int) 2 := ⟨q1071, q1068, q1070, qp42, q5, by decide +kernel⟩

def M_thrown (S : MS) : Int32 :=
  S.1 29 0
set_option maxHeartbeats 4000000 in
set_option maxRecDepth 100000 in
theorem cM_thrown (G : GX) (ad : Nat → Nat) (S : MS) : FC G yX4_thrown cX4_thrown 1 (some .int) ({ frames := 0, cells := 0, slots := 0, locals := 0 }) [.ref (ad 0)] (mW G.2.2.2 ad S) (pv (.int (M_thrown S)) (mW G.2.2.2 ad S)) := by
  refine FC.go (lv := [(0, .ref (ad 0))]) (by decide) (Nat.le_of_ble_eq_true rfl) rfl (fun p e s m args below meth c A H locs ls Q hx hb hr hts hown hml hlocks hnm hK hE hI hA hl hQ => ?_)
  have hown : s.vm.findClass RX4 = some m.cls := hown
  refine lv_aload_n hx hb dX4_thrown_0 rfl (lv_at hl 0 rfl) ?_
  refine gM_88 hx hb hts hown hK hI dX4_thrown_1 ?_
  have HE : M_thrown S = S.1 29 0 := by exact rfl
  exact rt_i hx hb hr hlocks hI hA hQ ⟨by rw [HE], rfl⟩ (Nat.zero_le _) (Nat.zero_le _) dX4_thrown_4

def M_fails (S : MS) (uk : Int32) : Int32 × MS :=
  let S1 := mset S 29 0 uk
  (bI (¬ (uk ≤ 0)), S1)
set_option maxHeartbeats 4000000 in
set_option maxRecDepth 100000 in
theorem cM_fails (G : GX) (ad : Nat → Nat) (S : MS) (uk : Int32) : FC G yX4_fails cX4_fails 2 (some .boolean) ({ frames := 0, cells := 0, slots := 0, locals := 0 }) [.ref (ad 0), .int uk] (mW G.2.2.2 ad S) (pv (.int (M_fails S uk).1) (mW G.2.2.2 ad (M_fails S uk).2)) := by
  refine FC.go (lv := [(0, .ref (ad 0)), (1, .int uk)]) (by decide) (Nat.le_of_ble_eq_true rfl) rfl (fun p e s m args below meth c A H locs ls Q hx hb hr hts hown hml hlocks hnm hK hE hI hA hl hQ => ?_)
  have hown : s.vm.findClass RX4 = some m.cls := hown
  refine lv_aload_n hx hb dX4_fails_0 rfl (lv_at hl 0 rfl) ?_
  refine lv_iload_n hx hb dX4_fails_1 rfl (lv_at hl 1 rfl) ?_
  obtain ⟨S1, eS1⟩ : ∃ z : MS, z = mset S 29 0 uk := ⟨_, rfl⟩
  refine pM_88 hx hb hts hown hK hI eS1 dX4_fails_2 (fun H locs hI => ?_)
  refine lv_iload_n hx hb dX4_fails_5 rfl (lv_at hl 1 rfl) ?_
  have hJ2 : W p G.1 e ({ frames := 0, cells := 0, slots := 0, locals := 0 }) s m args below meth c H locs 0 0 Q (F0 m 14 ls [.int (bI (¬ (uk ≤ 0)))]) := by
    have HE : M_fails S uk = (bI (¬ (uk ≤ 0)), S1) := by subst eS1; exact rfl
    exact rt_z hx hb hr hlocks bI_narrow hI hA hQ ⟨by rw [HE], by rw [HE]⟩ (Nat.zero_le _) (Nat.zero_le _) dX4_fails_14
  refine lv_if_le (tgt := 13) hx hb dX4_fails_6 (by decide) (fun c3 => ?_) (fun c3 => ?_)
  · refine lv_iconst (v := 0) hx hb dX4_fails_13 (by decide) ?_
    have eb4 : (0 : Int32) = bI (¬ (uk ≤ 0)) := (bI_f (fun k => k c3)).symm
    rw [eb4]
    exact hJ2
  · refine lv_iconst (v := 1) hx hb dX4_fails_9 (by decide) ?_
    refine lv_goto (tgt := 14) hx hb dX4_fails_10 (by decide) ?_
    have eb5 : (1 : Int32) = bI (¬ (uk ≤ 0)) := (bI_t c3).symm
    rw [eb5]
    exact hJ2

theorem cM_fails0 (G : GX) (ad : Nat → Nat) (S : MS) : FC G yX4_fails cX4_fails 2 (some .boolean) ({ frames := 0, cells := 0, slots := 0, locals := 0 }) [.ref (ad 0), .int 0] (mW G.2.2.2 ad S) (pv (.int 0) (mW G.2.2.2 ad (mset S 29 0 0))) := by
  have h := cM_fails G ad S 0
  have e : (M_fails S 0).1 = 0 := by show bI (¬ ((0 : Int32) ≤ 0)) = _; exact bI_f (by decide)
  rw [e] at h
  exact h
theorem cM_fails1 (G : GX) (ad : Nat → Nat) (S : MS) : FC G yX4_fails cX4_fails 2 (some .boolean) ({ frames := 0, cells := 0, slots := 0, locals := 0 }) [.ref (ad 0), .int 1] (mW G.2.2.2 ad S) (pv (.int 1) (mW G.2.2.2 ad (mset S 29 0 1))) := by
  have h := cM_fails G ad S 1
  have e : (M_fails S 1).1 = 1 := by show bI (¬ ((1 : Int32) ≤ 0)) = _; exact bI_t (by decide)
  rw [e] at h
  exact h
theorem cM_fails2 (G : GX) (ad : Nat → Nat) (S : MS) : FC G yX4_fails cX4_fails 2 (some .boolean) ({ frames := 0, cells := 0, slots := 0, locals := 0 }) [.ref (ad 0), .int 2] (mW G.2.2.2 ad S) (pv (.int 1) (mW G.2.2.2 ad (mset S 29 0 2))) := by
  have h := cM_fails G ad S 2
  have e : (M_fails S 2).1 = 1 := by show bI (¬ ((2 : Int32) ≤ 0)) = _; exact bI_t (by decide)
  rw [e] at h
  exact h
theorem cM_fails3 (G : GX) (ad : Nat → Nat) (S : MS) : FC G yX4_fails cX4_fails 2 (some .boolean) ({ frames := 0, cells := 0, slots := 0, locals := 0 }) [.ref (ad 0), .int 3] (mW G.2.2.2 ad S) (pv (.int 1) (mW G.2.2.2 ad (mset S 29 0 3))) := by
  have h := cM_fails G ad S 3
  have e : (M_fails S 3).1 = 1 := by show bI (¬ ((3 : Int32) ≤ 0)) = _; exact bI_t (by decide)
  rw [e] at h
  exact h
abbrev M_isIn (S : MS) (uv : Int32) (ua : Int32) (ub : Int32) : Prop :=
  (¬ (uv < ua)) ∧ (¬ (ub < uv))
set_option maxHeartbeats 4000000 in
set_option maxRecDepth 100000 in
theorem cM_isIn (G : GX) (ad : Nat → Nat) (S : MS) (uv : Int32) (ua : Int32) (ub : Int32) : FC G yX4_isIn cX4_isIn 3 (some .boolean) ({ frames := 0, cells := 0, slots := 0, locals := 0 }) [.int uv, .int ua, .int ub] (mW G.2.2.2 ad S) (pv (.int (bI (M_isIn S uv ua ub))) (mW G.2.2.2 ad S)) := by
  refine FC.go (lv := [(0, .int uv), (1, .int ua), (2, .int ub)]) (by decide) (Nat.le_of_ble_eq_true rfl) rfl (fun p e s m args below meth c A H locs ls Q hx hb hr hts hown hml hlocks hnm hK hE hI hA hl hQ => ?_)
  have hown : s.vm.findClass RX4 = some m.cls := hown
  refine lv_iload_n hx hb dX4_isIn_0 rfl (lv_at hl 0 rfl) ?_
  refine lv_iload_n hx hb dX4_isIn_1 rfl (lv_at hl 1 rfl) ?_
  have hJ1 : W p G.1 e ({ frames := 0, cells := 0, slots := 0, locals := 0 }) s m args below meth c H locs 0 0 Q (F0 m 15 ls [.int (bI ((¬ (uv < ua)) ∧ (¬ (ub < uv))))]) := by
    exact rt_z hx hb hr hlocks bI_narrow hI hA hQ ⟨rfl, rfl⟩ (Nat.zero_le _) (Nat.zero_le _) dX4_isIn_15
  refine lv_icmp_lt (tgt := 14) hx hb dX4_isIn_2 (by decide) (fun c2 => ?_) (fun c2 => ?_)
  · refine lv_iconst (v := 0) hx hb dX4_isIn_14 (by decide) ?_
    have eb3 : (0 : Int32) = bI ((¬ (uv < ua)) ∧ (¬ (ub < uv))) := (bI_f (fun k => k.1 c2)).symm
    rw [eb3]
    exact hJ1
  · refine lv_iload_n hx hb dX4_isIn_5 rfl (lv_at hl 0 rfl) ?_
    refine lv_iload_n hx hb dX4_isIn_6 rfl (lv_at hl 2 rfl) ?_
    refine lv_icmp_gt (tgt := 14) hx hb dX4_isIn_7 (by decide) (fun c4 => ?_) (fun c4 => ?_)
    · refine lv_iconst (v := 0) hx hb dX4_isIn_14 (by decide) ?_
      have eb5 : (0 : Int32) = bI ((¬ (uv < ua)) ∧ (¬ (ub < uv))) := (bI_f (fun k => (fun k => k c4) k.2)).symm
      rw [eb5]
      exact hJ1
    · refine lv_iconst (v := 1) hx hb dX4_isIn_10 (by decide) ?_
      refine lv_goto (tgt := 15) hx hb dX4_isIn_11 (by decide) ?_
      have eb6 : (1 : Int32) = bI ((¬ (uv < ua)) ∧ (¬ (ub < uv))) := (bI_t ⟨c2, c4⟩).symm
      rw [eb6]
      exact hJ1

abbrev M_isPiece (S : MS) (up : Int32) : Prop :=
  M_isIn S up 0 ((S.1 3 0) - 1)
set_option maxHeartbeats 4000000 in
set_option maxRecDepth 100000 in
theorem cM_isPiece (G : GX) (ad : Nat → Nat) (S : MS) (up : Int32) : FC G yX4_isPiece cX4_isPiece 2 (some .boolean) ({ frames := 1, cells := 0, slots := 0, locals := 22 }) [.ref (ad 0), .int up] (mW G.2.2.2 ad S) (pv (.int (bI (M_isPiece S up))) (mW G.2.2.2 ad S)) := by
  refine FC.go (lv := [(0, .ref (ad 0)), (1, .int up)]) (by decide) (Nat.le_of_ble_eq_true rfl) rfl (fun p e s m args below meth c A H locs ls Q hx hb hr hts hown hml hlocks hnm hK hE hI hA hl hQ => ?_)
  have hown : s.vm.findClass RX4 = some m.cls := hown
  refine lv_iload_n hx hb dX4_isPiece_0 rfl (lv_at hl 1 rfl) ?_
  refine lv_iconst (v := 0) hx hb dX4_isPiece_1 (by decide) ?_
  refine lv_aload_n hx hb dX4_isPiece_2 rfl (lv_at hl 0 rfl) ?_
  refine gM_91 hx hb hts hown hK hI dX4_isPiece_3 ?_
  refine lv_iconst (v := 1) hx hb dX4_isPiece_6 (by decide) ?_
  refine lv_isub hx hb dX4_isPiece_7 ?_
  refine cSv (rest := []) hx hb hml hts hown hK hE hI (cM_isIn G ad S up 0 ((S.1 3 0) - 1)) kM_94 ⟨Nat.le_of_ble_eq_true rfl, Nat.le_of_ble_eq_true rfl⟩ rfl rfl hl.1 rfl (Nat.le_of_ble_eq_true rfl) dX4_isPiece_8 ⟨Nat.zero_le _, Nat.zero_le _⟩ (fun H locs hI => ?_)
  exact rt_z hx hb hr hlocks bI_narrow hI hA hQ ⟨rfl, rfl⟩ (Nat.zero_le _) (Nat.zero_le _) dX4_isPiece_11

abbrev M_isVehicle (S : MS) (uv : Int32) : Prop :=
  M_isIn S uv 0 ((S.1 16 0) - 1)
set_option maxHeartbeats 4000000 in
set_option maxRecDepth 100000 in
theorem cM_isVehicle (G : GX) (ad : Nat → Nat) (S : MS) (uv : Int32) : FC G yX4_isVehicle cX4_isVehicle 2 (some .boolean) ({ frames := 1, cells := 0, slots := 0, locals := 22 }) [.ref (ad 0), .int uv] (mW G.2.2.2 ad S) (pv (.int (bI (M_isVehicle S uv))) (mW G.2.2.2 ad S)) := by
  refine FC.go (lv := [(0, .ref (ad 0)), (1, .int uv)]) (by decide) (Nat.le_of_ble_eq_true rfl) rfl (fun p e s m args below meth c A H locs ls Q hx hb hr hts hown hml hlocks hnm hK hE hI hA hl hQ => ?_)
  have hown : s.vm.findClass RX4 = some m.cls := hown
  refine lv_iload_n hx hb dX4_isVehicle_0 rfl (lv_at hl 1 rfl) ?_
  refine lv_iconst (v := 0) hx hb dX4_isVehicle_1 (by decide) ?_
  refine lv_aload_n hx hb dX4_isVehicle_2 rfl (lv_at hl 0 rfl) ?_
  refine gM_98 hx hb hts hown hK hI dX4_isVehicle_3 ?_
  refine lv_iconst (v := 1) hx hb dX4_isVehicle_6 (by decide) ?_
  refine lv_isub hx hb dX4_isVehicle_7 ?_
  refine cSv (rest := []) hx hb hml hts hown hK hE hI (cM_isIn G ad S uv 0 ((S.1 16 0) - 1)) kM_94 ⟨Nat.le_of_ble_eq_true rfl, Nat.le_of_ble_eq_true rfl⟩ rfl rfl hl.1 rfl (Nat.le_of_ble_eq_true rfl) dX4_isVehicle_8 ⟨Nat.zero_le _, Nat.zero_le _⟩ (fun H locs hI => ?_)
  exact rt_z hx hb hr hlocks bI_narrow hI hA hQ ⟨rfl, rfl⟩ (Nat.zero_le _) (Nat.zero_le _) dX4_isVehicle_11

abbrev M_isGoods (S : MS) (ug : Int32) : Prop :=
  M_isIn S ug 0 2
set_option maxHeartbeats 4000000 in
set_option maxRecDepth 100000 in
theorem cM_isGoods (G : GX) (ad : Nat → Nat) (S : MS) (ug : Int32) : FC G yX4_isGoods cX4_isGoods 1 (some .boolean) ({ frames := 1, cells := 0, slots := 0, locals := 22 }) [.int ug] (mW G.2.2.2 ad S) (pv (.int (bI (M_isGoods S ug))) (mW G.2.2.2 ad S)) := by
  refine FC.go (lv := [(0, .int ug)]) (by decide) (Nat.le_of_ble_eq_true rfl) rfl (fun p e s m args below meth c A H locs ls Q hx hb hr hts hown hml hlocks hnm hK hE hI hA hl hQ => ?_)
  have hown : s.vm.findClass RX4 = some m.cls := hown
  refine lv_iload_n hx hb dX4_isGoods_0 rfl (lv_at hl 0 rfl) ?_
  refine lv_iconst (v := 0) hx hb dX4_isGoods_1 (by decide) ?_
  refine lv_iconst (v := 2) hx hb dX4_isGoods_2 (by decide) ?_
  refine cSv (rest := []) hx hb hml hts hown hK hE hI (cM_isIn G ad S ug 0 2) kM_94 ⟨Nat.le_of_ble_eq_true rfl, Nat.le_of_ble_eq_true rfl⟩ rfl rfl hl.1 rfl (Nat.le_of_ble_eq_true rfl) dX4_isGoods_3 ⟨Nat.zero_le _, Nat.zero_le _⟩ (fun H locs hI => ?_)
  exact rt_z hx hb hr hlocks bI_narrow hI hA hQ ⟨rfl, rfl⟩ (Nat.zero_le _) (Nat.zero_le _) dX4_isGoods_6

def MNn (S : MS) (np nv : Nat) : Prop := S.1 3 0 = nI np ∧ np ≤ 10 ∧ S.1 16 0 = nI nv ∧ nv ≤ 16
theorem MNn_set {S S1 : MS} {np nv k j : Nat} {v : Int32} (h : MNn S np nv) (h3 : k ≠ 3) (h16 : k ≠ 16) (e : S1 = mset S k j v) : MNn S1 np nv := by
  subst e
  unfold MNn
  rw [mset_k (fun z => h3 z.symm), mset_k (fun z => h16 z.symm)]
  exact h
theorem MNn_kn {S S1 : MS} {np nv j : Nat} {v : NN} (h : MNn S np nv) (e : S1 = mkset S j v) : MNn S1 np nv := by
  subst e
  exact h
theorem cnt_in {x : Int32} {n N : Nat} (hn : n ≤ N) (hN : N < 1000) (h : (¬ x < 0) ∧ ¬ nI n - 1 < x) : vp_in x N := by
  obtain ⟨h0, h1⟩ := h
  rw [vp_in_iff]
  rw [Int32.lt_iff_toInt_lt, Int32.toInt_zero] at h0
  cases n with
  | zero =>
    rw [Int32.lt_iff_toInt_lt] at h1
    have e : (nI 0 - 1).toInt = -1 := by decide
    omega
  | succ k =>
    rw [nI_pred, Int32.lt_iff_toInt_lt, nI_toInt (by omega)] at h1
    omega
theorem isPiece_in {S : MS} {np nv : Nat} {p : Int32} (h : MNn S np nv) (hp : M_isPiece S p) : vp_in p 10 := cnt_in h.2.1 (by decide) (by rw [← h.1]; exact hp)
theorem isVehicle_in {S : MS} {np nv : Nat} {p : Int32} (h : MNn S np nv) (hp : M_isVehicle S p) : vp_in p 16 := cnt_in h.2.2.2 (by decide) (by rw [← h.2.2.1]; exact hp)
theorem isGoods_in {S : MS} {g : Int32} (h : M_isGoods S g) : vp_in g 3 := cnt_in (n := 3) (Nat.le_refl _) (by decide) h
def GI (S : MS) : Prop := ∀ j : Nat, ¬ (S.1 24 j ≤ 0) → vp_in (S.1 25 j) 3
theorem GI_set {S S1 : MS} {k j : Nat} {v : Int32} (h : GI S) (h3 : k ≠ 24) (h16 : k ≠ 25) (e : S1 = mset S k j v) : GI S1 := by
  subst e
  intro i
  rw [mset_k (fun z => h3 z.symm), mset_k (fun z => h16 z.symm)]
  exact h i
theorem fz_den {S S1 S2 : MS} {j : Nat} {x : Int32} (e1 : S1 = mset S 9 j (S.1 9 j - x)) (e2 : S2 = mset S1 8 j (S1.1 8 j + x)) (h : ¬ (((S.1 7 j + (S.1 8 j + x)) + 4 * S.1 10 j) + 50 = 0)) : ¬ (((S2.1 7 j + S2.1 8 j) + 4 * S2.1 10 j) + 50 = 0) := by
  subst e1
  subst e2
  rw [mset_s, mset_k (k' := 7) (by decide), mset_k (k' := 7) (by decide), mset_k (k' := 10) (by decide), mset_k (k' := 10) (by decide), mset_k (k' := 8) (by decide)]
  exact h
theorem nI_two (n : Nat) : 2 * nI n = nI (2 * n) := by
  rw [show (2 : Int32) = nI 2 from rfl]; exact (Int32.ofNat_mul 2 n).symm
theorem came_in {p x : Int32} {c : Prop} [Decidable c] (hp : vp_in p 10) (h : x = if c then 0 else 1) : vp_in (2 * p + x) 20 := by
  obtain ⟨j, hj, rfl⟩ := vp_in_of hp (by decide)
  rw [nI_two, h]
  split
  · rw [show (0 : Int32) = nI 0 from rfl, nI_add]; exact vp_in_nI (by omega) (by decide)
  · rw [nI_1]; exact vp_in_nI (by omega) (by decide)
theorem np_lt {S : MS} {np nv : Nat} (h : MNn S np nv) (hn : ¬ S.1 3 0 = 10) : np < 10 := by
  rcases Nat.lt_or_ge np 10 with k | k
  · exact k
  · exact absurd (by rw [h.1, show np = 10 from Nat.le_antisymm h.2.1 k]; rfl) hn
theorem nv_lt {S : MS} {np nv : Nat} (h : MNn S np nv) (hn : ¬ S.1 16 0 = 16) : nv < 16 := by
  rcases Nat.lt_or_ge nv 16 with k | k
  · exact k
  · exact absurd (by rw [h.2.2.1, show nv = 16 from Nat.le_antisymm h.2.2.2 k]; rfl) hn
theorem pc_in {S : MS} {np nv : Nat} (h : MNn S np nv) (hl : np < 10) : vp_in (S.1 3 0) 10 := by
  rw [h.1]; exact vp_in_nI hl (by decide)
theorem pc_in2 {S : MS} {np nv : Nat} (h : MNn S np nv) (hl : np < 10) : vp_in (2 * S.1 3 0) 20 := by
  rw [h.1, nI_two]; exact vp_in_nI (by omega) (by decide)
theorem pc_in3 {S : MS} {np nv : Nat} (h : MNn S np nv) (hl : np < 10) : vp_in (2 * S.1 3 0 + 1) 20 := by
  rw [h.1, nI_two, nI_1]; exact vp_in_nI (by omega) (by decide)
theorem vc_in {S : MS} {np nv : Nat} (h : MNn S np nv) (hl : nv < 16) : vp_in (S.1 16 0) 16 := by
  rw [h.2.2.1]; exact vp_in_nI hl (by decide)
theorem sw_out7 {x : Int32} (h0 : ¬ x = 0) (h1 : ¬ x = 1) (h2 : ¬ x = 2) (h3 : ¬ x = 3) (h4 : ¬ x = 4) (h5 : ¬ x = 5) (h6 : ¬ x = 6) : x.toInt < 0 ∨ 6 < x.toInt := by
  rw [← Int32.toInt_inj] at h0 h1 h2 h3 h4 h5 h6
  have e0 : (0 : Int32).toInt = 0 := by decide
  have e1 : (1 : Int32).toInt = 1 := by decide
  have e2 : (2 : Int32).toInt = 2 := by decide
  have e3 : (3 : Int32).toInt = 3 := by decide
  have e4 : (4 : Int32).toInt = 4 := by decide
  have e5 : (5 : Int32).toInt = 5 := by decide
  have e6 : (6 : Int32).toInt = 6 := by decide
  omega
theorem sw_out6 {x : Int32} (h0 : ¬ x = 0) (h1 : ¬ x = 1) (h2 : ¬ x = 2) (h3 : ¬ x = 3) (h4 : ¬ x = 4) (h5 : ¬ x = 5) : x.toInt < 0 ∨ 5 < x.toInt := by
  rw [← Int32.toInt_inj] at h0 h1 h2 h3 h4 h5
  have e0 : (0 : Int32).toInt = 0 := by decide
  have e1 : (1 : Int32).toInt = 1 := by decide
  have e2 : (2 : Int32).toInt = 2 := by decide
  have e3 : (3 : Int32).toInt = 3 := by decide
  have e4 : (4 : Int32).toInt = 4 := by decide
  have e5 : (5 : Int32).toInt = 5 := by decide
  omega
abbrev M_isWater (S : MS) (up : Int32) : Prop :=
  ¬ ((S.1 4 up.toNatClampNeg) = 2)
set_option maxHeartbeats 4000000 in
set_option maxRecDepth 100000 in
theorem cM_isWater (G : GX) (ad : Nat → Nat) (S : MS) (up : Int32) (hp : vp_in up 10) : FC G yX4_isWater cX4_isWater 2 (some .boolean) ({ frames := 0, cells := 0, slots := 0, locals := 0 }) [.ref (ad 0), .int up] (mW G.2.2.2 ad S) (pv (.int (bI (M_isWater S up))) (mW G.2.2.2 ad S)) := by
  refine FC.go (lv := [(0, .ref (ad 0)), (1, .int up)]) (by decide) (Nat.le_of_ble_eq_true rfl) rfl (fun p e s m args below meth c A H locs ls Q hx hb hr hts hown hml hlocks hnm hK hE hI hA hl hQ => ?_)
  have hown : s.vm.findClass RX4 = some m.cls := hown
  refine lv_aload_n hx hb dX4_isWater_0 rfl (lv_at hl 0 rfl) ?_
  refine gM_13 hx hb hts hown hK hI dX4_isWater_1 ?_
  refine lv_iload_n hx hb dX4_isWater_4 rfl (lv_at hl 1 rfl) ?_
  refine lM_4 hx hb hK hI hp dX4_isWater_5 ?_
  refine lv_iconst (v := 2) hx hb dX4_isWater_6 (by decide) ?_
  have hJ1 : W p G.1 e ({ frames := 0, cells := 0, slots := 0, locals := 0 }) s m args below meth c H locs 0 0 Q (F0 m 15 ls [.int (bI (¬ ((S.1 4 up.toNatClampNeg) = 2)))]) := by
    exact rt_z hx hb hr hlocks bI_narrow hI hA hQ ⟨rfl, rfl⟩ (Nat.zero_le _) (Nat.zero_le _) dX4_isWater_15
  refine lv_icmp_eq (tgt := 14) hx hb dX4_isWater_7 (by decide) (fun c2 => ?_) (fun c2 => ?_)
  · refine lv_iconst (v := 0) hx hb dX4_isWater_14 (by decide) ?_
    have eb3 : (0 : Int32) = bI (¬ ((S.1 4 up.toNatClampNeg) = 2)) := (bI_f (fun k => k c2)).symm
    rw [eb3]
    exact hJ1
  · refine lv_iconst (v := 1) hx hb dX4_isWater_10 (by decide) ?_
    refine lv_goto (tgt := 15) hx hb dX4_isWater_11 (by decide) ?_
    have eb4 : (1 : Int32) = bI (¬ ((S.1 4 up.toNatClampNeg) = 2)) := (bI_t c2).symm
    rw [eb4]
    exact hJ1

def M_weather (S : MS) (uk : Int32) : Int32 × MS :=
  if M_isIn S uk (-20) 60 then
    let S3 := mset S 29 0 0
    let S4 := mset S3 1 0 uk
    (S3.1 1 0, S4)
  else
    let S2 := mset S 29 0 1
    (0, S2)
set_option maxHeartbeats 4000000 in
set_option maxRecDepth 100000 in
theorem cM_weather (G : GX) (ad : Nat → Nat) (S : MS) (uk : Int32) : FC G yX4_weather cX4_weather 3 (some .int) ({ frames := 1, cells := 0, slots := 0, locals := 22 }) [.ref (ad 0), .int uk] (mW G.2.2.2 ad S) (pv (.int (M_weather S uk).1) (mW G.2.2.2 ad (M_weather S uk).2)) := by
  refine FC.go (lv := [(0, .ref (ad 0)), (1, .int uk)]) (by decide) (Nat.le_of_ble_eq_true rfl) rfl (fun p e s m args below meth c A H locs ls Q hx hb hr hts hown hml hlocks hnm hK hE hI hA hl hQ => ?_)
  have hown : s.vm.findClass RX4 = some m.cls := hown
  refine lv_aload_n hx hb dX4_weather_0 rfl (lv_at hl 0 rfl) ?_
  refine lv_iload_n hx hb dX4_weather_1 rfl (lv_at hl 1 rfl) ?_
  refine lv_bipush (v := -20) hx hb dX4_weather_2 (by decide) ?_
  refine lv_bipush (v := 60) hx hb dX4_weather_4 (by decide) ?_
  refine cSv (rest := [.ref (ad 0)]) hx hb hml hts hown hK hE hI (cM_isIn G ad S uk (-20) 60) kM_94 ⟨Nat.le_of_ble_eq_true rfl, Nat.le_of_ble_eq_true rfl⟩ rfl rfl hl.1 rfl (Nat.le_of_ble_eq_true rfl) dX4_weather_6 ⟨Nat.zero_le _, Nat.zero_le _⟩ (fun H locs hI => ?_)
  refine xb_eq (tgt := 16) hx hb dX4_weather_9 (by decide) (fun c1 => ?_) (fun c1 => ?_)
  · refine lv_iconst (v := 1) hx hb dX4_weather_16 (by decide) ?_
    obtain ⟨S2, eS2⟩ : ∃ z : MS, z = mset S 29 0 1 := ⟨_, rfl⟩
    refine cVv (rest := []) hx hb hml hts hown hK hE hI (cM_fails1 G ad S) kM_101 ⟨Nat.le_of_ble_eq_true rfl, Nat.le_of_ble_eq_true rfl⟩ rfl rfl (kk := 4) (ii := 0) rfl rfl rfl hl.1 rfl (Nat.le_of_ble_eq_true rfl) dX4_weather_17 ⟨Nat.zero_le _, Nat.zero_le _⟩ (fun H locs hI => ?_)
    rw [← eS2] at hI
    refine lv_if_eq (tgt := 25) hx hb dX4_weather_20 (by decide) (fun h => absurd h (by decide)) (fun _ => ?_)
    refine lv_iconst (v := 0) hx hb dX4_weather_23 (by decide) ?_
    have HE : M_weather S uk = (0, S2) := by subst eS2; exact (if_neg c1)
    exact rt_i hx hb hr hlocks hI hA hQ ⟨by rw [HE], by rw [HE]⟩ (Nat.zero_le _) (Nat.zero_le _) dX4_weather_24
  · refine lv_iconst (v := 0) hx hb dX4_weather_12 (by decide) ?_
    refine lv_goto (tgt := 17) hx hb dX4_weather_13 (by decide) ?_
    obtain ⟨S3, eS3⟩ : ∃ z : MS, z = mset S 29 0 0 := ⟨_, rfl⟩
    refine cVv (rest := []) hx hb hml hts hown hK hE hI (cM_fails0 G ad S) kM_101 ⟨Nat.le_of_ble_eq_true rfl, Nat.le_of_ble_eq_true rfl⟩ rfl rfl (kk := 4) (ii := 0) rfl rfl rfl hl.1 rfl (Nat.le_of_ble_eq_true rfl) dX4_weather_17 ⟨Nat.zero_le _, Nat.zero_le _⟩ (fun H locs hI => ?_)
    rw [← eS3] at hI
    refine lv_if_eq (tgt := 25) hx hb dX4_weather_20 (by decide) (fun _ => ?_) (fun h => absurd h (by decide))
    refine lv_aload_n hx hb dX4_weather_25 rfl (lv_at hl 0 rfl) ?_
    refine gM_106 hx hb hts hown hK hI dX4_weather_26 ?_
    refine lv_istore_n (lv' := [(2, .int (S3.1 1 0)), (0, .ref (ad 0)), (1, .int uk)]) hx hb dX4_weather_29 rfl hl (by decide) rfl (fun ls hl => ?_)
    refine lv_aload_n hx hb dX4_weather_30 rfl (lv_at hl 1 rfl) ?_
    refine lv_iload_n hx hb dX4_weather_31 rfl (lv_at hl 2 rfl) ?_
    obtain ⟨S4, eS4⟩ : ∃ z : MS, z = mset S3 1 0 uk := ⟨_, rfl⟩
    refine pM_106 hx hb hts hown hK hI eS4 dX4_weather_32 (fun H locs hI => ?_)
    refine lv_iload_n hx hb dX4_weather_35 rfl (lv_at hl 0 rfl) ?_
    have HE : M_weather S uk = (S3.1 1 0, S4) := by subst eS4 eS3; exact (if_pos c1)
    exact rt_i hx hb hr hlocks hI hA hQ ⟨by rw [HE], by rw [HE]⟩ (Nat.zero_le _) (Nat.zero_le _) dX4_weather_36

def M_gap (S : MS) (uk : Int32) : Int32 × MS :=
  if M_isIn S uk 0 120 then
    let S3 := mset S 29 0 0
    let S4 := mset S3 2 0 uk
    (S3.1 2 0, S4)
  else
    let S2 := mset S 29 0 1
    (0, S2)
set_option maxHeartbeats 4000000 in
set_option maxRecDepth 100000 in
theorem cM_gap (G : GX) (ad : Nat → Nat) (S : MS) (uk : Int32) : FC G yX4_gap cX4_gap 3 (some .int) ({ frames := 1, cells := 0, slots := 0, locals := 22 }) [.ref (ad 0), .int uk] (mW G.2.2.2 ad S) (pv (.int (M_gap S uk).1) (mW G.2.2.2 ad (M_gap S uk).2)) := by
  refine FC.go (lv := [(0, .ref (ad 0)), (1, .int uk)]) (by decide) (Nat.le_of_ble_eq_true rfl) rfl (fun p e s m args below meth c A H locs ls Q hx hb hr hts hown hml hlocks hnm hK hE hI hA hl hQ => ?_)
  have hown : s.vm.findClass RX4 = some m.cls := hown
  refine lv_aload_n hx hb dX4_gap_0 rfl (lv_at hl 0 rfl) ?_
  refine lv_iload_n hx hb dX4_gap_1 rfl (lv_at hl 1 rfl) ?_
  refine lv_iconst (v := 0) hx hb dX4_gap_2 (by decide) ?_
  refine lv_bipush (v := 120) hx hb dX4_gap_3 (by decide) ?_
  refine cSv (rest := [.ref (ad 0)]) hx hb hml hts hown hK hE hI (cM_isIn G ad S uk 0 120) kM_94 ⟨Nat.le_of_ble_eq_true rfl, Nat.le_of_ble_eq_true rfl⟩ rfl rfl hl.1 rfl (Nat.le_of_ble_eq_true rfl) dX4_gap_5 ⟨Nat.zero_le _, Nat.zero_le _⟩ (fun H locs hI => ?_)
  refine xb_eq (tgt := 15) hx hb dX4_gap_8 (by decide) (fun c1 => ?_) (fun c1 => ?_)
  · refine lv_iconst (v := 1) hx hb dX4_gap_15 (by decide) ?_
    obtain ⟨S2, eS2⟩ : ∃ z : MS, z = mset S 29 0 1 := ⟨_, rfl⟩
    refine cVv (rest := []) hx hb hml hts hown hK hE hI (cM_fails1 G ad S) kM_101 ⟨Nat.le_of_ble_eq_true rfl, Nat.le_of_ble_eq_true rfl⟩ rfl rfl (kk := 4) (ii := 0) rfl rfl rfl hl.1 rfl (Nat.le_of_ble_eq_true rfl) dX4_gap_16 ⟨Nat.zero_le _, Nat.zero_le _⟩ (fun H locs hI => ?_)
    rw [← eS2] at hI
    refine lv_if_eq (tgt := 24) hx hb dX4_gap_19 (by decide) (fun h => absurd h (by decide)) (fun _ => ?_)
    refine lv_iconst (v := 0) hx hb dX4_gap_22 (by decide) ?_
    have HE : M_gap S uk = (0, S2) := by subst eS2; exact (if_neg c1)
    exact rt_i hx hb hr hlocks hI hA hQ ⟨by rw [HE], by rw [HE]⟩ (Nat.zero_le _) (Nat.zero_le _) dX4_gap_23
  · refine lv_iconst (v := 0) hx hb dX4_gap_11 (by decide) ?_
    refine lv_goto (tgt := 16) hx hb dX4_gap_12 (by decide) ?_
    obtain ⟨S3, eS3⟩ : ∃ z : MS, z = mset S 29 0 0 := ⟨_, rfl⟩
    refine cVv (rest := []) hx hb hml hts hown hK hE hI (cM_fails0 G ad S) kM_101 ⟨Nat.le_of_ble_eq_true rfl, Nat.le_of_ble_eq_true rfl⟩ rfl rfl (kk := 4) (ii := 0) rfl rfl rfl hl.1 rfl (Nat.le_of_ble_eq_true rfl) dX4_gap_16 ⟨Nat.zero_le _, Nat.zero_le _⟩ (fun H locs hI => ?_)
    rw [← eS3] at hI
    refine lv_if_eq (tgt := 24) hx hb dX4_gap_19 (by decide) (fun _ => ?_) (fun h => absurd h (by decide))
    refine lv_aload_n hx hb dX4_gap_24 rfl (lv_at hl 0 rfl) ?_
    refine gM_7 hx hb hts hown hK hI dX4_gap_25 ?_
    refine lv_istore_n (lv' := [(2, .int (S3.1 2 0)), (0, .ref (ad 0)), (1, .int uk)]) hx hb dX4_gap_28 rfl hl (by decide) rfl (fun ls hl => ?_)
    refine lv_aload_n hx hb dX4_gap_29 rfl (lv_at hl 1 rfl) ?_
    refine lv_iload_n hx hb dX4_gap_30 rfl (lv_at hl 2 rfl) ?_
    obtain ⟨S4, eS4⟩ : ∃ z : MS, z = mset S3 2 0 uk := ⟨_, rfl⟩
    refine pM_7 hx hb hts hown hK hI eS4 dX4_gap_31 (fun H locs hI => ?_)
    refine lv_iload_n hx hb dX4_gap_34 rfl (lv_at hl 0 rfl) ?_
    have HE : M_gap S uk = (S3.1 2 0, S4) := by subst eS4 eS3; exact (if_pos c1)
    exact rt_i hx hb hr hlocks hI hA hQ ⟨by rw [HE], by rw [HE]⟩ (Nat.zero_le _) (Nat.zero_le _) dX4_gap_35

def M_plough (S : MS) (up : Int32) : Int32 × MS :=
  if M_isPiece S up then
    let S3 := mset S 29 0 0
    let S4 := mset S3 10 up.toNatClampNeg 0
    (S3.1 10 up.toNatClampNeg, S4)
  else
    let S2 := mset S 29 0 1
    (0, S2)
set_option maxHeartbeats 4000000 in
set_option maxRecDepth 100000 in
theorem cM_plough (G : GX) (ad : Nat → Nat) (S : MS) (up : Int32) {np nv : Nat} (hN : MNn S np nv) : FC G yX4_plough cX4_plough 3 (some .int) ({ frames := 2, cells := 0, slots := 0, locals := 43 }) [.ref (ad 0), .int up] (mW G.2.2.2 ad S) (pv (.int (M_plough S up).1) (mW G.2.2.2 ad (M_plough S up).2)) := by
  refine FC.go (lv := [(0, .ref (ad 0)), (1, .int up)]) (by decide) (Nat.le_of_ble_eq_true rfl) rfl (fun p e s m args below meth c A H locs ls Q hx hb hr hts hown hml hlocks hnm hK hE hI hA hl hQ => ?_)
  have hown : s.vm.findClass RX4 = some m.cls := hown
  refine lv_aload_n hx hb dX4_plough_0 rfl (lv_at hl 0 rfl) ?_
  refine lv_aload_n hx hb dX4_plough_1 rfl (lv_at hl 0 rfl) ?_
  refine lv_iload_n hx hb dX4_plough_2 rfl (lv_at hl 1 rfl) ?_
  refine cVv (rest := [.ref (ad 0)]) hx hb hml hts hown hK hE hI (cM_isPiece G ad S up) kM_109 ⟨Nat.le_of_ble_eq_true rfl, Nat.le_of_ble_eq_true rfl⟩ rfl rfl (kk := 4) (ii := 0) rfl rfl rfl hl.1 rfl (Nat.le_of_ble_eq_true rfl) dX4_plough_3 ⟨Nat.zero_le _, Nat.zero_le _⟩ (fun H locs hI => ?_)
  refine xb_eq (tgt := 13) hx hb dX4_plough_6 (by decide) (fun c1 => ?_) (fun c1 => ?_)
  · refine lv_iconst (v := 1) hx hb dX4_plough_13 (by decide) ?_
    obtain ⟨S2, eS2⟩ : ∃ z : MS, z = mset S 29 0 1 := ⟨_, rfl⟩
    refine cVv (rest := []) hx hb hml hts hown hK hE hI (cM_fails1 G ad S) kM_101 ⟨Nat.le_of_ble_eq_true rfl, Nat.le_of_ble_eq_true rfl⟩ rfl rfl (kk := 4) (ii := 0) rfl rfl rfl hl.1 rfl (Nat.le_of_ble_eq_true rfl) dX4_plough_14 ⟨Nat.zero_le _, Nat.zero_le _⟩ (fun H locs hI => ?_)
    rw [← eS2] at hI
    refine lv_if_eq (tgt := 22) hx hb dX4_plough_17 (by decide) (fun h => absurd h (by decide)) (fun _ => ?_)
    refine lv_iconst (v := 0) hx hb dX4_plough_20 (by decide) ?_
    have HE : M_plough S up = (0, S2) := by subst eS2; exact (if_neg c1)
    exact rt_i hx hb hr hlocks hI hA hQ ⟨by rw [HE], by rw [HE]⟩ (Nat.zero_le _) (Nat.zero_le _) dX4_plough_21
  · refine lv_iconst (v := 0) hx hb dX4_plough_9 (by decide) ?_
    refine lv_goto (tgt := 14) hx hb dX4_plough_10 (by decide) ?_
    obtain ⟨S3, eS3⟩ : ∃ z : MS, z = mset S 29 0 0 := ⟨_, rfl⟩
    refine cVv (rest := []) hx hb hml hts hown hK hE hI (cM_fails0 G ad S) kM_101 ⟨Nat.le_of_ble_eq_true rfl, Nat.le_of_ble_eq_true rfl⟩ rfl rfl (kk := 4) (ii := 0) rfl rfl rfl hl.1 rfl (Nat.le_of_ble_eq_true rfl) dX4_plough_14 ⟨Nat.zero_le _, Nat.zero_le _⟩ (fun H locs hI => ?_)
    rw [← eS3] at hI
    refine lv_if_eq (tgt := 22) hx hb dX4_plough_17 (by decide) (fun _ => ?_) (fun h => absurd h (by decide))
    refine lv_aload_n hx hb dX4_plough_22 rfl (lv_at hl 0 rfl) ?_
    refine gM_32 hx hb hts hown hK hI dX4_plough_23 ?_
    refine lv_iload_n hx hb dX4_plough_26 rfl (lv_at hl 1 rfl) ?_
    refine lM_10 hx hb hK hI (isPiece_in hN c1) dX4_plough_27 ?_
    refine lv_istore_n (lv' := [(2, .int (S3.1 10 up.toNatClampNeg)), (0, .ref (ad 0)), (1, .int up)]) hx hb dX4_plough_28 rfl hl (by decide) rfl (fun ls hl => ?_)
    refine lv_aload_n hx hb dX4_plough_29 rfl (lv_at hl 1 rfl) ?_
    refine gM_32 hx hb hts hown hK hI dX4_plough_30 ?_
    refine lv_iload_n hx hb dX4_plough_33 rfl (lv_at hl 2 rfl) ?_
    refine lv_iconst (v := 0) hx hb dX4_plough_34 (by decide) ?_
    obtain ⟨S4, eS4⟩ : ∃ z : MS, z = mset S3 10 up.toNatClampNeg 0 := ⟨_, rfl⟩
    refine sM_10 hx hb hK hI (isPiece_in hN c1) eS4 dX4_plough_35 (fun H locs hI => ?_)
    refine lv_iload_n hx hb dX4_plough_36 rfl (lv_at hl 0 rfl) ?_
    have HE : M_plough S up = (S3.1 10 up.toNatClampNeg, S4) := by subst eS4 eS3; exact (if_pos c1)
    exact rt_i hx hb hr hlocks hI hA hQ ⟨by rw [HE], by rw [HE]⟩ (Nat.zero_le _) (Nat.zero_le _) dX4_plough_37

def M_open (S : MS) (up : Int32) (uk : Int32) : Int32 × MS :=
  if M_isPiece S up then
    if M_isIn S uk 0 2 then
      let S4 := mset S 29 0 0
      let S5 := mset S4 12 up.toNatClampNeg uk
      (S4.1 12 up.toNatClampNeg, S5)
    else
      let S3 := mset S 29 0 2
      (0, S3)
  else
    let S6 := mset S 29 0 1
    (0, S6)
set_option maxHeartbeats 4000000 in
set_option maxRecDepth 100000 in
theorem cM_open (G : GX) (ad : Nat → Nat) (S : MS) (up : Int32) (uk : Int32) {np nv : Nat} (hN : MNn S np nv) : FC G yX4_open cX4_open 4 (some .int) ({ frames := 2, cells := 0, slots := 0, locals := 43 }) [.ref (ad 0), .int up, .int uk] (mW G.2.2.2 ad S) (pv (.int (M_open S up uk).1) (mW G.2.2.2 ad (M_open S up uk).2)) := by
  refine FC.go (lv := [(0, .ref (ad 0)), (1, .int up), (2, .int uk)]) (by decide) (Nat.le_of_ble_eq_true rfl) rfl (fun p e s m args below meth c A H locs ls Q hx hb hr hts hown hml hlocks hnm hK hE hI hA hl hQ => ?_)
  have hown : s.vm.findClass RX4 = some m.cls := hown
  refine lv_aload_n hx hb dX4_open_0 rfl (lv_at hl 0 rfl) ?_
  refine lv_aload_n hx hb dX4_open_1 rfl (lv_at hl 0 rfl) ?_
  refine lv_iload_n hx hb dX4_open_2 rfl (lv_at hl 1 rfl) ?_
  refine cVv (rest := [.ref (ad 0)]) hx hb hml hts hown hK hE hI (cM_isPiece G ad S up) kM_109 ⟨Nat.le_of_ble_eq_true rfl, Nat.le_of_ble_eq_true rfl⟩ rfl rfl (kk := 4) (ii := 0) rfl rfl rfl hl.1 rfl (Nat.le_of_ble_eq_true rfl) dX4_open_3 ⟨Nat.zero_le _, Nat.zero_le _⟩ (fun H locs hI => ?_)
  refine xb_ne (tgt := 13) hx hb dX4_open_6 (by decide) (fun c1 => ?_) (fun c1 => ?_)
  · refine lv_iload_n hx hb dX4_open_13 rfl (lv_at hl 2 rfl) ?_
    refine lv_iconst (v := 0) hx hb dX4_open_14 (by decide) ?_
    refine lv_iconst (v := 2) hx hb dX4_open_15 (by decide) ?_
    refine cSv (rest := [.ref (ad 0)]) hx hb hml hts hown hK hE hI (cM_isIn G ad S uk 0 2) kM_94 ⟨Nat.le_of_ble_eq_true rfl, Nat.le_of_ble_eq_true rfl⟩ rfl rfl hl.1 rfl (Nat.le_of_ble_eq_true rfl) dX4_open_16 ⟨Nat.zero_le _, Nat.zero_le _⟩ (fun H locs hI => ?_)
    refine xb_eq (tgt := 26) hx hb dX4_open_19 (by decide) (fun c2 => ?_) (fun c2 => ?_)
    · refine lv_iconst (v := 2) hx hb dX4_open_26 (by decide) ?_
      obtain ⟨S3, eS3⟩ : ∃ z : MS, z = mset S 29 0 2 := ⟨_, rfl⟩
      refine cVv (rest := []) hx hb hml hts hown hK hE hI (cM_fails2 G ad S) kM_101 ⟨Nat.le_of_ble_eq_true rfl, Nat.le_of_ble_eq_true rfl⟩ rfl rfl (kk := 4) (ii := 0) rfl rfl rfl hl.1 rfl (Nat.le_of_ble_eq_true rfl) dX4_open_27 ⟨Nat.zero_le _, Nat.zero_le _⟩ (fun H locs hI => ?_)
      rw [← eS3] at hI
      refine lv_if_eq (tgt := 35) hx hb dX4_open_30 (by decide) (fun h => absurd h (by decide)) (fun _ => ?_)
      refine lv_iconst (v := 0) hx hb dX4_open_33 (by decide) ?_
      have HE : M_open S up uk = (0, S3) := by subst eS3; exact (if_pos c1).trans ((if_neg c2))
      exact rt_i hx hb hr hlocks hI hA hQ ⟨by rw [HE], by rw [HE]⟩ (Nat.zero_le _) (Nat.zero_le _) dX4_open_34
    · refine lv_iconst (v := 0) hx hb dX4_open_22 (by decide) ?_
      refine lv_goto (tgt := 27) hx hb dX4_open_23 (by decide) ?_
      obtain ⟨S4, eS4⟩ : ∃ z : MS, z = mset S 29 0 0 := ⟨_, rfl⟩
      refine cVv (rest := []) hx hb hml hts hown hK hE hI (cM_fails0 G ad S) kM_101 ⟨Nat.le_of_ble_eq_true rfl, Nat.le_of_ble_eq_true rfl⟩ rfl rfl (kk := 4) (ii := 0) rfl rfl rfl hl.1 rfl (Nat.le_of_ble_eq_true rfl) dX4_open_27 ⟨Nat.zero_le _, Nat.zero_le _⟩ (fun H locs hI => ?_)
      rw [← eS4] at hI
      refine lv_if_eq (tgt := 35) hx hb dX4_open_30 (by decide) (fun _ => ?_) (fun h => absurd h (by decide))
      refine lv_aload_n hx hb dX4_open_35 rfl (lv_at hl 0 rfl) ?_
      refine gM_38 hx hb hts hown hK hI dX4_open_36 ?_
      refine lv_iload_n hx hb dX4_open_39 rfl (lv_at hl 1 rfl) ?_
      refine lM_12 hx hb hK hI (isPiece_in hN c1) dX4_open_40 ?_
      refine lv_istore_n (lv' := [(3, .int (S4.1 12 up.toNatClampNeg)), (0, .ref (ad 0)), (1, .int up), (2, .int uk)]) hx hb dX4_open_41 rfl hl (by decide) rfl (fun ls hl => ?_)
      refine lv_aload_n hx hb dX4_open_42 rfl (lv_at hl 1 rfl) ?_
      refine gM_38 hx hb hts hown hK hI dX4_open_43 ?_
      refine lv_iload_n hx hb dX4_open_46 rfl (lv_at hl 2 rfl) ?_
      refine lv_iload_n hx hb dX4_open_47 rfl (lv_at hl 3 rfl) ?_
      obtain ⟨S5, eS5⟩ : ∃ z : MS, z = mset S4 12 up.toNatClampNeg uk := ⟨_, rfl⟩
      refine sM_12 hx hb hK hI (isPiece_in hN c1) eS5 dX4_open_48 (fun H locs hI => ?_)
      refine lv_iload_n hx hb dX4_open_49 rfl (lv_at hl 0 rfl) ?_
      have HE : M_open S up uk = (S4.1 12 up.toNatClampNeg, S5) := by subst eS5 eS4; exact (if_pos c1).trans ((if_pos c2))
      exact rt_i hx hb hr hlocks hI hA hQ ⟨by rw [HE], by rw [HE]⟩ (Nat.zero_le _) (Nat.zero_le _) dX4_open_50
  · refine lv_iconst (v := 1) hx hb dX4_open_9 (by decide) ?_
    refine lv_goto (tgt := 27) hx hb dX4_open_10 (by decide) ?_
    obtain ⟨S6, eS6⟩ : ∃ z : MS, z = mset S 29 0 1 := ⟨_, rfl⟩
    refine cVv (rest := []) hx hb hml hts hown hK hE hI (cM_fails1 G ad S) kM_101 ⟨Nat.le_of_ble_eq_true rfl, Nat.le_of_ble_eq_true rfl⟩ rfl rfl (kk := 4) (ii := 0) rfl rfl rfl hl.1 rfl (Nat.le_of_ble_eq_true rfl) dX4_open_27 ⟨Nat.zero_le _, Nat.zero_le _⟩ (fun H locs hI => ?_)
    rw [← eS6] at hI
    refine lv_if_eq (tgt := 35) hx hb dX4_open_30 (by decide) (fun h => absurd h (by decide)) (fun _ => ?_)
    refine lv_iconst (v := 0) hx hb dX4_open_33 (by decide) ?_
    have HE : M_open S up uk = (0, S6) := by subst eS6; exact (if_neg c1)
    exact rt_i hx hb hr hlocks hI hA hQ ⟨by rw [HE], by rw [HE]⟩ (Nat.zero_le _) (Nat.zero_le _) dX4_open_34

def M_limit (S : MS) (up : Int32) (uk : Int32) : Int32 × MS :=
  if M_isPiece S up then
    if M_isIn S uk 1 300 then
      let S4 := mset S 29 0 0
      let S5 := mset S4 13 up.toNatClampNeg uk
      (S4.1 13 up.toNatClampNeg, S5)
    else
      let S3 := mset S 29 0 2
      (0, S3)
  else
    let S6 := mset S 29 0 1
    (0, S6)
set_option maxHeartbeats 4000000 in
set_option maxRecDepth 100000 in
theorem cM_limit (G : GX) (ad : Nat → Nat) (S : MS) (up : Int32) (uk : Int32) {np nv : Nat} (hN : MNn S np nv) : FC G yX4_limit cX4_limit 4 (some .int) ({ frames := 2, cells := 0, slots := 0, locals := 43 }) [.ref (ad 0), .int up, .int uk] (mW G.2.2.2 ad S) (pv (.int (M_limit S up uk).1) (mW G.2.2.2 ad (M_limit S up uk).2)) := by
  refine FC.go (lv := [(0, .ref (ad 0)), (1, .int up), (2, .int uk)]) (by decide) (Nat.le_of_ble_eq_true rfl) rfl (fun p e s m args below meth c A H locs ls Q hx hb hr hts hown hml hlocks hnm hK hE hI hA hl hQ => ?_)
  have hown : s.vm.findClass RX4 = some m.cls := hown
  refine lv_aload_n hx hb dX4_limit_0 rfl (lv_at hl 0 rfl) ?_
  refine lv_aload_n hx hb dX4_limit_1 rfl (lv_at hl 0 rfl) ?_
  refine lv_iload_n hx hb dX4_limit_2 rfl (lv_at hl 1 rfl) ?_
  refine cVv (rest := [.ref (ad 0)]) hx hb hml hts hown hK hE hI (cM_isPiece G ad S up) kM_109 ⟨Nat.le_of_ble_eq_true rfl, Nat.le_of_ble_eq_true rfl⟩ rfl rfl (kk := 4) (ii := 0) rfl rfl rfl hl.1 rfl (Nat.le_of_ble_eq_true rfl) dX4_limit_3 ⟨Nat.zero_le _, Nat.zero_le _⟩ (fun H locs hI => ?_)
  refine xb_ne (tgt := 13) hx hb dX4_limit_6 (by decide) (fun c1 => ?_) (fun c1 => ?_)
  · refine lv_iload_n hx hb dX4_limit_13 rfl (lv_at hl 2 rfl) ?_
    refine lv_iconst (v := 1) hx hb dX4_limit_14 (by decide) ?_
    refine lv_sipush (v := 300) hx hb dX4_limit_15 (by decide) ?_
    refine cSv (rest := [.ref (ad 0)]) hx hb hml hts hown hK hE hI (cM_isIn G ad S uk 1 300) kM_94 ⟨Nat.le_of_ble_eq_true rfl, Nat.le_of_ble_eq_true rfl⟩ rfl rfl hl.1 rfl (Nat.le_of_ble_eq_true rfl) dX4_limit_18 ⟨Nat.zero_le _, Nat.zero_le _⟩ (fun H locs hI => ?_)
    refine xb_eq (tgt := 28) hx hb dX4_limit_21 (by decide) (fun c2 => ?_) (fun c2 => ?_)
    · refine lv_iconst (v := 2) hx hb dX4_limit_28 (by decide) ?_
      obtain ⟨S3, eS3⟩ : ∃ z : MS, z = mset S 29 0 2 := ⟨_, rfl⟩
      refine cVv (rest := []) hx hb hml hts hown hK hE hI (cM_fails2 G ad S) kM_101 ⟨Nat.le_of_ble_eq_true rfl, Nat.le_of_ble_eq_true rfl⟩ rfl rfl (kk := 4) (ii := 0) rfl rfl rfl hl.1 rfl (Nat.le_of_ble_eq_true rfl) dX4_limit_29 ⟨Nat.zero_le _, Nat.zero_le _⟩ (fun H locs hI => ?_)
      rw [← eS3] at hI
      refine lv_if_eq (tgt := 37) hx hb dX4_limit_32 (by decide) (fun h => absurd h (by decide)) (fun _ => ?_)
      refine lv_iconst (v := 0) hx hb dX4_limit_35 (by decide) ?_
      have HE : M_limit S up uk = (0, S3) := by subst eS3; exact (if_pos c1).trans ((if_neg c2))
      exact rt_i hx hb hr hlocks hI hA hQ ⟨by rw [HE], by rw [HE]⟩ (Nat.zero_le _) (Nat.zero_le _) dX4_limit_36
    · refine lv_iconst (v := 0) hx hb dX4_limit_24 (by decide) ?_
      refine lv_goto (tgt := 29) hx hb dX4_limit_25 (by decide) ?_
      obtain ⟨S4, eS4⟩ : ∃ z : MS, z = mset S 29 0 0 := ⟨_, rfl⟩
      refine cVv (rest := []) hx hb hml hts hown hK hE hI (cM_fails0 G ad S) kM_101 ⟨Nat.le_of_ble_eq_true rfl, Nat.le_of_ble_eq_true rfl⟩ rfl rfl (kk := 4) (ii := 0) rfl rfl rfl hl.1 rfl (Nat.le_of_ble_eq_true rfl) dX4_limit_29 ⟨Nat.zero_le _, Nat.zero_le _⟩ (fun H locs hI => ?_)
      rw [← eS4] at hI
      refine lv_if_eq (tgt := 37) hx hb dX4_limit_32 (by decide) (fun _ => ?_) (fun h => absurd h (by decide))
      refine lv_aload_n hx hb dX4_limit_37 rfl (lv_at hl 0 rfl) ?_
      refine gM_41 hx hb hts hown hK hI dX4_limit_38 ?_
      refine lv_iload_n hx hb dX4_limit_41 rfl (lv_at hl 1 rfl) ?_
      refine lM_13 hx hb hK hI (isPiece_in hN c1) dX4_limit_42 ?_
      refine lv_istore_n (lv' := [(3, .int (S4.1 13 up.toNatClampNeg)), (0, .ref (ad 0)), (1, .int up), (2, .int uk)]) hx hb dX4_limit_43 rfl hl (by decide) rfl (fun ls hl => ?_)
      refine lv_aload_n hx hb dX4_limit_44 rfl (lv_at hl 1 rfl) ?_
      refine gM_41 hx hb hts hown hK hI dX4_limit_45 ?_
      refine lv_iload_n hx hb dX4_limit_48 rfl (lv_at hl 2 rfl) ?_
      refine lv_iload_n hx hb dX4_limit_49 rfl (lv_at hl 3 rfl) ?_
      obtain ⟨S5, eS5⟩ : ∃ z : MS, z = mset S4 13 up.toNatClampNeg uk := ⟨_, rfl⟩
      refine sM_13 hx hb hK hI (isPiece_in hN c1) eS5 dX4_limit_50 (fun H locs hI => ?_)
      refine lv_iload_n hx hb dX4_limit_51 rfl (lv_at hl 0 rfl) ?_
      have HE : M_limit S up uk = (S4.1 13 up.toNatClampNeg, S5) := by subst eS5 eS4; exact (if_pos c1).trans ((if_pos c2))
      exact rt_i hx hb hr hlocks hI hA hQ ⟨by rw [HE], by rw [HE]⟩ (Nat.zero_le _) (Nat.zero_le _) dX4_limit_52
  · refine lv_iconst (v := 1) hx hb dX4_limit_9 (by decide) ?_
    refine lv_goto (tgt := 29) hx hb dX4_limit_10 (by decide) ?_
    obtain ⟨S6, eS6⟩ : ∃ z : MS, z = mset S 29 0 1 := ⟨_, rfl⟩
    refine cVv (rest := []) hx hb hml hts hown hK hE hI (cM_fails1 G ad S) kM_101 ⟨Nat.le_of_ble_eq_true rfl, Nat.le_of_ble_eq_true rfl⟩ rfl rfl (kk := 4) (ii := 0) rfl rfl rfl hl.1 rfl (Nat.le_of_ble_eq_true rfl) dX4_limit_29 ⟨Nat.zero_le _, Nat.zero_le _⟩ (fun H locs hI => ?_)
    rw [← eS6] at hI
    refine lv_if_eq (tgt := 37) hx hb dX4_limit_32 (by decide) (fun h => absurd h (by decide)) (fun _ => ?_)
    refine lv_iconst (v := 0) hx hb dX4_limit_35 (by decide) ?_
    have HE : M_limit S up uk = (0, S6) := by subst eS6; exact (if_neg c1)
    exact rt_i hx hb hr hlocks hI hA hQ ⟨by rw [HE], by rw [HE]⟩ (Nat.zero_le _) (Nat.zero_le _) dX4_limit_36

def M_flood (S : MS) (up : Int32) (uk : Int32) : Int32 × MS :=
  if M_isPiece S up then
    if M_isIn S uk 1 100 then
      if (M_isPiece S up) ∧ ((M_isIn S uk 1 100) ∧ ((M_isWater S up) ∧ ((¬ (((S.1 7 up.toNatClampNeg) + (S.1 8 up.toNatClampNeg)) ≤ 0)) ∧ (¬ (500 < ((S.1 9 up.toNatClampNeg) + uk)))))) then
        let S6 := mset S 29 0 0
        let S7 := mset S6 10 up.toNatClampNeg 0
        let S8 := mset S7 9 up.toNatClampNeg ((S7.1 9 up.toNatClampNeg) + uk)
        (S8.1 9 up.toNatClampNeg, S8)
      else
        let S5 := mset S 29 0 3
        (0, S5)
    else
      let S9 := mset S 29 0 2
      (0, S9)
  else
    let S10 := mset S 29 0 1
    (0, S10)
set_option maxHeartbeats 4000000 in
set_option maxRecDepth 100000 in
theorem cM_flood (G : GX) (ad : Nat → Nat) (S : MS) (up : Int32) (uk : Int32) {np nv : Nat} (hN : MNn S np nv) : FC G yX4_flood cX4_flood 6 (some .int) ({ frames := 2, cells := 0, slots := 0, locals := 43 }) [.ref (ad 0), .int up, .int uk] (mW G.2.2.2 ad S) (pv (.int (M_flood S up uk).1) (mW G.2.2.2 ad (M_flood S up uk).2)) := by
  refine FC.go (lv := [(0, .ref (ad 0)), (1, .int up), (2, .int uk)]) (by decide) (Nat.le_of_ble_eq_true rfl) rfl (fun p e s m args below meth c A H locs ls Q hx hb hr hts hown hml hlocks hnm hK hE hI hA hl hQ => ?_)
  have hown : s.vm.findClass RX4 = some m.cls := hown
  refine lv_aload_n hx hb dX4_flood_0 rfl (lv_at hl 0 rfl) ?_
  refine lv_iload_n hx hb dX4_flood_1 rfl (lv_at hl 1 rfl) ?_
  refine cVv (rest := []) hx hb hml hts hown hK hE hI (cM_isPiece G ad S up) kM_109 ⟨Nat.le_of_ble_eq_true rfl, Nat.le_of_ble_eq_true rfl⟩ rfl rfl (kk := 4) (ii := 0) rfl rfl rfl hl.1 rfl (Nat.le_of_ble_eq_true rfl) dX4_flood_2 ⟨Nat.zero_le _, Nat.zero_le _⟩ (fun H locs hI => ?_)
  refine lv_istore_n (lv' := [(3, .int (bI (M_isPiece S up))), (0, .ref (ad 0)), (1, .int up), (2, .int uk)]) hx hb dX4_flood_5 rfl hl (by decide) rfl (fun ls hl => ?_)
  refine lv_iload_n hx hb dX4_flood_6 rfl (lv_at hl 3 rfl) ?_
  refine lv_iconst (v := 1) hx hb dX4_flood_7 (by decide) ?_
  refine lv_bipush (v := 100) hx hb dX4_flood_8 (by decide) ?_
  refine cSv (rest := []) hx hb hml hts hown hK hE hI (cM_isIn G ad S uk 1 100) kM_94 ⟨Nat.le_of_ble_eq_true rfl, Nat.le_of_ble_eq_true rfl⟩ rfl rfl hl.1 rfl (Nat.le_of_ble_eq_true rfl) dX4_flood_10 ⟨Nat.zero_le _, Nat.zero_le _⟩ (fun H locs hI => ?_)
  refine lv_istore (lv' := [(4, .int (bI (M_isIn S uk 1 100))), (3, .int (bI (M_isPiece S up))), (0, .ref (ad 0)), (1, .int up), (2, .int uk)]) hx hb dX4_flood_13 hl (by decide) rfl (fun ls hl => ?_)
  refine lv_iload_n hx hb dX4_flood_15 rfl (lv_at hl 1 rfl) ?_
  have hJ1 : ∀ (H : Heap) (locs : List Loc), (fI G.2.2.1 A s.heap (mW G.2.2.2 ad S) H locs) → W p G.1 e ({ frames := 2, cells := 0, slots := 0, locals := 43 }) s m args below meth c H locs 0 0 Q (F0 m 67 ls [.int (bI ((M_isPiece S up) ∧ ((M_isIn S uk 1 100) ∧ ((M_isWater S up) ∧ ((¬ (((S.1 7 up.toNatClampNeg) + (S.1 8 up.toNatClampNeg)) ≤ 0)) ∧ (¬ (500 < ((S.1 9 up.toNatClampNeg) + uk))))))))]) := by
    intro H locs hI
    refine lv_istore (lv' := [(5, .int (bI ((M_isPiece S up) ∧ ((M_isIn S uk 1 100) ∧ ((M_isWater S up) ∧ ((¬ (((S.1 7 up.toNatClampNeg) + (S.1 8 up.toNatClampNeg)) ≤ 0)) ∧ (¬ (500 < ((S.1 9 up.toNatClampNeg) + uk))))))))), (4, .int (bI (M_isIn S uk 1 100))), (3, .int (bI (M_isPiece S up))), (0, .ref (ad 0)), (1, .int up), (2, .int uk)]) hx hb dX4_flood_67 hl (by decide) rfl (fun ls hl => ?_)
    refine lv_aload_n hx hb dX4_flood_69 rfl (lv_at hl 3 rfl) ?_
    refine lv_iload_n hx hb dX4_flood_70 rfl (lv_at hl 2 rfl) ?_
    refine xb_ne (tgt := 78) hx hb dX4_flood_71 (by decide) (fun c2 => ?_) (fun c2 => ?_)
    · refine lv_iload hx hb dX4_flood_78 (lv_at hl 1 rfl) ?_
      refine xb_ne (tgt := 87) hx hb dX4_flood_80 (by decide) (fun c3 => ?_) (fun c3 => ?_)
      · refine lv_iload hx hb dX4_flood_87 (lv_at hl 0 rfl) ?_
        refine xb_eq (tgt := 96) hx hb dX4_flood_89 (by decide) (fun c4 => ?_) (fun c4 => ?_)
        · refine lv_iconst (v := 3) hx hb dX4_flood_96 (by decide) ?_
          obtain ⟨S5, eS5⟩ : ∃ z : MS, z = mset S 29 0 3 := ⟨_, rfl⟩
          refine cVv (rest := []) hx hb hml hts hown hK hE hI (cM_fails3 G ad S) kM_101 ⟨Nat.le_of_ble_eq_true rfl, Nat.le_of_ble_eq_true rfl⟩ rfl rfl (kk := 4) (ii := 0) rfl rfl rfl hl.1 rfl (Nat.le_of_ble_eq_true rfl) dX4_flood_97 ⟨Nat.zero_le _, Nat.zero_le _⟩ (fun H locs hI => ?_)
          rw [← eS5] at hI
          refine lv_if_eq (tgt := 105) hx hb dX4_flood_100 (by decide) (fun h => absurd h (by decide)) (fun _ => ?_)
          refine lv_iconst (v := 0) hx hb dX4_flood_103 (by decide) ?_
          have HE : M_flood S up uk = (0, S5) := by subst eS5; exact (if_pos c2).trans ((if_pos c3).trans ((if_neg c4)))
          exact rt_i hx hb hr hlocks hI hA hQ ⟨by rw [HE], by rw [HE]⟩ (Nat.zero_le _) (Nat.zero_le _) dX4_flood_104
        · refine lv_iconst (v := 0) hx hb dX4_flood_92 (by decide) ?_
          refine lv_goto (tgt := 97) hx hb dX4_flood_93 (by decide) ?_
          obtain ⟨S6, eS6⟩ : ∃ z : MS, z = mset S 29 0 0 := ⟨_, rfl⟩
          refine cVv (rest := []) hx hb hml hts hown hK hE hI (cM_fails0 G ad S) kM_101 ⟨Nat.le_of_ble_eq_true rfl, Nat.le_of_ble_eq_true rfl⟩ rfl rfl (kk := 4) (ii := 0) rfl rfl rfl hl.1 rfl (Nat.le_of_ble_eq_true rfl) dX4_flood_97 ⟨Nat.zero_le _, Nat.zero_le _⟩ (fun H locs hI => ?_)
          rw [← eS6] at hI
          refine lv_if_eq (tgt := 105) hx hb dX4_flood_100 (by decide) (fun _ => ?_) (fun h => absurd h (by decide))
          refine lv_aload_n hx hb dX4_flood_105 rfl (lv_at hl 3 rfl) ?_
          refine gM_32 hx hb hts hown hK hI dX4_flood_106 ?_
          refine lv_iload_n hx hb dX4_flood_109 rfl (lv_at hl 4 rfl) ?_
          refine lv_iconst (v := 0) hx hb dX4_flood_110 (by decide) ?_
          obtain ⟨S7, eS7⟩ : ∃ z : MS, z = mset S6 10 up.toNatClampNeg 0 := ⟨_, rfl⟩
          refine sM_10 hx hb hK hI (isPiece_in hN (c4).1) eS7 dX4_flood_111 (fun H locs hI => ?_)
          refine lv_aload_n hx hb dX4_flood_112 rfl (lv_at hl 3 rfl) ?_
          refine gM_29 hx hb hts hown hK hI dX4_flood_113 ?_
          refine lv_iload_n hx hb dX4_flood_116 rfl (lv_at hl 4 rfl) ?_
          refine lv_dup2_11 hx hb dX4_flood_117 rfl rfl ?_
          refine lM_9 hx hb hK hI (isPiece_in hN (c4).1) dX4_flood_118 ?_
          refine lv_iload_n hx hb dX4_flood_119 rfl (lv_at hl 5 rfl) ?_
          refine lv_iadd hx hb dX4_flood_120 ?_
          obtain ⟨S8, eS8⟩ : ∃ z : MS, z = mset S7 9 up.toNatClampNeg ((S7.1 9 up.toNatClampNeg) + uk) := ⟨_, rfl⟩
          refine sM_9 hx hb hK hI (isPiece_in hN (c4).1) eS8 dX4_flood_121 (fun H locs hI => ?_)
          refine lv_aload_n hx hb dX4_flood_122 rfl (lv_at hl 3 rfl) ?_
          refine gM_29 hx hb hts hown hK hI dX4_flood_123 ?_
          refine lv_iload_n hx hb dX4_flood_126 rfl (lv_at hl 4 rfl) ?_
          refine lM_9 hx hb hK hI (isPiece_in hN (c4).1) dX4_flood_127 ?_
          have HE : M_flood S up uk = (S8.1 9 up.toNatClampNeg, S8) := by subst eS8 eS7 eS6; exact (if_pos c2).trans ((if_pos c3).trans ((if_pos c4)))
          exact rt_i hx hb hr hlocks hI hA hQ ⟨by rw [HE], by rw [HE]⟩ (Nat.zero_le _) (Nat.zero_le _) dX4_flood_128
      · refine lv_iconst (v := 2) hx hb dX4_flood_83 (by decide) ?_
        refine lv_goto (tgt := 97) hx hb dX4_flood_84 (by decide) ?_
        obtain ⟨S9, eS9⟩ : ∃ z : MS, z = mset S 29 0 2 := ⟨_, rfl⟩
        refine cVv (rest := []) hx hb hml hts hown hK hE hI (cM_fails2 G ad S) kM_101 ⟨Nat.le_of_ble_eq_true rfl, Nat.le_of_ble_eq_true rfl⟩ rfl rfl (kk := 4) (ii := 0) rfl rfl rfl hl.1 rfl (Nat.le_of_ble_eq_true rfl) dX4_flood_97 ⟨Nat.zero_le _, Nat.zero_le _⟩ (fun H locs hI => ?_)
        rw [← eS9] at hI
        refine lv_if_eq (tgt := 105) hx hb dX4_flood_100 (by decide) (fun h => absurd h (by decide)) (fun _ => ?_)
        refine lv_iconst (v := 0) hx hb dX4_flood_103 (by decide) ?_
        have HE : M_flood S up uk = (0, S9) := by subst eS9; exact (if_pos c2).trans ((if_neg c3))
        exact rt_i hx hb hr hlocks hI hA hQ ⟨by rw [HE], by rw [HE]⟩ (Nat.zero_le _) (Nat.zero_le _) dX4_flood_104
    · refine lv_iconst (v := 1) hx hb dX4_flood_74 (by decide) ?_
      refine lv_goto (tgt := 97) hx hb dX4_flood_75 (by decide) ?_
      obtain ⟨S10, eS10⟩ : ∃ z : MS, z = mset S 29 0 1 := ⟨_, rfl⟩
      refine cVv (rest := []) hx hb hml hts hown hK hE hI (cM_fails1 G ad S) kM_101 ⟨Nat.le_of_ble_eq_true rfl, Nat.le_of_ble_eq_true rfl⟩ rfl rfl (kk := 4) (ii := 0) rfl rfl rfl hl.1 rfl (Nat.le_of_ble_eq_true rfl) dX4_flood_97 ⟨Nat.zero_le _, Nat.zero_le _⟩ (fun H locs hI => ?_)
      rw [← eS10] at hI
      refine lv_if_eq (tgt := 105) hx hb dX4_flood_100 (by decide) (fun h => absurd h (by decide)) (fun _ => ?_)
      refine lv_iconst (v := 0) hx hb dX4_flood_103 (by decide) ?_
      have HE : M_flood S up uk = (0, S10) := by subst eS10; exact (if_neg c2)
      exact rt_i hx hb hr hlocks hI hA hQ ⟨by rw [HE], by rw [HE]⟩ (Nat.zero_le _) (Nat.zero_le _) dX4_flood_104
  refine xb_eq (tgt := 66) hx hb dX4_flood_16 (by decide) (fun c11 => ?_) (fun c11 => ?_)
  · refine lv_iconst (v := 0) hx hb dX4_flood_66 (by decide) ?_
    have eb12 : (0 : Int32) = bI ((M_isPiece S up) ∧ ((M_isIn S uk 1 100) ∧ ((M_isWater S up) ∧ ((¬ (((S.1 7 up.toNatClampNeg) + (S.1 8 up.toNatClampNeg)) ≤ 0)) ∧ (¬ (500 < ((S.1 9 up.toNatClampNeg) + uk))))))) := (bI_f (fun k => c11 k.1)).symm
    rw [eb12]
    exact hJ1 _ _ hI
  · refine lv_iload hx hb dX4_flood_19 (lv_at hl 0 rfl) ?_
    refine xb_eq (tgt := 66) hx hb dX4_flood_21 (by decide) (fun c13 => ?_) (fun c13 => ?_)
    · refine lv_iconst (v := 0) hx hb dX4_flood_66 (by decide) ?_
      have eb14 : (0 : Int32) = bI ((M_isPiece S up) ∧ ((M_isIn S uk 1 100) ∧ ((M_isWater S up) ∧ ((¬ (((S.1 7 up.toNatClampNeg) + (S.1 8 up.toNatClampNeg)) ≤ 0)) ∧ (¬ (500 < ((S.1 9 up.toNatClampNeg) + uk))))))) := (bI_f (fun k => (fun k => c13 k.1) k.2)).symm
      rw [eb14]
      exact hJ1 _ _ hI
    · refine lv_aload_n hx hb dX4_flood_24 rfl (lv_at hl 2 rfl) ?_
      refine lv_iload_n hx hb dX4_flood_25 rfl (lv_at hl 3 rfl) ?_
      refine cVv (rest := []) hx hb hml hts hown hK hE hI (cM_isWater G ad S up (isPiece_in hN c11)) kM_112 ⟨Nat.le_of_ble_eq_true rfl, Nat.le_of_ble_eq_true rfl⟩ rfl rfl (kk := 4) (ii := 0) rfl rfl rfl hl.1 rfl (Nat.le_of_ble_eq_true rfl) dX4_flood_26 ⟨Nat.zero_le _, Nat.zero_le _⟩ (fun H locs hI => ?_)
      refine xb_eq (tgt := 66) hx hb dX4_flood_29 (by decide) (fun c15 => ?_) (fun c15 => ?_)
      · refine lv_iconst (v := 0) hx hb dX4_flood_66 (by decide) ?_
        have eb16 : (0 : Int32) = bI ((M_isPiece S up) ∧ ((M_isIn S uk 1 100) ∧ ((M_isWater S up) ∧ ((¬ (((S.1 7 up.toNatClampNeg) + (S.1 8 up.toNatClampNeg)) ≤ 0)) ∧ (¬ (500 < ((S.1 9 up.toNatClampNeg) + uk))))))) := (bI_f (fun k => (fun k => (fun k => c15 k.1) k.2) k.2)).symm
        rw [eb16]
        exact hJ1 _ _ hI
      · refine lv_aload_n hx hb dX4_flood_32 rfl (lv_at hl 2 rfl) ?_
        refine gM_23 hx hb hts hown hK hI dX4_flood_33 ?_
        refine lv_iload_n hx hb dX4_flood_36 rfl (lv_at hl 3 rfl) ?_
        refine lM_7 hx hb hK hI (isPiece_in hN c11) dX4_flood_37 ?_
        refine lv_aload_n hx hb dX4_flood_38 rfl (lv_at hl 2 rfl) ?_
        refine gM_26 hx hb hts hown hK hI dX4_flood_39 ?_
        refine lv_iload_n hx hb dX4_flood_42 rfl (lv_at hl 3 rfl) ?_
        refine lM_8 hx hb hK hI (isPiece_in hN c11) dX4_flood_43 ?_
        refine lv_iadd hx hb dX4_flood_44 ?_
        refine lv_if_le (tgt := 66) hx hb dX4_flood_45 (by decide) (fun c17 => ?_) (fun c17 => ?_)
        · refine lv_iconst (v := 0) hx hb dX4_flood_66 (by decide) ?_
          have eb18 : (0 : Int32) = bI ((M_isPiece S up) ∧ ((M_isIn S uk 1 100) ∧ ((M_isWater S up) ∧ ((¬ (((S.1 7 up.toNatClampNeg) + (S.1 8 up.toNatClampNeg)) ≤ 0)) ∧ (¬ (500 < ((S.1 9 up.toNatClampNeg) + uk))))))) := (bI_f (fun k => (fun k => (fun k => (fun k => k.1 c17) k.2) k.2) k.2)).symm
          rw [eb18]
          exact hJ1 _ _ hI
        · refine lv_aload_n hx hb dX4_flood_48 rfl (lv_at hl 2 rfl) ?_
          refine gM_29 hx hb hts hown hK hI dX4_flood_49 ?_
          refine lv_iload_n hx hb dX4_flood_52 rfl (lv_at hl 3 rfl) ?_
          refine lM_9 hx hb hK hI (isPiece_in hN c11) dX4_flood_53 ?_
          refine lv_iload_n hx hb dX4_flood_54 rfl (lv_at hl 4 rfl) ?_
          refine lv_iadd hx hb dX4_flood_55 ?_
          refine lv_sipush (v := 500) hx hb dX4_flood_56 (by decide) ?_
          refine lv_icmp_gt (tgt := 66) hx hb dX4_flood_59 (by decide) (fun c19 => ?_) (fun c19 => ?_)
          · refine lv_iconst (v := 0) hx hb dX4_flood_66 (by decide) ?_
            have eb20 : (0 : Int32) = bI ((M_isPiece S up) ∧ ((M_isIn S uk 1 100) ∧ ((M_isWater S up) ∧ ((¬ (((S.1 7 up.toNatClampNeg) + (S.1 8 up.toNatClampNeg)) ≤ 0)) ∧ (¬ (500 < ((S.1 9 up.toNatClampNeg) + uk))))))) := (bI_f (fun k => (fun k => (fun k => (fun k => (fun k => k c19) k.2) k.2) k.2) k.2)).symm
            rw [eb20]
            exact hJ1 _ _ hI
          · refine lv_iconst (v := 1) hx hb dX4_flood_62 (by decide) ?_
            refine lv_goto (tgt := 67) hx hb dX4_flood_63 (by decide) ?_
            have eb21 : (1 : Int32) = bI ((M_isPiece S up) ∧ ((M_isIn S uk 1 100) ∧ ((M_isWater S up) ∧ ((¬ (((S.1 7 up.toNatClampNeg) + (S.1 8 up.toNatClampNeg)) ≤ 0)) ∧ (¬ (500 < ((S.1 9 up.toNatClampNeg) + uk))))))) := (bI_t ⟨c11, ⟨c13, ⟨c15, ⟨c17, c19⟩⟩⟩⟩).symm
            rw [eb21]
            exact hJ1 _ _ hI

def M_thick (S : MS) (up : Int32) : UInt64 :=
  FP.dadd (FP.i2d (S.1 7 up.toNatClampNeg)) (FP.dmul (4602678819172646912 : UInt64) (FP.i2d (S.1 8 up.toNatClampNeg)))
set_option maxHeartbeats 4000000 in
set_option maxRecDepth 100000 in
theorem cM_thick (G : GX) (ad : Nat → Nat) (S : MS) (up : Int32) (hp : vp_in up 10) : FC G yX4_thick cX4_thick 2 (some .double) ({ frames := 0, cells := 0, slots := 0, locals := 0 }) [.ref (ad 0), .int up] (mW G.2.2.2 ad S) (pv (.double (M_thick S up)) (mW G.2.2.2 ad S)) := by
  refine FC.go (lv := [(0, .ref (ad 0)), (1, .int up)]) (by decide) (Nat.le_of_ble_eq_true rfl) rfl (fun p e s m args below meth c A H locs ls Q hx hb hr hts hown hml hlocks hnm hK hE hI hA hl hQ => ?_)
  have hown : s.vm.findClass RX4 = some m.cls := hown
  refine lv_aload_n hx hb dX4_thick_0 rfl (lv_at hl 0 rfl) ?_
  refine gM_23 hx hb hts hown hK hI dX4_thick_1 ?_
  refine lv_iload_n hx hb dX4_thick_4 rfl (lv_at hl 1 rfl) ?_
  refine lM_7 hx hb hK hI hp dX4_thick_5 ?_
  refine lv_i2d hx hb dX4_thick_6 ?_
  refine lv_ldc2d (v := 4602678819172646912) hx hb hown (hts _ q898) dX4_thick_7 ?_
  refine lv_aload_n hx hb dX4_thick_10 rfl (lv_at hl 0 rfl) ?_
  refine gM_26 hx hb hts hown hK hI dX4_thick_11 ?_
  refine lv_iload_n hx hb dX4_thick_14 rfl (lv_at hl 1 rfl) ?_
  refine lM_8 hx hb hK hI hp dX4_thick_15 ?_
  refine lv_i2d hx hb dX4_thick_16 ?_
  refine lv_dmul hx hb dX4_thick_17 (nn_half _) ?_
  refine lv_dadd hx hb dX4_thick_18 (nn_thick _ _) ?_
  have HE : M_thick S up = FP.dadd (FP.i2d (S.1 7 up.toNatClampNeg)) (FP.dmul (4602678819172646912 : UInt64) (FP.i2d (S.1 8 up.toNatClampNeg))) := by exact rfl
  exact rt_d hx hb hr hlocks hI hA hQ ⟨by rw [HE], rfl⟩ (Nat.zero_le _) (Nat.zero_le _) dX4_thick_19

def M_drill (S : MS) (up : Int32) : UInt64 × MS :=
  if M_isPiece S up then
    let S3 := mset S 29 0 0
    let S4 := mkset S3 up.toNatClampNeg ⟨M_thick S3 up, nn_thick _ _⟩
    ((S4.2 up.toNatClampNeg).1, S4)
  else
    let S2 := mset S 29 0 1
    (FP.dconst0, S2)
set_option maxHeartbeats 4000000 in
set_option maxRecDepth 100000 in
theorem cM_drill (G : GX) (ad : Nat → Nat) (S : MS) (up : Int32) {np nv : Nat} (hN : MNn S np nv) : FC G yX4_drill cX4_drill 2 (some .double) ({ frames := 2, cells := 0, slots := 0, locals := 43 }) [.ref (ad 0), .int up] (mW G.2.2.2 ad S) (pv (.double (M_drill S up).1) (mW G.2.2.2 ad (M_drill S up).2)) := by
  refine FC.go (lv := [(0, .ref (ad 0)), (1, .int up)]) (by decide) (Nat.le_of_ble_eq_true rfl) rfl (fun p e s m args below meth c A H locs ls Q hx hb hr hts hown hml hlocks hnm hK hE hI hA hl hQ => ?_)
  have hown : s.vm.findClass RX4 = some m.cls := hown
  refine lv_aload_n hx hb dX4_drill_0 rfl (lv_at hl 0 rfl) ?_
  refine lv_aload_n hx hb dX4_drill_1 rfl (lv_at hl 0 rfl) ?_
  refine lv_iload_n hx hb dX4_drill_2 rfl (lv_at hl 1 rfl) ?_
  refine cVv (rest := [.ref (ad 0)]) hx hb hml hts hown hK hE hI (cM_isPiece G ad S up) kM_109 ⟨Nat.le_of_ble_eq_true rfl, Nat.le_of_ble_eq_true rfl⟩ rfl rfl (kk := 4) (ii := 0) rfl rfl rfl hl.1 rfl (Nat.le_of_ble_eq_true rfl) dX4_drill_3 ⟨Nat.zero_le _, Nat.zero_le _⟩ (fun H locs hI => ?_)
  refine xb_eq (tgt := 13) hx hb dX4_drill_6 (by decide) (fun c1 => ?_) (fun c1 => ?_)
  · refine lv_iconst (v := 1) hx hb dX4_drill_13 (by decide) ?_
    obtain ⟨S2, eS2⟩ : ∃ z : MS, z = mset S 29 0 1 := ⟨_, rfl⟩
    refine cVv (rest := []) hx hb hml hts hown hK hE hI (cM_fails1 G ad S) kM_101 ⟨Nat.le_of_ble_eq_true rfl, Nat.le_of_ble_eq_true rfl⟩ rfl rfl (kk := 4) (ii := 0) rfl rfl rfl hl.1 rfl (Nat.le_of_ble_eq_true rfl) dX4_drill_14 ⟨Nat.zero_le _, Nat.zero_le _⟩ (fun H locs hI => ?_)
    rw [← eS2] at hI
    refine lv_if_eq (tgt := 22) hx hb dX4_drill_17 (by decide) (fun h => absurd h (by decide)) (fun _ => ?_)
    refine lv_dconst0 hx hb dX4_drill_20 ?_
    have HE : M_drill S up = (FP.dconst0, S2) := by subst eS2; exact (if_neg c1)
    exact rt_d hx hb hr hlocks hI hA hQ ⟨by rw [HE], by rw [HE]⟩ (Nat.zero_le _) (Nat.zero_le _) dX4_drill_21
  · refine lv_iconst (v := 0) hx hb dX4_drill_9 (by decide) ?_
    refine lv_goto (tgt := 14) hx hb dX4_drill_10 (by decide) ?_
    obtain ⟨S3, eS3⟩ : ∃ z : MS, z = mset S 29 0 0 := ⟨_, rfl⟩
    refine cVv (rest := []) hx hb hml hts hown hK hE hI (cM_fails0 G ad S) kM_101 ⟨Nat.le_of_ble_eq_true rfl, Nat.le_of_ble_eq_true rfl⟩ rfl rfl (kk := 4) (ii := 0) rfl rfl rfl hl.1 rfl (Nat.le_of_ble_eq_true rfl) dX4_drill_14 ⟨Nat.zero_le _, Nat.zero_le _⟩ (fun H locs hI => ?_)
    rw [← eS3] at hI
    refine lv_if_eq (tgt := 22) hx hb dX4_drill_17 (by decide) (fun _ => ?_) (fun h => absurd h (by decide))
    refine lv_aload_n hx hb dX4_drill_22 rfl (lv_at hl 0 rfl) ?_
    refine gM_44 hx hb hts hown hK hI dX4_drill_23 ?_
    refine lv_iload_n hx hb dX4_drill_26 rfl (lv_at hl 1 rfl) ?_
    refine lv_aload_n hx hb dX4_drill_27 rfl (lv_at hl 0 rfl) ?_
    refine lv_iload_n hx hb dX4_drill_28 rfl (lv_at hl 1 rfl) ?_
    refine cVv (rest := [.int up, .ref (ad 14)]) hx hb hml hts hown hK hE hI (cM_thick G ad S3 up (isPiece_in hN c1)) kM_117 ⟨Nat.le_of_ble_eq_true rfl, Nat.le_of_ble_eq_true rfl⟩ rfl rfl (kk := 4) (ii := 0) rfl rfl rfl hl.1 rfl (Nat.le_of_ble_eq_true rfl) dX4_drill_29 ⟨Nat.zero_le _, Nat.zero_le _⟩ (fun H locs hI => ?_)
    obtain ⟨S4, eS4⟩ : ∃ z : MS, z = mkset S3 up.toNatClampNeg ⟨M_thick S3 up, nn_thick _ _⟩ := ⟨_, rfl⟩
    refine sM_14 (x := ⟨M_thick S3 up, nn_thick _ _⟩) hx hb hK hI (isPiece_in hN c1) eS4 dX4_drill_32 (fun H locs hI => ?_)
    refine lv_aload_n hx hb dX4_drill_33 rfl (lv_at hl 0 rfl) ?_
    refine gM_44 hx hb hts hown hK hI dX4_drill_34 ?_
    refine lv_iload_n hx hb dX4_drill_37 rfl (lv_at hl 1 rfl) ?_
    refine lM_14 hx hb hK hI (isPiece_in hN c1) dX4_drill_38 ?_
    have HE : M_drill S up = ((S4.2 up.toNatClampNeg).1, S4) := by subst eS4 eS3; exact (if_pos c1)
    exact rt_d hx hb hr hlocks hI hA hQ ⟨by rw [HE], by rw [HE]⟩ (Nat.zero_le _) (Nat.zero_le _) dX4_drill_39

def M_weight (S : MS) (uv : Int32) : Int32 :=
  (S.1 17 uv.toNatClampNeg) + (S.1 24 uv.toNatClampNeg)
set_option maxHeartbeats 4000000 in
set_option maxRecDepth 100000 in
theorem cM_weight (G : GX) (ad : Nat → Nat) (S : MS) (uv : Int32) (hv : vp_in uv 16) : FC G yX4_weight cX4_weight 2 (some .int) ({ frames := 0, cells := 0, slots := 0, locals := 0 }) [.ref (ad 0), .int uv] (mW G.2.2.2 ad S) (pv (.int (M_weight S uv)) (mW G.2.2.2 ad S)) := by
  refine FC.go (lv := [(0, .ref (ad 0)), (1, .int uv)]) (by decide) (Nat.le_of_ble_eq_true rfl) rfl (fun p e s m args below meth c A H locs ls Q hx hb hr hts hown hml hlocks hnm hK hE hI hA hl hQ => ?_)
  have hown : s.vm.findClass RX4 = some m.cls := hown
  refine lv_aload_n hx hb dX4_weight_0 rfl (lv_at hl 0 rfl) ?_
  refine gM_51 hx hb hts hown hK hI dX4_weight_1 ?_
  refine lv_iload_n hx hb dX4_weight_4 rfl (lv_at hl 1 rfl) ?_
  refine lM_17 hx hb hK hI hv dX4_weight_5 ?_
  refine lv_aload_n hx hb dX4_weight_6 rfl (lv_at hl 0 rfl) ?_
  refine gM_73 hx hb hts hown hK hI dX4_weight_7 ?_
  refine lv_iload_n hx hb dX4_weight_10 rfl (lv_at hl 1 rfl) ?_
  refine lM_24 hx hb hK hI hv dX4_weight_11 ?_
  refine lv_iadd hx hb dX4_weight_12 ?_
  have HE : M_weight S uv = (S.1 17 uv.toNatClampNeg) + (S.1 24 uv.toNatClampNeg) := by exact rfl
  exact rt_i hx hb hr hlocks hI hA hQ ⟨by rw [HE], rfl⟩ (Nat.zero_le _) (Nat.zero_le _) dX4_weight_13

def M_order (S : MS) (ug : Int32) (uk : Int32) : Int32 × MS :=
  if M_isGoods S ug then
    if M_isIn S uk 1 1000000 then
      if ((S.1 28 ug.toNatClampNeg) + uk) ≤ 10000000 then
        let S4 := mset S 29 0 0
        let S5 := mset S4 28 ug.toNatClampNeg ((S4.1 28 ug.toNatClampNeg) + uk)
        (S5.1 28 ug.toNatClampNeg, S5)
      else
        let S6 := mset S 29 0 3
        (0, S6)
    else
      let S7 := mset S 29 0 2
      (0, S7)
  else
    let S8 := mset S 29 0 1
    (0, S8)
set_option maxHeartbeats 4000000 in
set_option maxRecDepth 100000 in
theorem cM_order (G : GX) (ad : Nat → Nat) (S : MS) (ug : Int32) (uk : Int32) {np nv : Nat} (hN : MNn S np nv) : FC G yX4_order cX4_order 4 (some .int) ({ frames := 2, cells := 0, slots := 0, locals := 42 }) [.ref (ad 0), .int ug, .int uk] (mW G.2.2.2 ad S) (pv (.int (M_order S ug uk).1) (mW G.2.2.2 ad (M_order S ug uk).2)) := by
  refine FC.go (lv := [(0, .ref (ad 0)), (1, .int ug), (2, .int uk)]) (by decide) (Nat.le_of_ble_eq_true rfl) rfl (fun p e s m args below meth c A H locs ls Q hx hb hr hts hown hml hlocks hnm hK hE hI hA hl hQ => ?_)
  have hown : s.vm.findClass RX4 = some m.cls := hown
  refine lv_iload_n hx hb dX4_order_0 rfl (lv_at hl 2 rfl) ?_
  refine lv_iconst (v := 1) hx hb dX4_order_1 (by decide) ?_
  refine lv_ldc (v := 1000000) hx hb hown (hts _ q956) dX4_order_2 ?_
  refine cSv (rest := []) hx hb hml hts hown hK hE hI (cM_isIn G ad S uk 1 1000000) kM_94 ⟨Nat.le_of_ble_eq_true rfl, Nat.le_of_ble_eq_true rfl⟩ rfl rfl hl.1 rfl (Nat.le_of_ble_eq_true rfl) dX4_order_4 ⟨Nat.zero_le _, Nat.zero_le _⟩ (fun H locs hI => ?_)
  refine lv_istore_n (lv' := [(3, .int (bI (M_isIn S uk 1 1000000))), (0, .ref (ad 0)), (1, .int ug), (2, .int uk)]) hx hb dX4_order_7 rfl hl (by decide) rfl (fun ls hl => ?_)
  refine lv_aload_n hx hb dX4_order_8 rfl (lv_at hl 1 rfl) ?_
  refine lv_iload_n hx hb dX4_order_9 rfl (lv_at hl 2 rfl) ?_
  refine cSv (rest := [.ref (ad 0)]) hx hb hml hts hown hK hE hI (cM_isGoods G ad S ug) kM_126 ⟨Nat.le_of_ble_eq_true rfl, Nat.le_of_ble_eq_true rfl⟩ rfl rfl hl.1 rfl (Nat.le_of_ble_eq_true rfl) dX4_order_10 ⟨Nat.zero_le _, Nat.zero_le _⟩ (fun H locs hI => ?_)
  refine xb_ne (tgt := 20) hx hb dX4_order_13 (by decide) (fun c1 => ?_) (fun c1 => ?_)
  · refine lv_iload_n hx hb dX4_order_20 rfl (lv_at hl 0 rfl) ?_
    refine xb_ne (tgt := 28) hx hb dX4_order_21 (by decide) (fun c2 => ?_) (fun c2 => ?_)
    · refine lv_aload_n hx hb dX4_order_28 rfl (lv_at hl 1 rfl) ?_
      refine gM_85 hx hb hts hown hK hI dX4_order_29 ?_
      refine lv_iload_n hx hb dX4_order_32 rfl (lv_at hl 2 rfl) ?_
      refine lM_28 hx hb hK hI (isGoods_in c1) dX4_order_33 ?_
      refine lv_iload_n hx hb dX4_order_34 rfl (lv_at hl 3 rfl) ?_
      refine lv_iadd hx hb dX4_order_35 ?_
      refine lv_ldc (v := 10000000) hx hb hown (hts _ q957) dX4_order_36 ?_
      refine lv_icmp_le (tgt := 45) hx hb dX4_order_38 (by decide) (fun c3 => ?_) (fun c3 => ?_)
      · refine lv_iconst (v := 0) hx hb dX4_order_45 (by decide) ?_
        obtain ⟨S4, eS4⟩ : ∃ z : MS, z = mset S 29 0 0 := ⟨_, rfl⟩
        refine cVv (rest := []) hx hb hml hts hown hK hE hI (cM_fails0 G ad S) kM_101 ⟨Nat.le_of_ble_eq_true rfl, Nat.le_of_ble_eq_true rfl⟩ rfl rfl (kk := 4) (ii := 0) rfl rfl rfl hl.1 rfl (Nat.le_of_ble_eq_true rfl) dX4_order_46 ⟨Nat.zero_le _, Nat.zero_le _⟩ (fun H locs hI => ?_)
        rw [← eS4] at hI
        refine lv_if_eq (tgt := 54) hx hb dX4_order_49 (by decide) (fun _ => ?_) (fun h => absurd h (by decide))
        refine lv_aload_n hx hb dX4_order_54 rfl (lv_at hl 1 rfl) ?_
        refine gM_85 hx hb hts hown hK hI dX4_order_55 ?_
        refine lv_iload_n hx hb dX4_order_58 rfl (lv_at hl 2 rfl) ?_
        refine lv_dup2_11 hx hb dX4_order_59 rfl rfl ?_
        refine lM_28 hx hb hK hI (isGoods_in c1) dX4_order_60 ?_
        refine lv_iload_n hx hb dX4_order_61 rfl (lv_at hl 3 rfl) ?_
        refine lv_iadd hx hb dX4_order_62 ?_
        obtain ⟨S5, eS5⟩ : ∃ z : MS, z = mset S4 28 ug.toNatClampNeg ((S4.1 28 ug.toNatClampNeg) + uk) := ⟨_, rfl⟩
        refine sM_28 hx hb hK hI (isGoods_in c1) eS5 dX4_order_63 (fun H locs hI => ?_)
        refine lv_aload_n hx hb dX4_order_64 rfl (lv_at hl 1 rfl) ?_
        refine gM_85 hx hb hts hown hK hI dX4_order_65 ?_
        refine lv_iload_n hx hb dX4_order_68 rfl (lv_at hl 2 rfl) ?_
        refine lM_28 hx hb hK hI (isGoods_in c1) dX4_order_69 ?_
        have HE : M_order S ug uk = (S5.1 28 ug.toNatClampNeg, S5) := by subst eS5 eS4; exact (if_pos c1).trans ((if_pos c2).trans ((if_pos c3)))
        exact rt_i hx hb hr hlocks hI hA hQ ⟨by rw [HE], by rw [HE]⟩ (Nat.zero_le _) (Nat.zero_le _) dX4_order_70
      · refine lv_iconst (v := 3) hx hb dX4_order_41 (by decide) ?_
        refine lv_goto (tgt := 46) hx hb dX4_order_42 (by decide) ?_
        obtain ⟨S6, eS6⟩ : ∃ z : MS, z = mset S 29 0 3 := ⟨_, rfl⟩
        refine cVv (rest := []) hx hb hml hts hown hK hE hI (cM_fails3 G ad S) kM_101 ⟨Nat.le_of_ble_eq_true rfl, Nat.le_of_ble_eq_true rfl⟩ rfl rfl (kk := 4) (ii := 0) rfl rfl rfl hl.1 rfl (Nat.le_of_ble_eq_true rfl) dX4_order_46 ⟨Nat.zero_le _, Nat.zero_le _⟩ (fun H locs hI => ?_)
        rw [← eS6] at hI
        refine lv_if_eq (tgt := 54) hx hb dX4_order_49 (by decide) (fun h => absurd h (by decide)) (fun _ => ?_)
        refine lv_iconst (v := 0) hx hb dX4_order_52 (by decide) ?_
        have HE : M_order S ug uk = (0, S6) := by subst eS6; exact (if_pos c1).trans ((if_pos c2).trans ((if_neg c3)))
        exact rt_i hx hb hr hlocks hI hA hQ ⟨by rw [HE], by rw [HE]⟩ (Nat.zero_le _) (Nat.zero_le _) dX4_order_53
    · refine lv_iconst (v := 2) hx hb dX4_order_24 (by decide) ?_
      refine lv_goto (tgt := 46) hx hb dX4_order_25 (by decide) ?_
      obtain ⟨S7, eS7⟩ : ∃ z : MS, z = mset S 29 0 2 := ⟨_, rfl⟩
      refine cVv (rest := []) hx hb hml hts hown hK hE hI (cM_fails2 G ad S) kM_101 ⟨Nat.le_of_ble_eq_true rfl, Nat.le_of_ble_eq_true rfl⟩ rfl rfl (kk := 4) (ii := 0) rfl rfl rfl hl.1 rfl (Nat.le_of_ble_eq_true rfl) dX4_order_46 ⟨Nat.zero_le _, Nat.zero_le _⟩ (fun H locs hI => ?_)
      rw [← eS7] at hI
      refine lv_if_eq (tgt := 54) hx hb dX4_order_49 (by decide) (fun h => absurd h (by decide)) (fun _ => ?_)
      refine lv_iconst (v := 0) hx hb dX4_order_52 (by decide) ?_
      have HE : M_order S ug uk = (0, S7) := by subst eS7; exact (if_pos c1).trans ((if_neg c2))
      exact rt_i hx hb hr hlocks hI hA hQ ⟨by rw [HE], by rw [HE]⟩ (Nat.zero_le _) (Nat.zero_le _) dX4_order_53
  · refine lv_iconst (v := 1) hx hb dX4_order_16 (by decide) ?_
    refine lv_goto (tgt := 46) hx hb dX4_order_17 (by decide) ?_
    obtain ⟨S8, eS8⟩ : ∃ z : MS, z = mset S 29 0 1 := ⟨_, rfl⟩
    refine cVv (rest := []) hx hb hml hts hown hK hE hI (cM_fails1 G ad S) kM_101 ⟨Nat.le_of_ble_eq_true rfl, Nat.le_of_ble_eq_true rfl⟩ rfl rfl (kk := 4) (ii := 0) rfl rfl rfl hl.1 rfl (Nat.le_of_ble_eq_true rfl) dX4_order_46 ⟨Nat.zero_le _, Nat.zero_le _⟩ (fun H locs hI => ?_)
    rw [← eS8] at hI
    refine lv_if_eq (tgt := 54) hx hb dX4_order_49 (by decide) (fun h => absurd h (by decide)) (fun _ => ?_)
    refine lv_iconst (v := 0) hx hb dX4_order_52 (by decide) ?_
    have HE : M_order S ug uk = (0, S8) := by subst eS8; exact (if_neg c1)
    exact rt_i hx hb hr hlocks hI hA hQ ⟨by rw [HE], by rw [HE]⟩ (Nat.zero_le _) (Nat.zero_le _) dX4_order_53

abbrev M_isThere (S : MS) (uv : Int32) : Prop :=
  let x1 := if (S.1 22 uv.toNatClampNeg) = 0 then 0 else (S.1 3 0)
  (S.1 21 uv.toNatClampNeg) = x1
set_option maxHeartbeats 4000000 in
set_option maxRecDepth 100000 in
theorem cM_isThere (G : GX) (ad : Nat → Nat) (S : MS) (uv : Int32) (hv : vp_in uv 16) : FC G yX4_isThere cX4_isThere 2 (some .boolean) ({ frames := 0, cells := 0, slots := 0, locals := 0 }) [.ref (ad 0), .int uv] (mW G.2.2.2 ad S) (pv (.int (bI (M_isThere S uv))) (mW G.2.2.2 ad S)) := by
  refine FC.go (lv := [(0, .ref (ad 0)), (1, .int uv)]) (by decide) (Nat.le_of_ble_eq_true rfl) rfl (fun p e s m args below meth c A H locs ls Q hx hb hr hts hown hml hlocks hnm hK hE hI hA hl hQ => ?_)
  have hown : s.vm.findClass RX4 = some m.cls := hown
  refine lv_aload_n hx hb dX4_isThere_0 rfl (lv_at hl 0 rfl) ?_
  refine gM_63 hx hb hts hown hK hI dX4_isThere_1 ?_
  refine lv_iload_n hx hb dX4_isThere_4 rfl (lv_at hl 1 rfl) ?_
  refine lM_21 hx hb hK hI hv dX4_isThere_5 ?_
  refine lv_aload_n hx hb dX4_isThere_6 rfl (lv_at hl 0 rfl) ?_
  refine gM_66 hx hb hts hown hK hI dX4_isThere_7 ?_
  refine lv_iload_n hx hb dX4_isThere_10 rfl (lv_at hl 1 rfl) ?_
  refine lM_22 hx hb hK hI hv dX4_isThere_11 ?_
  have hJ2 : ∀ (x1 : Int32), (x1 = if (S.1 22 uv.toNatClampNeg) = 0 then 0 else (S.1 3 0)) → W p G.1 e ({ frames := 0, cells := 0, slots := 0, locals := 0 }) s m args below meth c H locs 0 0 Q (F0 m 23 ls [.int x1, .int (S.1 21 uv.toNatClampNeg)]) := by
    intro x1 ex1
    have hJ3 : W p G.1 e ({ frames := 0, cells := 0, slots := 0, locals := 0 }) s m args below meth c H locs 0 0 Q (F0 m 31 ls [.int (bI ((S.1 21 uv.toNatClampNeg) = x1))]) := by
      exact rt_z hx hb hr hlocks bI_narrow hI hA hQ ⟨by subst ex1; rfl, rfl⟩ (Nat.zero_le _) (Nat.zero_le _) dX4_isThere_31
    refine lv_icmp_ne (tgt := 30) hx hb dX4_isThere_23 (by decide) (fun c4 => ?_) (fun c4 => ?_)
    · refine lv_iconst (v := 0) hx hb dX4_isThere_30 (by decide) ?_
      have eb5 : (0 : Int32) = bI ((S.1 21 uv.toNatClampNeg) = x1) := (bI_f c4).symm
      rw [eb5]
      exact hJ3
    · refine lv_iconst (v := 1) hx hb dX4_isThere_26 (by decide) ?_
      refine lv_goto (tgt := 31) hx hb dX4_isThere_27 (by decide) ?_
      have eb6 : (1 : Int32) = bI ((S.1 21 uv.toNatClampNeg) = x1) := (bI_t c4).symm
      rw [eb6]
      exact hJ3
  refine lv_if_eq (tgt := 22) hx hb dX4_isThere_12 (by decide) (fun c7 => ?_) (fun c7 => ?_)
  · refine lv_iconst (v := 0) hx hb dX4_isThere_22 (by decide) ?_
    exact hJ2 0 (by exact (if_pos c7).symm)
  · refine lv_aload_n hx hb dX4_isThere_15 rfl (lv_at hl 0 rfl) ?_
    refine gM_91 hx hb hts hown hK hI dX4_isThere_16 ?_
    refine lv_goto (tgt := 23) hx hb dX4_isThere_19 (by decide) ?_
    exact hJ2 (S.1 3 0) (by exact (if_neg c7).symm)

def M_nextPiece (S : MS) (uv : Int32) : Int32 :=
  let x1 := if (S.1 22 uv.toNatClampNeg) = 0 then ((S.1 21 uv.toNatClampNeg) - 1) else (S.1 21 uv.toNatClampNeg)
  x1
set_option maxHeartbeats 4000000 in
set_option maxRecDepth 100000 in
theorem cM_nextPiece (G : GX) (ad : Nat → Nat) (S : MS) (uv : Int32) (hv : vp_in uv 16) : FC G yX4_nextPiece cX4_nextPiece 2 (some .int) ({ frames := 0, cells := 0, slots := 0, locals := 0 }) [.ref (ad 0), .int uv] (mW G.2.2.2 ad S) (pv (.int (M_nextPiece S uv)) (mW G.2.2.2 ad S)) := by
  refine FC.go (lv := [(0, .ref (ad 0)), (1, .int uv)]) (by decide) (Nat.le_of_ble_eq_true rfl) rfl (fun p e s m args below meth c A H locs ls Q hx hb hr hts hown hml hlocks hnm hK hE hI hA hl hQ => ?_)
  have hown : s.vm.findClass RX4 = some m.cls := hown
  refine lv_aload_n hx hb dX4_nextPiece_0 rfl (lv_at hl 0 rfl) ?_
  refine gM_66 hx hb hts hown hK hI dX4_nextPiece_1 ?_
  refine lv_iload_n hx hb dX4_nextPiece_4 rfl (lv_at hl 1 rfl) ?_
  refine lM_22 hx hb hK hI hv dX4_nextPiece_5 ?_
  have hJ2 : ∀ (x1 : Int32), (x1 = if (S.1 22 uv.toNatClampNeg) = 0 then ((S.1 21 uv.toNatClampNeg) - 1) else (S.1 21 uv.toNatClampNeg)) → W p G.1 e ({ frames := 0, cells := 0, slots := 0, locals := 0 }) s m args below meth c H locs 0 0 Q (F0 m 26 ls [.int x1]) := by
    intro x1 ex1
    have HE : M_nextPiece S uv = x1 := by subst ex1; exact rfl
    exact rt_i hx hb hr hlocks hI hA hQ ⟨by rw [HE], rfl⟩ (Nat.zero_le _) (Nat.zero_le _) dX4_nextPiece_26
  refine lv_if_eq (tgt := 18) hx hb dX4_nextPiece_6 (by decide) (fun c3 => ?_) (fun c3 => ?_)
  · refine lv_aload_n hx hb dX4_nextPiece_18 rfl (lv_at hl 0 rfl) ?_
    refine gM_63 hx hb hts hown hK hI dX4_nextPiece_19 ?_
    refine lv_iload_n hx hb dX4_nextPiece_22 rfl (lv_at hl 1 rfl) ?_
    refine lM_21 hx hb hK hI hv dX4_nextPiece_23 ?_
    refine lv_iconst (v := 1) hx hb dX4_nextPiece_24 (by decide) ?_
    refine lv_isub hx hb dX4_nextPiece_25 ?_
    exact hJ2 ((S.1 21 uv.toNatClampNeg) - 1) (by exact (if_pos c3).symm)
  · refine lv_aload_n hx hb dX4_nextPiece_9 rfl (lv_at hl 0 rfl) ?_
    refine gM_63 hx hb hts hown hK hI dX4_nextPiece_10 ?_
    refine lv_iload_n hx hb dX4_nextPiece_13 rfl (lv_at hl 1 rfl) ?_
    refine lM_21 hx hb hK hI hv dX4_nextPiece_14 ?_
    refine lv_goto (tgt := 26) hx hb dX4_nextPiece_15 (by decide) ?_
    exact hJ2 (S.1 21 uv.toNatClampNeg) (by exact (if_neg c3).symm)

def M_minute (S : MS) : Int32 × MS :=
  let S1 := mset S 29 0 0
  (S1.1 0 0, S1)
set_option maxHeartbeats 4000000 in
set_option maxRecDepth 100000 in
theorem cM_minute (G : GX) (ad : Nat → Nat) (S : MS) : FC G yX4_minute cX4_minute 1 (some .int) ({ frames := 0, cells := 0, slots := 0, locals := 0 }) [.ref (ad 0)] (mW G.2.2.2 ad S) (pv (.int (M_minute S).1) (mW G.2.2.2 ad (M_minute S).2)) := by
  refine FC.go (lv := [(0, .ref (ad 0))]) (by decide) (Nat.le_of_ble_eq_true rfl) rfl (fun p e s m args below meth c A H locs ls Q hx hb hr hts hown hml hlocks hnm hK hE hI hA hl hQ => ?_)
  have hown : s.vm.findClass RX4 = some m.cls := hown
  refine lv_aload_n hx hb dX4_minute_0 rfl (lv_at hl 0 rfl) ?_
  refine lv_iconst (v := 0) hx hb dX4_minute_1 (by decide) ?_
  obtain ⟨S1, eS1⟩ : ∃ z : MS, z = mset S 29 0 0 := ⟨_, rfl⟩
  refine pM_88 hx hb hts hown hK hI eS1 dX4_minute_2 (fun H locs hI => ?_)
  refine lv_aload_n hx hb dX4_minute_5 rfl (lv_at hl 0 rfl) ?_
  refine gM_167 hx hb hts hown hK hI dX4_minute_6 ?_
  have HE : M_minute S = (S1.1 0 0, S1) := by subst eS1; exact rfl
  exact rt_i hx hb hr hlocks hI hA hQ ⟨by rw [HE], by rw [HE]⟩ (Nat.zero_le _) (Nat.zero_le _) dX4_minute_9

def M_missing (S : MS) (ug : Int32) : Int32 :=
  let x1 := if (S.1 28 ug.toNatClampNeg) ≤ (S.1 27 ug.toNatClampNeg) then 0 else ((S.1 28 ug.toNatClampNeg) - (S.1 27 ug.toNatClampNeg))
  x1
set_option maxHeartbeats 4000000 in
set_option maxRecDepth 100000 in
theorem cM_missing (G : GX) (ad : Nat → Nat) (S : MS) (ug : Int32) (hg : vp_in ug 3) : FC G yX4_missing cX4_missing 2 (some .int) ({ frames := 0, cells := 0, slots := 0, locals := 0 }) [.ref (ad 0), .int ug] (mW G.2.2.2 ad S) (pv (.int (M_missing S ug)) (mW G.2.2.2 ad S)) := by
  refine FC.go (lv := [(0, .ref (ad 0)), (1, .int ug)]) (by decide) (Nat.le_of_ble_eq_true rfl) rfl (fun p e s m args below meth c A H locs ls Q hx hb hr hts hown hml hlocks hnm hK hE hI hA hl hQ => ?_)
  have hown : s.vm.findClass RX4 = some m.cls := hown
  refine lv_aload_n hx hb dX4_missing_0 rfl (lv_at hl 0 rfl) ?_
  refine gM_85 hx hb hts hown hK hI dX4_missing_1 ?_
  refine lv_iload_n hx hb dX4_missing_4 rfl (lv_at hl 1 rfl) ?_
  refine lM_28 hx hb hK hI hg dX4_missing_5 ?_
  refine lv_aload_n hx hb dX4_missing_6 rfl (lv_at hl 0 rfl) ?_
  refine gM_82 hx hb hts hown hK hI dX4_missing_7 ?_
  refine lv_iload_n hx hb dX4_missing_10 rfl (lv_at hl 1 rfl) ?_
  refine lM_27 hx hb hK hI hg dX4_missing_11 ?_
  have hJ2 : ∀ (x1 : Int32), (x1 = if (S.1 28 ug.toNatClampNeg) ≤ (S.1 27 ug.toNatClampNeg) then 0 else ((S.1 28 ug.toNatClampNeg) - (S.1 27 ug.toNatClampNeg))) → W p G.1 e ({ frames := 0, cells := 0, slots := 0, locals := 0 }) s m args below meth c H locs 0 0 Q (F0 m 32 ls [.int x1]) := by
    intro x1 ex1
    have HE : M_missing S ug = x1 := by subst ex1; exact rfl
    exact rt_i hx hb hr hlocks hI hA hQ ⟨by rw [HE], rfl⟩ (Nat.zero_le _) (Nat.zero_le _) dX4_missing_32
  refine lv_icmp_le (tgt := 31) hx hb dX4_missing_12 (by decide) (fun c3 => ?_) (fun c3 => ?_)
  · refine lv_iconst (v := 0) hx hb dX4_missing_31 (by decide) ?_
    exact hJ2 0 (by exact (if_pos c3).symm)
  · refine lv_aload_n hx hb dX4_missing_15 rfl (lv_at hl 0 rfl) ?_
    refine gM_85 hx hb hts hown hK hI dX4_missing_16 ?_
    refine lv_iload_n hx hb dX4_missing_19 rfl (lv_at hl 1 rfl) ?_
    refine lM_28 hx hb hK hI hg dX4_missing_20 ?_
    refine lv_aload_n hx hb dX4_missing_21 rfl (lv_at hl 0 rfl) ?_
    refine gM_82 hx hb hts hown hK hI dX4_missing_22 ?_
    refine lv_iload_n hx hb dX4_missing_25 rfl (lv_at hl 1 rfl) ?_
    refine lM_27 hx hb hK hI hg dX4_missing_26 ?_
    refine lv_isub hx hb dX4_missing_27 ?_
    refine lv_goto (tgt := 32) hx hb dX4_missing_28 (by decide) ?_
    exact hJ2 ((S.1 28 ug.toNatClampNeg) - (S.1 27 ug.toNatClampNeg)) (by exact (if_neg c3).symm)

def M_kilosAnew (S : MS) (ug : Int32) : Int32 × MS :=
  if M_isGoods S ug then
    let S3 := mset S 29 0 0
    (S3.1 26 ug.toNatClampNeg, S3)
  else
    let S2 := mset S 29 0 1
    (0, S2)
set_option maxHeartbeats 4000000 in
set_option maxRecDepth 100000 in
theorem cM_kilosAnew (G : GX) (ad : Nat → Nat) (S : MS) (ug : Int32) {np nv : Nat} (hN : MNn S np nv) : FC G yX4_kilosAnew cX4_kilosAnew 2 (some .int) ({ frames := 2, cells := 0, slots := 0, locals := 42 }) [.ref (ad 0), .int ug] (mW G.2.2.2 ad S) (pv (.int (M_kilosAnew S ug).1) (mW G.2.2.2 ad (M_kilosAnew S ug).2)) := by
  refine FC.go (lv := [(0, .ref (ad 0)), (1, .int ug)]) (by decide) (Nat.le_of_ble_eq_true rfl) rfl (fun p e s m args below meth c A H locs ls Q hx hb hr hts hown hml hlocks hnm hK hE hI hA hl hQ => ?_)
  have hown : s.vm.findClass RX4 = some m.cls := hown
  refine lv_aload_n hx hb dX4_kilosAnew_0 rfl (lv_at hl 0 rfl) ?_
  refine lv_iload_n hx hb dX4_kilosAnew_1 rfl (lv_at hl 1 rfl) ?_
  refine cSv (rest := [.ref (ad 0)]) hx hb hml hts hown hK hE hI (cM_isGoods G ad S ug) kM_126 ⟨Nat.le_of_ble_eq_true rfl, Nat.le_of_ble_eq_true rfl⟩ rfl rfl hl.1 rfl (Nat.le_of_ble_eq_true rfl) dX4_kilosAnew_2 ⟨Nat.zero_le _, Nat.zero_le _⟩ (fun H locs hI => ?_)
  refine xb_eq (tgt := 12) hx hb dX4_kilosAnew_5 (by decide) (fun c1 => ?_) (fun c1 => ?_)
  · refine lv_iconst (v := 1) hx hb dX4_kilosAnew_12 (by decide) ?_
    obtain ⟨S2, eS2⟩ : ∃ z : MS, z = mset S 29 0 1 := ⟨_, rfl⟩
    refine cVv (rest := []) hx hb hml hts hown hK hE hI (cM_fails1 G ad S) kM_101 ⟨Nat.le_of_ble_eq_true rfl, Nat.le_of_ble_eq_true rfl⟩ rfl rfl (kk := 4) (ii := 0) rfl rfl rfl hl.1 rfl (Nat.le_of_ble_eq_true rfl) dX4_kilosAnew_13 ⟨Nat.zero_le _, Nat.zero_le _⟩ (fun H locs hI => ?_)
    rw [← eS2] at hI
    refine lv_if_eq (tgt := 23) hx hb dX4_kilosAnew_16 (by decide) (fun h => absurd h (by decide)) (fun _ => ?_)
    refine lv_iconst (v := 0) hx hb dX4_kilosAnew_19 (by decide) ?_
    refine lv_goto (tgt := 29) hx hb dX4_kilosAnew_20 (by decide) ?_
    have HE : M_kilosAnew S ug = (0, S2) := by subst eS2; exact (if_neg c1)
    exact rt_i hx hb hr hlocks hI hA hQ ⟨by rw [HE], by rw [HE]⟩ (Nat.zero_le _) (Nat.zero_le _) dX4_kilosAnew_29
  · refine lv_iconst (v := 0) hx hb dX4_kilosAnew_8 (by decide) ?_
    refine lv_goto (tgt := 13) hx hb dX4_kilosAnew_9 (by decide) ?_
    obtain ⟨S3, eS3⟩ : ∃ z : MS, z = mset S 29 0 0 := ⟨_, rfl⟩
    refine cVv (rest := []) hx hb hml hts hown hK hE hI (cM_fails0 G ad S) kM_101 ⟨Nat.le_of_ble_eq_true rfl, Nat.le_of_ble_eq_true rfl⟩ rfl rfl (kk := 4) (ii := 0) rfl rfl rfl hl.1 rfl (Nat.le_of_ble_eq_true rfl) dX4_kilosAnew_13 ⟨Nat.zero_le _, Nat.zero_le _⟩ (fun H locs hI => ?_)
    rw [← eS3] at hI
    refine lv_if_eq (tgt := 23) hx hb dX4_kilosAnew_16 (by decide) (fun _ => ?_) (fun h => absurd h (by decide))
    refine lv_aload_n hx hb dX4_kilosAnew_23 rfl (lv_at hl 0 rfl) ?_
    refine gM_79 hx hb hts hown hK hI dX4_kilosAnew_24 ?_
    refine lv_iload_n hx hb dX4_kilosAnew_27 rfl (lv_at hl 1 rfl) ?_
    refine lM_26 hx hb hK hI (isGoods_in c1) dX4_kilosAnew_28 ?_
    have HE : M_kilosAnew S ug = (S3.1 26 ug.toNatClampNeg, S3) := by subst eS3; exact (if_pos c1)
    exact rt_i hx hb hr hlocks hI hA hQ ⟨by rw [HE], by rw [HE]⟩ (Nat.zero_le _) (Nat.zero_le _) dX4_kilosAnew_29

def M_bearsBy (S : MS) (up : Int32) (ut : UInt64) : Int32 :=
  if M_isWater S up then
    let x2 := if (S.1 11 up.toNatClampNeg) = 0 then FP.dconst1 else (if (S.1 11 up.toNatClampNeg) = 1 then (4604930618986332160 : UInt64) else (4602678819172646912 : UInt64))
    FP.d2i (FP.dmul (FP.dmul (FP.dmul (4585925428558828667 : UInt64) ut) ut) x2)
  else
    let x6 := if (S.1 10 up.toNatClampNeg) < 100 then 0 else 60000
    x6
set_option maxHeartbeats 4000000 in
set_option maxRecDepth 100000 in
theorem cM_bearsBy (G : GX) (ad : Nat → Nat) (S : MS) (up : Int32) (ut : UInt64) (hp : vp_in up 10) (ht : vf_n64 ut) : FC G yX4_bearsBy cX4_bearsBy 4 (some .int) ({ frames := 1, cells := 0, slots := 0, locals := 21 }) [.ref (ad 0), .int up, .double ut] (mW G.2.2.2 ad S) (pv (.int (M_bearsBy S up ut)) (mW G.2.2.2 ad S)) := by
  refine FC.go (lv := [(0, .ref (ad 0)), (1, .int up), (2, .double ut)]) (by decide) (Nat.le_of_ble_eq_true rfl) rfl (fun p e s m args below meth c A H locs ls Q hx hb hr hts hown hml hlocks hnm hK hE hI hA hl hQ => ?_)
  have hown : s.vm.findClass RX4 = some m.cls := hown
  refine lv_aload_n hx hb dX4_bearsBy_0 rfl (lv_at hl 0 rfl) ?_
  refine lv_iload_n hx hb dX4_bearsBy_1 rfl (lv_at hl 1 rfl) ?_
  refine cVv (rest := []) hx hb hml hts hown hK hE hI (cM_isWater G ad S up hp) kM_112 ⟨Nat.le_of_ble_eq_true rfl, Nat.le_of_ble_eq_true rfl⟩ rfl rfl (kk := 4) (ii := 0) rfl rfl rfl hl.1 rfl (Nat.le_of_ble_eq_true rfl) dX4_bearsBy_2 ⟨Nat.zero_le _, Nat.zero_le _⟩ (fun H locs hI => ?_)
  refine xb_ne (tgt := 26) hx hb dX4_bearsBy_5 (by decide) (fun c1 => ?_) (fun c1 => ?_)
  · refine lv_ldc2d (v := 4585925428558828667) hx hb hown (hts _ q1003) dX4_bearsBy_26 ?_
    refine lv_dload_n hx hb dX4_bearsBy_29 rfl (lv_at hl 2 rfl) ?_
    refine lv_dmul hx hb dX4_bearsBy_30 (nn_b1 ht) ?_
    refine lv_dload_n hx hb dX4_bearsBy_31 rfl (lv_at hl 2 rfl) ?_
    refine lv_dmul hx hb dX4_bearsBy_32 (nn_b2 ht) ?_
    refine lv_aload_n hx hb dX4_bearsBy_33 rfl (lv_at hl 0 rfl) ?_
    refine gM_35 hx hb hts hown hK hI dX4_bearsBy_34 ?_
    refine lv_iload_n hx hb dX4_bearsBy_37 rfl (lv_at hl 1 rfl) ?_
    refine lM_11 hx hb hK hI hp dX4_bearsBy_38 ?_
    have hJ3 : ∀ (x2 : UInt64), (x2 = if (S.1 11 up.toNatClampNeg) = 0 then FP.dconst1 else (if (S.1 11 up.toNatClampNeg) = 1 then (4604930618986332160 : UInt64) else (4602678819172646912 : UInt64))) → W p G.1 e ({ frames := 1, cells := 0, slots := 0, locals := 21 }) s m args below meth c H locs 0 0 Q (F0 m 65 ls [.double x2, .double (FP.dmul (FP.dmul (4585925428558828667 : UInt64) ut) ut)]) := by
      intro x2 ex2
      refine lv_dmul hx hb dX4_bearsBy_65 (nn_b3 (nn_b2 ht) (nn_sv ex2)) ?_
      refine lv_d2i hx hb dX4_bearsBy_66 ?_
      have HE : M_bearsBy S up ut = FP.d2i (FP.dmul (FP.dmul (FP.dmul (4585925428558828667 : UInt64) ut) ut) x2) := by subst ex2; exact (if_pos c1)
      exact rt_i hx hb hr hlocks hI hA hQ ⟨by rw [HE], rfl⟩ (Nat.zero_le _) (Nat.zero_le _) dX4_bearsBy_67
    refine lv_if_ne (tgt := 46) hx hb dX4_bearsBy_39 (by decide) (fun c4 => ?_) (fun c4 => ?_)
    · refine lv_aload_n hx hb dX4_bearsBy_46 rfl (lv_at hl 0 rfl) ?_
      refine gM_35 hx hb hts hown hK hI dX4_bearsBy_47 ?_
      refine lv_iload_n hx hb dX4_bearsBy_50 rfl (lv_at hl 1 rfl) ?_
      refine lM_11 hx hb hK hI hp dX4_bearsBy_51 ?_
      refine lv_iconst (v := 1) hx hb dX4_bearsBy_52 (by decide) ?_
      refine lv_icmp_ne (tgt := 62) hx hb dX4_bearsBy_53 (by decide) (fun c5 => ?_) (fun c5 => ?_)
      · refine lv_ldc2d (v := 4602678819172646912) hx hb hown (hts _ q898) dX4_bearsBy_62 ?_
        exact hJ3 (4602678819172646912 : UInt64) (by exact ((if_neg c4).trans (if_neg c5)).symm)
      · refine lv_ldc2d (v := 4604930618986332160) hx hb hown (hts _ q1004) dX4_bearsBy_56 ?_
        refine lv_goto (tgt := 65) hx hb dX4_bearsBy_59 (by decide) ?_
        exact hJ3 (4604930618986332160 : UInt64) (by exact ((if_neg c4).trans (if_pos c5)).symm)
    · refine lv_dconst1 hx hb dX4_bearsBy_42 ?_
      refine lv_goto (tgt := 65) hx hb dX4_bearsBy_43 (by decide) ?_
      exact hJ3 FP.dconst1 (by exact (if_pos c4).symm)
  · refine lv_aload_n hx hb dX4_bearsBy_8 rfl (lv_at hl 0 rfl) ?_
    refine gM_32 hx hb hts hown hK hI dX4_bearsBy_9 ?_
    refine lv_iload_n hx hb dX4_bearsBy_12 rfl (lv_at hl 1 rfl) ?_
    refine lM_10 hx hb hK hI hp dX4_bearsBy_13 ?_
    refine lv_bipush (v := 100) hx hb dX4_bearsBy_14 (by decide) ?_
    have hJ7 : ∀ (x6 : Int32), (x6 = if (S.1 10 up.toNatClampNeg) < 100 then 0 else 60000) → W p G.1 e ({ frames := 1, cells := 0, slots := 0, locals := 21 }) s m args below meth c H locs 0 0 Q (F0 m 25 ls [.int x6]) := by
      intro x6 ex6
      have HE : M_bearsBy S up ut = x6 := by subst ex6; exact (if_neg c1)
      exact rt_i hx hb hr hlocks hI hA hQ ⟨by rw [HE], rfl⟩ (Nat.zero_le _) (Nat.zero_le _) dX4_bearsBy_25
    refine lv_icmp_lt (tgt := 24) hx hb dX4_bearsBy_16 (by decide) (fun c8 => ?_) (fun c8 => ?_)
    · refine lv_iconst (v := 0) hx hb dX4_bearsBy_24 (by decide) ?_
      exact hJ7 0 (by exact (if_pos c8).symm)
    · refine lv_ldc (v := 60000) hx hb hown (hts _ q916) dX4_bearsBy_19 ?_
      refine lv_goto (tgt := 25) hx hb dX4_bearsBy_21 (by decide) ?_
      exact hJ7 60000 (by exact (if_neg c8).symm)
end
section
def M_weights_s (S : MS) (up : Int32) (n : Nat) (a1 : Int32) : Int32 :=
  let x3 := if (S.1 20 (nI n).toNatClampNeg) = 1 then (if (S.1 21 (nI n).toNatClampNeg) = up then (M_weight S (nI n)) else 0) else 0
  let x5 := (nI n) + 1
  a1 + x3
def M_weights_f (S : MS) (up : Int32) : Nat → Int32
  | 0 => 0
  | n + 1 => M_weights_s S up n (M_weights_f S up n)

def M_weights (S : MS) (up : Int32) : Int32 :=
  let a1 := M_weights_f S up (S.1 16 0).toNatClampNeg
  a1
set_option maxHeartbeats 4000000 in
set_option maxRecDepth 100000 in
theorem cM_weights (G : GX) (ad : Nat → Nat) (S : MS) (up : Int32) {np nv : Nat} (hN : MNn S np nv) : FC G yX4_weights cX4_weights 4 (some .int) ({ frames := 1, cells := 0, slots := 0, locals := 21 }) [.ref (ad 0), .int up] (mW G.2.2.2 ad S) (pv (.int (M_weights S up)) (mW G.2.2.2 ad S)) := by
  refine FC.go (lv := [(0, .ref (ad 0)), (1, .int up)]) (by decide) (Nat.le_of_ble_eq_true rfl) rfl (fun p e s m args below meth c A H locs ls Q hx hb hr hts hown hml hlocks hnm hK hE hI hA hl hQ => ?_)
  have hown : s.vm.findClass RX4 = some m.cls := hown
  have hv16 := hN.2.2.2
  refine lv_iconst (v := 0) hx hb dX4_weights_0 (by decide) ?_
  refine lv_istore_n (lv' := [(2, .int 0), (0, .ref (ad 0)), (1, .int up)]) hx hb dX4_weights_1 rfl hl (by decide) rfl (fun ls hl => ?_)
  refine lv_iconst (v := 0) hx hb dX4_weights_2 (by decide) ?_
  refine lv_istore_n (lv' := [(3, .int 0), (2, .int 0), (0, .ref (ad 0)), (1, .int up)]) hx hb dX4_weights_3 rfl hl (by decide) rfl (fun ls hl => ?_)
  have hL2 : ∀ (k n : Nat), n + k = nv → ∀ (i_ : Int32) (a1 : Int32) (H : Heap) (locs : List Loc) (ls : Array Slot), (i_ = nI n) → (a1 = M_weights_f S up n) → (fI G.2.2.1 A s.heap (mW G.2.2.2 ad S) H locs) → (lv_has ls 4 [(3, .int i_), (2, .int a1), (0, .ref (ad 0)), (1, .int up)]) → W p G.1 e ({ frames := 1, cells := 0, slots := 0, locals := 21 }) s m args below meth c H locs 0 0 Q (F0 m 4 ls []) := by
    intro k
    induction k with
    | zero =>
      intro n hnk i_ a1 H locs ls ei ea1 hI hl
      subst ei
      refine lv_iload_n hx hb dX4_weights_4 rfl (lv_at hl 0 rfl) ?_
      refine lv_aload_n hx hb dX4_weights_5 rfl (lv_at hl 2 rfl) ?_
      refine gM_98 hx hb hts hown hK hI dX4_weights_6 ?_
      refine lv_icmp_ge (tgt := 50) hx hb dX4_weights_9 (by decide) (fun _ => ?_) (fun h => absurd (by rw [hN.2.2.1]; exact nI_le (by omega) (by omega)) h)
      have hn9 : n = (S.1 16 0).toNatClampNeg := by rw [hN.2.2.1, nI_clamp (by omega)]; omega
      rw [hn9] at ea1
      have hl : lv_has ls 4 [(2, .int a1), (0, .ref (ad 0)), (1, .int up)] := lv_sub hl [1, 2, 3] rfl
      refine lv_iload_n hx hb dX4_weights_50 rfl (lv_at hl 0 rfl) ?_
      have HE : M_weights S up = a1 := by subst ea1; exact rfl
      exact rt_i hx hb hr hlocks hI hA hQ ⟨by rw [HE], rfl⟩ (Nat.zero_le _) (Nat.zero_le _) dX4_weights_51
    | succ k ih =>
      intro n hnk i_ a1 H locs ls ei ea1 hI hl
      subst ei
      refine lv_iload_n hx hb dX4_weights_4 rfl (lv_at hl 0 rfl) ?_
      refine lv_aload_n hx hb dX4_weights_5 rfl (lv_at hl 2 rfl) ?_
      refine gM_98 hx hb hts hown hK hI dX4_weights_6 ?_
      refine lv_icmp_ge (tgt := 50) hx hb dX4_weights_9 (by decide) (fun h => absurd h (by rw [hN.2.2.1]; exact nI_ge (by omega) (by omega))) (fun _ => ?_)
      refine lv_iload_n hx hb dX4_weights_12 rfl (lv_at hl 1 rfl) ?_
      refine lv_aload_n hx hb dX4_weights_13 rfl (lv_at hl 2 rfl) ?_
      refine gM_60 hx hb hts hown hK hI dX4_weights_14 ?_
      refine lv_iload_n hx hb dX4_weights_17 rfl (lv_at hl 0 rfl) ?_
      refine lM_20 hx hb hK hI (vp_in_nI (by omega) (by decide)) dX4_weights_18 ?_
      refine lv_iconst (v := 1) hx hb dX4_weights_19 (by decide) ?_
      have hJ4 : ∀ (x3 : Int32) (H : Heap) (locs : List Loc), (x3 = if (S.1 20 (nI n).toNatClampNeg) = 1 then (if (S.1 21 (nI n).toNatClampNeg) = up then (M_weight S (nI n)) else 0) else 0) → (fI G.2.2.1 A s.heap (mW G.2.2.2 ad S) H locs) → W p G.1 e ({ frames := 1, cells := 0, slots := 0, locals := 21 }) s m args below meth c H locs 0 0 Q (F0 m 42 ls [.int x3, .int a1]) := by
        intro x3 H locs ex3 hI
        refine lv_iadd hx hb dX4_weights_42 ?_
        refine lv_istore_n (lv' := [(2, .int (a1 + x3)), (3, .int (nI n)), (0, .ref (ad 0)), (1, .int up)]) hx hb dX4_weights_43 rfl hl (by decide) rfl (fun ls hl => ?_)
        obtain ⟨x5, ex5⟩ : ∃ z : Int32, z = (nI n) + 1 := ⟨_, rfl⟩
        refine lv_iinc (v := x5) (lv' := [(3, .int x5), (2, .int (a1 + x3)), (0, .ref (ad 0)), (1, .int up)]) hx hb dX4_weights_44 hl (k := 1) rfl (by rw [ex5]; rfl) (by decide) rfl (fun ls hl => ?_)
        refine lv_goto (tgt := 4) hx hb dX4_weights_47 (by decide) ?_
        have HE : M_weights_s S up n a1 = a1 + x3 := by subst ex5 ex3; exact rfl
        exact ih (n + 1) (by omega) x5 (a1 + x3) H locs ls (by rw [ex5]; exact nI_1 n) (by show _ = M_weights_s S up n (M_weights_f S up n); rw [← ea1]; exact HE.symm) hI (lv_sub hl [0, 1, 2, 3] rfl)
      refine lv_icmp_ne (tgt := 41) hx hb dX4_weights_20 (by decide) (fun c6 => ?_) (fun c6 => ?_)
      · refine lv_iconst (v := 0) hx hb dX4_weights_41 (by decide) ?_
        exact hJ4 0 _ _ (by exact (if_neg c6).symm) hI
      · refine lv_aload_n hx hb dX4_weights_23 rfl (lv_at hl 2 rfl) ?_
        refine gM_63 hx hb hts hown hK hI dX4_weights_24 ?_
        refine lv_iload_n hx hb dX4_weights_27 rfl (lv_at hl 0 rfl) ?_
        refine lM_21 hx hb hK hI (vp_in_nI (by omega) (by decide)) dX4_weights_28 ?_
        refine lv_iload_n hx hb dX4_weights_29 rfl (lv_at hl 3 rfl) ?_
        refine lv_icmp_ne (tgt := 41) hx hb dX4_weights_30 (by decide) (fun c7 => ?_) (fun c7 => ?_)
        · refine lv_iconst (v := 0) hx hb dX4_weights_41 (by decide) ?_
          exact hJ4 0 _ _ (by exact ((if_pos c6).trans (if_neg c7)).symm) hI
        · refine lv_aload_n hx hb dX4_weights_33 rfl (lv_at hl 2 rfl) ?_
          refine lv_iload_n hx hb dX4_weights_34 rfl (lv_at hl 0 rfl) ?_
          refine cVv (rest := [.int a1]) hx hb hml hts hown hK hE hI (cM_weight G ad S (nI n) (vp_in_nI (by omega) (by decide))) kM_129 ⟨Nat.le_of_ble_eq_true rfl, Nat.le_of_ble_eq_true rfl⟩ rfl rfl (kk := 4) (ii := 0) rfl rfl rfl hl.1 rfl (Nat.le_of_ble_eq_true rfl) dX4_weights_35 ⟨Nat.zero_le _, Nat.zero_le _⟩ (fun H locs hI => ?_)
          refine lv_goto (tgt := 42) hx hb dX4_weights_38 (by decide) ?_
          exact hJ4 (M_weight S (nI n)) _ _ (by exact ((if_pos c6).trans (if_pos c7)).symm) hI
  exact hL2 nv 0 (by omega) 0 0 H locs ls nI_0.symm rfl hI (lv_sub hl [0, 1, 2, 3] rfl)

def M_isMet_s (S : MS) (uv up : Int32) (n : Nat) (a1 : Int32) : Int32 :=
  let x4 := (nI n) + 1
  bI ((¬ (a1 = 0)) ∨ (((S.1 20 (nI n).toNatClampNeg) = 1) ∧ (((S.1 21 (nI n).toNatClampNeg) = up) ∧ (¬ ((S.1 22 (nI n).toNatClampNeg) = (S.1 22 uv.toNatClampNeg))))))
def M_isMet_f (S : MS) (uv up : Int32) : Nat → Int32
  | 0 => 0
  | n + 1 => M_isMet_s S uv up n (M_isMet_f S uv up n)

def M_isMet (S : MS) (uv : Int32) (up : Int32) : Int32 :=
  let a1 := M_isMet_f S uv up (S.1 16 0).toNatClampNeg
  a1
theorem M_isMet_nar (S : MS) (uv up : Int32) (n : Nat) (a : Int32) (h : a = M_isMet_f S uv up n) : narrow .boolean (.int a) = .int a := by
  subst h
  cases n with
  | zero => show narrow .boolean (.int 0) = .int 0; decide
  | succ n => exact bI_narrow
set_option maxHeartbeats 4000000 in
set_option maxRecDepth 100000 in
theorem cM_isMet (G : GX) (ad : Nat → Nat) (S : MS) (uv : Int32) (up : Int32) {np nv : Nat} (hv : vp_in uv 16) (hN : MNn S np nv) : FC G yX4_isMet cX4_isMet 5 (some .boolean) ({ frames := 0, cells := 0, slots := 0, locals := 0 }) [.ref (ad 0), .int uv, .int up] (mW G.2.2.2 ad S) (pv (.int (M_isMet S uv up)) (mW G.2.2.2 ad S)) := by
  refine FC.go (lv := [(0, .ref (ad 0)), (1, .int uv), (2, .int up)]) (by decide) (Nat.le_of_ble_eq_true rfl) rfl (fun p e s m args below meth c A H locs ls Q hx hb hr hts hown hml hlocks hnm hK hE hI hA hl hQ => ?_)
  have hown : s.vm.findClass RX4 = some m.cls := hown
  have hv16 := hN.2.2.2
  refine lv_iconst (v := 0) hx hb dX4_isMet_0 (by decide) ?_
  refine lv_istore_n (lv' := [(3, .int 0), (0, .ref (ad 0)), (1, .int uv), (2, .int up)]) hx hb dX4_isMet_1 rfl hl (by decide) rfl (fun ls hl => ?_)
  refine lv_iconst (v := 0) hx hb dX4_isMet_2 (by decide) ?_
  refine lv_istore (lv' := [(4, .int 0), (3, .int 0), (0, .ref (ad 0)), (1, .int uv), (2, .int up)]) hx hb dX4_isMet_3 hl (by decide) rfl (fun ls hl => ?_)
  have hL2 : ∀ (k n : Nat), n + k = nv → ∀ (i_ : Int32) (a1 : Int32) (H : Heap) (locs : List Loc) (ls : Array Slot), (i_ = nI n) → (a1 = M_isMet_f S uv up n) → (fI G.2.2.1 A s.heap (mW G.2.2.2 ad S) H locs) → (lv_has ls 5 [(4, .int i_), (3, .int a1), (0, .ref (ad 0)), (1, .int uv), (2, .int up)]) → W p G.1 e ({ frames := 0, cells := 0, slots := 0, locals := 0 }) s m args below meth c H locs 0 0 Q (F0 m 5 ls []) := by
    intro k
    induction k with
    | zero =>
      intro n hnk i_ a1 H locs ls ei ea1 hI hl
      subst ei
      refine lv_iload hx hb dX4_isMet_5 (lv_at hl 0 rfl) ?_
      refine lv_aload_n hx hb dX4_isMet_7 rfl (lv_at hl 2 rfl) ?_
      refine gM_98 hx hb hts hown hK hI dX4_isMet_8 ?_
      refine lv_icmp_ge (tgt := 68) hx hb dX4_isMet_11 (by decide) (fun _ => ?_) (fun h => absurd (by rw [hN.2.2.1]; exact nI_le (by omega) (by omega)) h)
      have hn9 : n = (S.1 16 0).toNatClampNeg := by rw [hN.2.2.1, nI_clamp (by omega)]; omega
      rw [hn9] at ea1
      have hl : lv_has ls 5 [(3, .int a1), (0, .ref (ad 0)), (1, .int uv), (2, .int up)] := lv_sub hl [1, 2, 3, 4] rfl
      refine lv_iload_n hx hb dX4_isMet_68 rfl (lv_at hl 0 rfl) ?_
      have HE : M_isMet S uv up = a1 := by subst ea1; exact rfl
      exact rt_z hx hb hr hlocks (M_isMet_nar _ _ _ _ _ (by assumption)) hI hA hQ ⟨by rw [HE], rfl⟩ (Nat.zero_le _) (Nat.zero_le _) dX4_isMet_69
    | succ k ih =>
      intro n hnk i_ a1 H locs ls ei ea1 hI hl
      subst ei
      refine lv_iload hx hb dX4_isMet_5 (lv_at hl 0 rfl) ?_
      refine lv_aload_n hx hb dX4_isMet_7 rfl (lv_at hl 2 rfl) ?_
      refine gM_98 hx hb hts hown hK hI dX4_isMet_8 ?_
      refine lv_icmp_ge (tgt := 68) hx hb dX4_isMet_11 (by decide) (fun h => absurd h (by rw [hN.2.2.1]; exact nI_ge (by omega) (by omega))) (fun _ => ?_)
      refine lv_iload_n hx hb dX4_isMet_14 rfl (lv_at hl 1 rfl) ?_
      have hJ3 : W p G.1 e ({ frames := 0, cells := 0, slots := 0, locals := 0 }) s m args below meth c H locs 0 0 Q (F0 m 61 ls [.int (bI ((¬ (a1 = 0)) ∨ (((S.1 20 (nI n).toNatClampNeg) = 1) ∧ (((S.1 21 (nI n).toNatClampNeg) = up) ∧ (¬ ((S.1 22 (nI n).toNatClampNeg) = (S.1 22 uv.toNatClampNeg)))))))]) := by
        refine lv_istore_n (lv' := [(3, .int (bI ((¬ (a1 = 0)) ∨ (((S.1 20 (nI n).toNatClampNeg) = 1) ∧ (((S.1 21 (nI n).toNatClampNeg) = up) ∧ (¬ ((S.1 22 (nI n).toNatClampNeg) = (S.1 22 uv.toNatClampNeg)))))))), (4, .int (nI n)), (0, .ref (ad 0)), (1, .int uv), (2, .int up)]) hx hb dX4_isMet_61 rfl hl (by decide) rfl (fun ls hl => ?_)
        obtain ⟨x4, ex4⟩ : ∃ z : Int32, z = (nI n) + 1 := ⟨_, rfl⟩
        refine lv_iinc (v := x4) (lv' := [(4, .int x4), (3, .int (bI ((¬ (a1 = 0)) ∨ (((S.1 20 (nI n).toNatClampNeg) = 1) ∧ (((S.1 21 (nI n).toNatClampNeg) = up) ∧ (¬ ((S.1 22 (nI n).toNatClampNeg) = (S.1 22 uv.toNatClampNeg)))))))), (0, .ref (ad 0)), (1, .int uv), (2, .int up)]) hx hb dX4_isMet_62 hl (k := 1) rfl (by rw [ex4]; rfl) (by decide) rfl (fun ls hl => ?_)
        refine lv_goto (tgt := 5) hx hb dX4_isMet_65 (by decide) ?_
        have HE : M_isMet_s S uv up n a1 = bI ((¬ (a1 = 0)) ∨ (((S.1 20 (nI n).toNatClampNeg) = 1) ∧ (((S.1 21 (nI n).toNatClampNeg) = up) ∧ (¬ ((S.1 22 (nI n).toNatClampNeg) = (S.1 22 uv.toNatClampNeg)))))) := by subst ex4; exact rfl
        exact ih (n + 1) (by omega) x4 (bI ((¬ (a1 = 0)) ∨ (((S.1 20 (nI n).toNatClampNeg) = 1) ∧ (((S.1 21 (nI n).toNatClampNeg) = up) ∧ (¬ ((S.1 22 (nI n).toNatClampNeg) = (S.1 22 uv.toNatClampNeg))))))) H locs ls (by rw [ex4]; exact nI_1 n) (by show _ = M_isMet_s S uv up n (M_isMet_f S uv up n); rw [← ea1]; exact HE.symm) hI (lv_sub hl [0, 1, 2, 3, 4] rfl)
      refine lv_if_ne (tgt := 56) hx hb dX4_isMet_15 (by decide) (fun c5 => ?_) (fun c5 => ?_)
      · refine lv_iconst (v := 1) hx hb dX4_isMet_56 (by decide) ?_
        refine lv_goto (tgt := 61) hx hb dX4_isMet_57 (by decide) ?_
        have eb6 : (1 : Int32) = bI ((¬ (a1 = 0)) ∨ (((S.1 20 (nI n).toNatClampNeg) = 1) ∧ (((S.1 21 (nI n).toNatClampNeg) = up) ∧ (¬ ((S.1 22 (nI n).toNatClampNeg) = (S.1 22 uv.toNatClampNeg)))))) := (bI_t (Or.inl c5)).symm
        rw [eb6]
        exact hJ3
      · refine lv_aload_n hx hb dX4_isMet_18 rfl (lv_at hl 2 rfl) ?_
        refine gM_60 hx hb hts hown hK hI dX4_isMet_19 ?_
        refine lv_iload hx hb dX4_isMet_22 (lv_at hl 0 rfl) ?_
        refine lM_20 hx hb hK hI (vp_in_nI (by omega) (by decide)) dX4_isMet_24 ?_
        refine lv_iconst (v := 1) hx hb dX4_isMet_25 (by decide) ?_
        refine lv_icmp_ne (tgt := 60) hx hb dX4_isMet_26 (by decide) (fun c7 => ?_) (fun c7 => ?_)
        · refine lv_iconst (v := 0) hx hb dX4_isMet_60 (by decide) ?_
          have eb8 : (0 : Int32) = bI ((¬ (a1 = 0)) ∨ (((S.1 20 (nI n).toNatClampNeg) = 1) ∧ (((S.1 21 (nI n).toNatClampNeg) = up) ∧ (¬ ((S.1 22 (nI n).toNatClampNeg) = (S.1 22 uv.toNatClampNeg)))))) := (bI_f (fun k => k.elim (fun z => z c5) (fun k => c7 k.1))).symm
          rw [eb8]
          exact hJ3
        · refine lv_aload_n hx hb dX4_isMet_29 rfl (lv_at hl 2 rfl) ?_
          refine gM_63 hx hb hts hown hK hI dX4_isMet_30 ?_
          refine lv_iload hx hb dX4_isMet_33 (lv_at hl 0 rfl) ?_
          refine lM_21 hx hb hK hI (vp_in_nI (by omega) (by decide)) dX4_isMet_35 ?_
          refine lv_iload_n hx hb dX4_isMet_36 rfl (lv_at hl 4 rfl) ?_
          refine lv_icmp_ne (tgt := 60) hx hb dX4_isMet_37 (by decide) (fun c9 => ?_) (fun c9 => ?_)
          · refine lv_iconst (v := 0) hx hb dX4_isMet_60 (by decide) ?_
            have eb10 : (0 : Int32) = bI ((¬ (a1 = 0)) ∨ (((S.1 20 (nI n).toNatClampNeg) = 1) ∧ (((S.1 21 (nI n).toNatClampNeg) = up) ∧ (¬ ((S.1 22 (nI n).toNatClampNeg) = (S.1 22 uv.toNatClampNeg)))))) := (bI_f (fun k => k.elim (fun z => z c5) (fun k => (fun k => c9 k.1) k.2))).symm
            rw [eb10]
            exact hJ3
          · refine lv_aload_n hx hb dX4_isMet_40 rfl (lv_at hl 2 rfl) ?_
            refine gM_66 hx hb hts hown hK hI dX4_isMet_41 ?_
            refine lv_iload hx hb dX4_isMet_44 (lv_at hl 0 rfl) ?_
            refine lM_22 hx hb hK hI (vp_in_nI (by omega) (by decide)) dX4_isMet_46 ?_
            refine lv_aload_n hx hb dX4_isMet_47 rfl (lv_at hl 2 rfl) ?_
            refine gM_66 hx hb hts hown hK hI dX4_isMet_48 ?_
            refine lv_iload_n hx hb dX4_isMet_51 rfl (lv_at hl 3 rfl) ?_
            refine lM_22 hx hb hK hI hv dX4_isMet_52 ?_
            refine lv_icmp_eq (tgt := 60) hx hb dX4_isMet_53 (by decide) (fun c11 => ?_) (fun c11 => ?_)
            · refine lv_iconst (v := 0) hx hb dX4_isMet_60 (by decide) ?_
              have eb12 : (0 : Int32) = bI ((¬ (a1 = 0)) ∨ (((S.1 20 (nI n).toNatClampNeg) = 1) ∧ (((S.1 21 (nI n).toNatClampNeg) = up) ∧ (¬ ((S.1 22 (nI n).toNatClampNeg) = (S.1 22 uv.toNatClampNeg)))))) := (bI_f (fun k => k.elim (fun z => z c5) (fun k => (fun k => (fun k => k c11) k.2) k.2))).symm
              rw [eb12]
              exact hJ3
            · refine lv_iconst (v := 1) hx hb dX4_isMet_56 (by decide) ?_
              refine lv_goto (tgt := 61) hx hb dX4_isMet_57 (by decide) ?_
              have eb13 : (1 : Int32) = bI ((¬ (a1 = 0)) ∨ (((S.1 20 (nI n).toNatClampNeg) = 1) ∧ (((S.1 21 (nI n).toNatClampNeg) = up) ∧ (¬ ((S.1 22 (nI n).toNatClampNeg) = (S.1 22 uv.toNatClampNeg)))))) := (bI_t (Or.inr ⟨c7, ⟨c9, c11⟩⟩)).symm
              rw [eb13]
              exact hJ3
  exact hL2 nv 0 (by omega) 0 0 H locs ls nI_0.symm rfl hI (lv_sub hl [0, 1, 2, 3, 4] rfl)

def M_many_s (S : MS) (up : Int32) (n : Nat) (a1 : Int32) : Int32 :=
  let x4 := (nI n) + 1
  a1 + (bI (((S.1 20 (nI n).toNatClampNeg) = 1) ∧ ((S.1 21 (nI n).toNatClampNeg) = up)))
def M_many_f (S : MS) (up : Int32) : Nat → Int32
  | 0 => 0
  | n + 1 => M_many_s S up n (M_many_f S up n)

def M_many (S : MS) (up : Int32) : Int32 :=
  let a1 := M_many_f S up (S.1 16 0).toNatClampNeg
  a1
set_option maxHeartbeats 4000000 in
set_option maxRecDepth 100000 in
theorem cM_many (G : GX) (ad : Nat → Nat) (S : MS) (up : Int32) {np nv : Nat} (hN : MNn S np nv) : FC G yX4_many cX4_many 4 (some .int) ({ frames := 0, cells := 0, slots := 0, locals := 0 }) [.ref (ad 0), .int up] (mW G.2.2.2 ad S) (pv (.int (M_many S up)) (mW G.2.2.2 ad S)) := by
  refine FC.go (lv := [(0, .ref (ad 0)), (1, .int up)]) (by decide) (Nat.le_of_ble_eq_true rfl) rfl (fun p e s m args below meth c A H locs ls Q hx hb hr hts hown hml hlocks hnm hK hE hI hA hl hQ => ?_)
  have hown : s.vm.findClass RX4 = some m.cls := hown
  have hv16 := hN.2.2.2
  refine lv_iconst (v := 0) hx hb dX4_many_0 (by decide) ?_
  refine lv_istore_n (lv' := [(2, .int 0), (0, .ref (ad 0)), (1, .int up)]) hx hb dX4_many_1 rfl hl (by decide) rfl (fun ls hl => ?_)
  refine lv_iconst (v := 0) hx hb dX4_many_2 (by decide) ?_
  refine lv_istore_n (lv' := [(3, .int 0), (2, .int 0), (0, .ref (ad 0)), (1, .int up)]) hx hb dX4_many_3 rfl hl (by decide) rfl (fun ls hl => ?_)
  have hL2 : ∀ (k n : Nat), n + k = nv → ∀ (i_ : Int32) (a1 : Int32) (H : Heap) (locs : List Loc) (ls : Array Slot), (i_ = nI n) → (a1 = M_many_f S up n) → (fI G.2.2.1 A s.heap (mW G.2.2.2 ad S) H locs) → (lv_has ls 4 [(3, .int i_), (2, .int a1), (0, .ref (ad 0)), (1, .int up)]) → W p G.1 e ({ frames := 0, cells := 0, slots := 0, locals := 0 }) s m args below meth c H locs 0 0 Q (F0 m 4 ls []) := by
    intro k
    induction k with
    | zero =>
      intro n hnk i_ a1 H locs ls ei ea1 hI hl
      subst ei
      refine lv_iload_n hx hb dX4_many_4 rfl (lv_at hl 0 rfl) ?_
      refine lv_aload_n hx hb dX4_many_5 rfl (lv_at hl 2 rfl) ?_
      refine gM_98 hx hb hts hown hK hI dX4_many_6 ?_
      refine lv_icmp_ge (tgt := 46) hx hb dX4_many_9 (by decide) (fun _ => ?_) (fun h => absurd (by rw [hN.2.2.1]; exact nI_le (by omega) (by omega)) h)
      have hn9 : n = (S.1 16 0).toNatClampNeg := by rw [hN.2.2.1, nI_clamp (by omega)]; omega
      rw [hn9] at ea1
      have hl : lv_has ls 4 [(2, .int a1), (0, .ref (ad 0)), (1, .int up)] := lv_sub hl [1, 2, 3] rfl
      refine lv_iload_n hx hb dX4_many_46 rfl (lv_at hl 0 rfl) ?_
      have HE : M_many S up = a1 := by subst ea1; exact rfl
      exact rt_i hx hb hr hlocks hI hA hQ ⟨by rw [HE], rfl⟩ (Nat.zero_le _) (Nat.zero_le _) dX4_many_47
    | succ k ih =>
      intro n hnk i_ a1 H locs ls ei ea1 hI hl
      subst ei
      refine lv_iload_n hx hb dX4_many_4 rfl (lv_at hl 0 rfl) ?_
      refine lv_aload_n hx hb dX4_many_5 rfl (lv_at hl 2 rfl) ?_
      refine gM_98 hx hb hts hown hK hI dX4_many_6 ?_
      refine lv_icmp_ge (tgt := 46) hx hb dX4_many_9 (by decide) (fun h => absurd h (by rw [hN.2.2.1]; exact nI_ge (by omega) (by omega))) (fun _ => ?_)
      refine lv_iload_n hx hb dX4_many_12 rfl (lv_at hl 1 rfl) ?_
      refine lv_aload_n hx hb dX4_many_13 rfl (lv_at hl 2 rfl) ?_
      refine gM_60 hx hb hts hown hK hI dX4_many_14 ?_
      refine lv_iload_n hx hb dX4_many_17 rfl (lv_at hl 0 rfl) ?_
      refine lM_20 hx hb hK hI (vp_in_nI (by omega) (by decide)) dX4_many_18 ?_
      refine lv_iconst (v := 1) hx hb dX4_many_19 (by decide) ?_
      have hJ3 : W p G.1 e ({ frames := 0, cells := 0, slots := 0, locals := 0 }) s m args below meth c H locs 0 0 Q (F0 m 38 ls [.int (bI (((S.1 20 (nI n).toNatClampNeg) = 1) ∧ ((S.1 21 (nI n).toNatClampNeg) = up))), .int a1]) := by
        refine lv_iadd hx hb dX4_many_38 ?_
        refine lv_istore_n (lv' := [(2, .int (a1 + (bI (((S.1 20 (nI n).toNatClampNeg) = 1) ∧ ((S.1 21 (nI n).toNatClampNeg) = up))))), (3, .int (nI n)), (0, .ref (ad 0)), (1, .int up)]) hx hb dX4_many_39 rfl hl (by decide) rfl (fun ls hl => ?_)
        obtain ⟨x4, ex4⟩ : ∃ z : Int32, z = (nI n) + 1 := ⟨_, rfl⟩
        refine lv_iinc (v := x4) (lv' := [(3, .int x4), (2, .int (a1 + (bI (((S.1 20 (nI n).toNatClampNeg) = 1) ∧ ((S.1 21 (nI n).toNatClampNeg) = up))))), (0, .ref (ad 0)), (1, .int up)]) hx hb dX4_many_40 hl (k := 1) rfl (by rw [ex4]; rfl) (by decide) rfl (fun ls hl => ?_)
        refine lv_goto (tgt := 4) hx hb dX4_many_43 (by decide) ?_
        have HE : M_many_s S up n a1 = a1 + (bI (((S.1 20 (nI n).toNatClampNeg) = 1) ∧ ((S.1 21 (nI n).toNatClampNeg) = up))) := by subst ex4; exact rfl
        exact ih (n + 1) (by omega) x4 (a1 + (bI (((S.1 20 (nI n).toNatClampNeg) = 1) ∧ ((S.1 21 (nI n).toNatClampNeg) = up)))) H locs ls (by rw [ex4]; exact nI_1 n) (by show _ = M_many_s S up n (M_many_f S up n); rw [← ea1]; exact HE.symm) hI (lv_sub hl [0, 1, 2, 3] rfl)
      refine lv_icmp_ne (tgt := 37) hx hb dX4_many_20 (by decide) (fun c5 => ?_) (fun c5 => ?_)
      · refine lv_iconst (v := 0) hx hb dX4_many_37 (by decide) ?_
        have eb6 : (0 : Int32) = bI (((S.1 20 (nI n).toNatClampNeg) = 1) ∧ ((S.1 21 (nI n).toNatClampNeg) = up)) := (bI_f (fun k => c5 k.1)).symm
        rw [eb6]
        exact hJ3
      · refine lv_aload_n hx hb dX4_many_23 rfl (lv_at hl 2 rfl) ?_
        refine gM_63 hx hb hts hown hK hI dX4_many_24 ?_
        refine lv_iload_n hx hb dX4_many_27 rfl (lv_at hl 0 rfl) ?_
        refine lM_21 hx hb hK hI (vp_in_nI (by omega) (by decide)) dX4_many_28 ?_
        refine lv_iload_n hx hb dX4_many_29 rfl (lv_at hl 3 rfl) ?_
        refine lv_icmp_ne (tgt := 37) hx hb dX4_many_30 (by decide) (fun c7 => ?_) (fun c7 => ?_)
        · refine lv_iconst (v := 0) hx hb dX4_many_37 (by decide) ?_
          have eb8 : (0 : Int32) = bI (((S.1 20 (nI n).toNatClampNeg) = 1) ∧ ((S.1 21 (nI n).toNatClampNeg) = up)) := (bI_f (fun k => c7 k.2)).symm
          rw [eb8]
          exact hJ3
        · refine lv_iconst (v := 1) hx hb dX4_many_33 (by decide) ?_
          refine lv_goto (tgt := 38) hx hb dX4_many_34 (by decide) ?_
          have eb9 : (1 : Int32) = bI (((S.1 20 (nI n).toNatClampNeg) = 1) ∧ ((S.1 21 (nI n).toNatClampNeg) = up)) := (bI_t ⟨c5, c7⟩).symm
          rw [eb9]
          exact hJ3
  exact hL2 nv 0 (by omega) 0 0 H locs ls nI_0.symm rfl hI (lv_sub hl [0, 1, 2, 3] rfl)

def M_carried_s (S : MS) (ug ub : Int32) (n : Nat) (a1 : Int32) : Int32 :=
  let x3 := if (S.1 25 (nI n).toNatClampNeg) = ug then (if (bI ((S.1 20 (nI n).toNatClampNeg) = 4)) = ub then (S.1 24 (nI n).toNatClampNeg) else 0) else 0
  let x5 := (nI n) + 1
  a1 + x3
def M_carried_f (S : MS) (ug ub : Int32) : Nat → Int32
  | 0 => 0
  | n + 1 => M_carried_s S ug ub n (M_carried_f S ug ub n)

def M_carried (S : MS) (ug : Int32) (ub : Int32) : Int32 :=
  let a1 := M_carried_f S ug ub (S.1 16 0).toNatClampNeg
  a1
set_option maxHeartbeats 4000000 in
set_option maxRecDepth 100000 in
theorem cM_carried (G : GX) (ad : Nat → Nat) (S : MS) (ug : Int32) (ub : Int32) {np nv : Nat} (hN : MNn S np nv) : FC G yX4_carried cX4_carried 5 (some .int) ({ frames := 0, cells := 0, slots := 0, locals := 0 }) [.ref (ad 0), .int ug, .int ub] (mW G.2.2.2 ad S) (pv (.int (M_carried S ug ub)) (mW G.2.2.2 ad S)) := by
  refine FC.go (lv := [(0, .ref (ad 0)), (1, .int ug), (2, .int ub)]) (by decide) (Nat.le_of_ble_eq_true rfl) rfl (fun p e s m args below meth c A H locs ls Q hx hb hr hts hown hml hlocks hnm hK hE hI hA hl hQ => ?_)
  have hown : s.vm.findClass RX4 = some m.cls := hown
  have hv16 := hN.2.2.2
  refine lv_iconst (v := 0) hx hb dX4_carried_0 (by decide) ?_
  refine lv_istore_n (lv' := [(3, .int 0), (0, .ref (ad 0)), (1, .int ug), (2, .int ub)]) hx hb dX4_carried_1 rfl hl (by decide) rfl (fun ls hl => ?_)
  refine lv_iconst (v := 0) hx hb dX4_carried_2 (by decide) ?_
  refine lv_istore (lv' := [(4, .int 0), (3, .int 0), (0, .ref (ad 0)), (1, .int ug), (2, .int ub)]) hx hb dX4_carried_3 hl (by decide) rfl (fun ls hl => ?_)
  have hL2 : ∀ (k n : Nat), n + k = nv → ∀ (i_ : Int32) (a1 : Int32) (H : Heap) (locs : List Loc) (ls : Array Slot), (i_ = nI n) → (a1 = M_carried_f S ug ub n) → (fI G.2.2.1 A s.heap (mW G.2.2.2 ad S) H locs) → (lv_has ls 5 [(4, .int i_), (3, .int a1), (0, .ref (ad 0)), (1, .int ug), (2, .int ub)]) → W p G.1 e ({ frames := 0, cells := 0, slots := 0, locals := 0 }) s m args below meth c H locs 0 0 Q (F0 m 5 ls []) := by
    intro k
    induction k with
    | zero =>
      intro n hnk i_ a1 H locs ls ei ea1 hI hl
      subst ei
      refine lv_iload hx hb dX4_carried_5 (lv_at hl 0 rfl) ?_
      refine lv_aload_n hx hb dX4_carried_7 rfl (lv_at hl 2 rfl) ?_
      refine gM_98 hx hb hts hown hK hI dX4_carried_8 ?_
      refine lv_icmp_ge (tgt := 65) hx hb dX4_carried_11 (by decide) (fun _ => ?_) (fun h => absurd (by rw [hN.2.2.1]; exact nI_le (by omega) (by omega)) h)
      have hn9 : n = (S.1 16 0).toNatClampNeg := by rw [hN.2.2.1, nI_clamp (by omega)]; omega
      rw [hn9] at ea1
      have hl : lv_has ls 5 [(3, .int a1), (0, .ref (ad 0)), (1, .int ug), (2, .int ub)] := lv_sub hl [1, 2, 3, 4] rfl
      refine lv_iload_n hx hb dX4_carried_65 rfl (lv_at hl 0 rfl) ?_
      have HE : M_carried S ug ub = a1 := by subst ea1; exact rfl
      exact rt_i hx hb hr hlocks hI hA hQ ⟨by rw [HE], rfl⟩ (Nat.zero_le _) (Nat.zero_le _) dX4_carried_66
    | succ k ih =>
      intro n hnk i_ a1 H locs ls ei ea1 hI hl
      subst ei
      refine lv_iload hx hb dX4_carried_5 (lv_at hl 0 rfl) ?_
      refine lv_aload_n hx hb dX4_carried_7 rfl (lv_at hl 2 rfl) ?_
      refine gM_98 hx hb hts hown hK hI dX4_carried_8 ?_
      refine lv_icmp_ge (tgt := 65) hx hb dX4_carried_11 (by decide) (fun h => absurd h (by rw [hN.2.2.1]; exact nI_ge (by omega) (by omega))) (fun _ => ?_)
      refine lv_iload_n hx hb dX4_carried_14 rfl (lv_at hl 1 rfl) ?_
      refine lv_aload_n hx hb dX4_carried_15 rfl (lv_at hl 2 rfl) ?_
      refine gM_76 hx hb hts hown hK hI dX4_carried_16 ?_
      refine lv_iload hx hb dX4_carried_19 (lv_at hl 0 rfl) ?_
      refine lM_25 hx hb hK hI (vp_in_nI (by omega) (by decide)) dX4_carried_21 ?_
      refine lv_iload_n hx hb dX4_carried_22 rfl (lv_at hl 3 rfl) ?_
      have hJ4 : ∀ (x3 : Int32), (x3 = if (S.1 25 (nI n).toNatClampNeg) = ug then (if (bI ((S.1 20 (nI n).toNatClampNeg) = 4)) = ub then (S.1 24 (nI n).toNatClampNeg) else 0) else 0) → W p G.1 e ({ frames := 0, cells := 0, slots := 0, locals := 0 }) s m args below meth c H locs 0 0 Q (F0 m 57 ls [.int x3, .int a1]) := by
        intro x3 ex3
        refine lv_iadd hx hb dX4_carried_57 ?_
        refine lv_istore_n (lv' := [(3, .int (a1 + x3)), (4, .int (nI n)), (0, .ref (ad 0)), (1, .int ug), (2, .int ub)]) hx hb dX4_carried_58 rfl hl (by decide) rfl (fun ls hl => ?_)
        obtain ⟨x5, ex5⟩ : ∃ z : Int32, z = (nI n) + 1 := ⟨_, rfl⟩
        refine lv_iinc (v := x5) (lv' := [(4, .int x5), (3, .int (a1 + x3)), (0, .ref (ad 0)), (1, .int ug), (2, .int ub)]) hx hb dX4_carried_59 hl (k := 1) rfl (by rw [ex5]; rfl) (by decide) rfl (fun ls hl => ?_)
        refine lv_goto (tgt := 5) hx hb dX4_carried_62 (by decide) ?_
        have HE : M_carried_s S ug ub n a1 = a1 + x3 := by subst ex5 ex3; exact rfl
        exact ih (n + 1) (by omega) x5 (a1 + x3) H locs ls (by rw [ex5]; exact nI_1 n) (by show _ = M_carried_s S ug ub n (M_carried_f S ug ub n); rw [← ea1]; exact HE.symm) hI (lv_sub hl [0, 1, 2, 3, 4] rfl)
      refine lv_icmp_ne (tgt := 56) hx hb dX4_carried_23 (by decide) (fun c6 => ?_) (fun c6 => ?_)
      · refine lv_iconst (v := 0) hx hb dX4_carried_56 (by decide) ?_
        exact hJ4 0 (by exact (if_neg c6).symm)
      · refine lv_aload_n hx hb dX4_carried_26 rfl (lv_at hl 2 rfl) ?_
        refine gM_60 hx hb hts hown hK hI dX4_carried_27 ?_
        refine lv_iload hx hb dX4_carried_30 (lv_at hl 0 rfl) ?_
        refine lM_20 hx hb hK hI (vp_in_nI (by omega) (by decide)) dX4_carried_32 ?_
        refine lv_iconst (v := 4) hx hb dX4_carried_33 (by decide) ?_
        have hJ7 : W p G.1 e ({ frames := 0, cells := 0, slots := 0, locals := 0 }) s m args below meth c H locs 0 0 Q (F0 m 42 ls [.int (bI ((S.1 20 (nI n).toNatClampNeg) = 4)), .int a1]) := by
          refine lv_iload_n hx hb dX4_carried_42 rfl (lv_at hl 4 rfl) ?_
          refine lv_icmp_ne (tgt := 56) hx hb dX4_carried_43 (by decide) (fun c8 => ?_) (fun c8 => ?_)
          · refine lv_iconst (v := 0) hx hb dX4_carried_56 (by decide) ?_
            exact hJ4 0 (by exact ((if_pos c6).trans (if_neg c8)).symm)
          · refine lv_aload_n hx hb dX4_carried_46 rfl (lv_at hl 2 rfl) ?_
            refine gM_73 hx hb hts hown hK hI dX4_carried_47 ?_
            refine lv_iload hx hb dX4_carried_50 (lv_at hl 0 rfl) ?_
            refine lM_24 hx hb hK hI (vp_in_nI (by omega) (by decide)) dX4_carried_52 ?_
            refine lv_goto (tgt := 57) hx hb dX4_carried_53 (by decide) ?_
            exact hJ4 (S.1 24 (nI n).toNatClampNeg) (by exact ((if_pos c6).trans (if_pos c8)).symm)
        refine lv_icmp_ne (tgt := 41) hx hb dX4_carried_34 (by decide) (fun c9 => ?_) (fun c9 => ?_)
        · refine lv_iconst (v := 0) hx hb dX4_carried_41 (by decide) ?_
          have eb10 : (0 : Int32) = bI ((S.1 20 (nI n).toNatClampNeg) = 4) := (bI_f c9).symm
          rw [eb10]
          exact hJ7
        · refine lv_iconst (v := 1) hx hb dX4_carried_37 (by decide) ?_
          refine lv_goto (tgt := 42) hx hb dX4_carried_38 (by decide) ?_
          have eb11 : (1 : Int32) = bI ((S.1 20 (nI n).toNatClampNeg) = 4) := (bI_t c9).symm
          rw [eb11]
          exact hJ7
  exact hL2 nv 0 (by omega) 0 0 H locs ls nI_0.symm rfl hI (lv_sub hl [0, 1, 2, 3, 4] rfl)
end
section
def M_snow_s (S5 : MS) (uk : Int32) (n : Nat) : MS :=
  let S7 := mset S5 10 (nI n).toNatClampNeg ((S5.1 10 (nI n).toNatClampNeg) + uk)
  let x8 := (nI n) + 1
  S7
def M_snow_f (S : MS) (uk : Int32) : Nat → MS
  | 0 => S
  | n + 1 => M_snow_s (M_snow_f S uk n) uk n

def M_snow (S : MS) (uk : Int32) : Int32 × MS :=
  if M_isIn S uk 1 500 then
    let S3 := mset S 29 0 0
    let S5 := M_snow_f S3 uk (S3.1 3 0).toNatClampNeg
    (S5.1 3 0, S5)
  else
    let S2 := mset S 29 0 1
    (0, S2)
theorem M_snow_N {S : MS} {uk : Int32} {np nv : Nat} (h : MNn S np nv) (n : Nat) : MNn (M_snow_f S uk n) np nv := by
  induction n with
  | zero => exact h
  | succ n ih => exact MNn_set (k := 10) ih (by decide) (by decide) rfl
set_option maxHeartbeats 4000000 in
set_option maxRecDepth 100000 in
theorem cM_snow (G : GX) (ad : Nat → Nat) (S : MS) (uk : Int32) {np nv : Nat} (hN : MNn S np nv) : FC G yX4_snow cX4_snow 3 (some .int) ({ frames := 1, cells := 0, slots := 0, locals := 22 }) [.ref (ad 0), .int uk] (mW G.2.2.2 ad S) (pv (.int (M_snow S uk).1) (mW G.2.2.2 ad (M_snow S uk).2)) := by
  refine FC.go (lv := [(0, .ref (ad 0)), (1, .int uk)]) (by decide) (Nat.le_of_ble_eq_true rfl) rfl (fun p e s m args below meth c A H locs ls Q hx hb hr hts hown hml hlocks hnm hK hE hI hA hl hQ => ?_)
  have hown : s.vm.findClass RX4 = some m.cls := hown
  have hv16 := hN.2.2.2
  have hp10 := hN.2.1
  refine lv_aload_n hx hb dX4_snow_0 rfl (lv_at hl 0 rfl) ?_
  refine lv_iload_n hx hb dX4_snow_1 rfl (lv_at hl 1 rfl) ?_
  refine lv_iconst (v := 1) hx hb dX4_snow_2 (by decide) ?_
  refine lv_sipush (v := 500) hx hb dX4_snow_3 (by decide) ?_
  refine cSv (rest := [.ref (ad 0)]) hx hb hml hts hown hK hE hI (cM_isIn G ad S uk 1 500) kM_94 ⟨Nat.le_of_ble_eq_true rfl, Nat.le_of_ble_eq_true rfl⟩ rfl rfl hl.1 rfl (Nat.le_of_ble_eq_true rfl) dX4_snow_6 ⟨Nat.zero_le _, Nat.zero_le _⟩ (fun H locs hI => ?_)
  refine xb_eq (tgt := 16) hx hb dX4_snow_9 (by decide) (fun c1 => ?_) (fun c1 => ?_)
  · refine lv_iconst (v := 1) hx hb dX4_snow_16 (by decide) ?_
    obtain ⟨S2, eS2⟩ : ∃ z : MS, z = mset S 29 0 1 := ⟨_, rfl⟩
    refine cVv (rest := []) hx hb hml hts hown hK hE hI (cM_fails1 G ad S) kM_101 ⟨Nat.le_of_ble_eq_true rfl, Nat.le_of_ble_eq_true rfl⟩ rfl rfl (kk := 4) (ii := 0) rfl rfl rfl hl.1 rfl (Nat.le_of_ble_eq_true rfl) dX4_snow_17 ⟨Nat.zero_le _, Nat.zero_le _⟩ (fun H locs hI => ?_)
    rw [← eS2] at hI
    refine lv_if_eq (tgt := 25) hx hb dX4_snow_20 (by decide) (fun h => absurd h (by decide)) (fun _ => ?_)
    refine lv_iconst (v := 0) hx hb dX4_snow_23 (by decide) ?_
    have HE : M_snow S uk = (0, S2) := by subst eS2; exact (if_neg c1)
    exact rt_i hx hb hr hlocks hI hA hQ ⟨by rw [HE], by rw [HE]⟩ (Nat.zero_le _) (Nat.zero_le _) dX4_snow_24
  · refine lv_iconst (v := 0) hx hb dX4_snow_12 (by decide) ?_
    refine lv_goto (tgt := 17) hx hb dX4_snow_13 (by decide) ?_
    obtain ⟨S3, eS3⟩ : ∃ z : MS, z = mset S 29 0 0 := ⟨_, rfl⟩
    refine cVv (rest := []) hx hb hml hts hown hK hE hI (cM_fails0 G ad S) kM_101 ⟨Nat.le_of_ble_eq_true rfl, Nat.le_of_ble_eq_true rfl⟩ rfl rfl (kk := 4) (ii := 0) rfl rfl rfl hl.1 rfl (Nat.le_of_ble_eq_true rfl) dX4_snow_17 ⟨Nat.zero_le _, Nat.zero_le _⟩ (fun H locs hI => ?_)
    rw [← eS3] at hI
    refine lv_if_eq (tgt := 25) hx hb dX4_snow_20 (by decide) (fun _ => ?_) (fun h => absurd h (by decide))
    refine lv_iconst (v := 0) hx hb dX4_snow_25 (by decide) ?_
    refine lv_istore_n (lv' := [(2, .int 0), (0, .ref (ad 0)), (1, .int uk)]) hx hb dX4_snow_26 rfl hl (by decide) rfl (fun ls hl => ?_)
    have hL6 : ∀ (k n : Nat), n + k = np → ∀ (i_ : Int32) (S5 : MS) (H : Heap) (locs : List Loc) (ls : Array Slot), (i_ = nI n) → (S5 = M_snow_f S3 uk n) → (fI G.2.2.1 A s.heap (mW G.2.2.2 ad S5) H locs) → (lv_has ls 3 [(2, .int i_), (0, .ref (ad 0)), (1, .int uk)]) → W p G.1 e ({ frames := 1, cells := 0, slots := 0, locals := 22 }) s m args below meth c H locs 0 0 Q (F0 m 27 ls []) := by
      intro k
      induction k with
      | zero =>
        intro n hnk i_ S5 H locs ls ei eS5 hI hl
        subst ei
        have hN2 : MNn S5 np nv := by rw [eS5]; exact M_snow_N ((MNn_set hN (by decide) (by decide) eS3)) n
        refine lv_iload_n hx hb dX4_snow_27 rfl (lv_at hl 0 rfl) ?_
        refine lv_aload_n hx hb dX4_snow_28 rfl (lv_at hl 1 rfl) ?_
        refine gM_91 hx hb hts hown hK hI dX4_snow_29 ?_
        refine lv_icmp_ge (tgt := 51) hx hb dX4_snow_32 (by decide) (fun _ => ?_) (fun h => absurd (by rw [hN2.1]; exact nI_le (by omega) (by omega)) h)
        have hn9 : n = (S3.1 3 0).toNatClampNeg := by rw [((MNn_set hN (by decide) (by decide) eS3)).1, nI_clamp (by omega)]; omega
        rw [hn9] at eS5
        have hl : lv_has ls 3 [(0, .ref (ad 0)), (1, .int uk)] := lv_sub hl [1, 2] rfl
        refine lv_aload_n hx hb dX4_snow_51 rfl (lv_at hl 0 rfl) ?_
        refine gM_91 hx hb hts hown hK hI dX4_snow_52 ?_
        have HE : M_snow S uk = (S5.1 3 0, S5) := by subst eS5 eS3; exact (if_pos c1)
        exact rt_i hx hb hr hlocks hI hA hQ ⟨by rw [HE], by rw [HE]⟩ (Nat.zero_le _) (Nat.zero_le _) dX4_snow_55
      | succ k ih =>
        intro n hnk i_ S5 H locs ls ei eS5 hI hl
        subst ei
        have hN2 : MNn S5 np nv := by rw [eS5]; exact M_snow_N ((MNn_set hN (by decide) (by decide) eS3)) n
        refine lv_iload_n hx hb dX4_snow_27 rfl (lv_at hl 0 rfl) ?_
        refine lv_aload_n hx hb dX4_snow_28 rfl (lv_at hl 1 rfl) ?_
        refine gM_91 hx hb hts hown hK hI dX4_snow_29 ?_
        refine lv_icmp_ge (tgt := 51) hx hb dX4_snow_32 (by decide) (fun h => absurd h (by rw [hN2.1]; exact nI_ge (by omega) (by omega))) (fun _ => ?_)
        refine lv_aload_n hx hb dX4_snow_35 rfl (lv_at hl 1 rfl) ?_
        refine gM_32 hx hb hts hown hK hI dX4_snow_36 ?_
        refine lv_iload_n hx hb dX4_snow_39 rfl (lv_at hl 0 rfl) ?_
        refine lv_dup2_11 hx hb dX4_snow_40 rfl rfl ?_
        refine lM_10 hx hb hK hI (vp_in_nI (by omega) (by decide)) dX4_snow_41 ?_
        refine lv_iload_n hx hb dX4_snow_42 rfl (lv_at hl 2 rfl) ?_
        refine lv_iadd hx hb dX4_snow_43 ?_
        obtain ⟨S7, eS7⟩ : ∃ z : MS, z = mset S5 10 (nI n).toNatClampNeg ((S5.1 10 (nI n).toNatClampNeg) + uk) := ⟨_, rfl⟩
        refine sM_10 hx hb hK hI (vp_in_nI (by omega) (by decide)) eS7 dX4_snow_44 (fun H locs hI => ?_)
        obtain ⟨x8, ex8⟩ : ∃ z : Int32, z = (nI n) + 1 := ⟨_, rfl⟩
        refine lv_iinc (v := x8) (lv' := [(2, .int x8), (0, .ref (ad 0)), (1, .int uk)]) hx hb dX4_snow_45 hl (k := 0) rfl (by rw [ex8]; rfl) (by decide) rfl (fun ls hl => ?_)
        refine lv_goto (tgt := 27) hx hb dX4_snow_48 (by decide) ?_
        have HE : M_snow_s S5 uk n = S7 := by subst ex8 eS7; exact rfl
        exact ih (n + 1) (by omega) x8 S7 H locs ls (by rw [ex8]; exact nI_1 n) (by show _ = M_snow_s (M_snow_f S3 uk n) uk n; rw [← eS5]; exact HE.symm) hI (lv_sub hl [0, 1, 2] rfl)
    exact hL6 np 0 (by omega) 0 S3 H locs ls nI_0.symm rfl hI (lv_sub hl [0, 1, 2] rfl)

def M_piece (S : MS) (ui : Int32) (uf : Int32) (ud : Int32) : Int32 × MS :=
  if (M_isIn S ui 0 2) ∧ ((M_isIn S uf 1 20000) ∧ (M_isIn S ud 1 999)) then
    if (S.1 3 0) = 10 then
      let S4 := mset S 29 0 2
      (0, S4)
    else
      if (S.1 16 0) ≤ 0 then
        let S6 := mset S 29 0 0
        let S7 := mset S6 4 (S6.1 3 0).toNatClampNeg ui
        let S8 := mset S7 5 (S7.1 3 0).toNatClampNeg uf
        let S9 := mset S8 6 (S8.1 3 0).toNatClampNeg ud
        let S10 := mset S9 13 (S9.1 3 0).toNatClampNeg 100
        let S11 := mset S10 15 (2 * (S10.1 3 0)).toNatClampNeg (-1000000)
        let S12 := mset S11 15 ((2 * (S11.1 3 0)) + 1).toNatClampNeg (-1000000)
        let S13 := mset S12 3 0 ((S12.1 3 0) + 1)
        ((S13.1 3 0) - 1, S13)
      else
        let S14 := mset S 29 0 2
        (0, S14)
  else
    let S15 := mset S 29 0 1
    (0, S15)
set_option maxHeartbeats 4000000 in
set_option maxRecDepth 100000 in
theorem cM_piece (G : GX) (ad : Nat → Nat) (S : MS) (ui : Int32) (uf : Int32) (ud : Int32) {np nv : Nat} (hN : MNn S np nv) : FC G yX4_piece cX4_piece 5 (some .int) ({ frames := 1, cells := 0, slots := 0, locals := 22 }) [.ref (ad 0), .int ui, .int uf, .int ud] (mW G.2.2.2 ad S) (pv (.int (M_piece S ui uf ud).1) (mW G.2.2.2 ad (M_piece S ui uf ud).2)) := by
  refine FC.go (lv := [(0, .ref (ad 0)), (1, .int ui), (2, .int uf), (3, .int ud)]) (by decide) (Nat.le_of_ble_eq_true rfl) rfl (fun p e s m args below meth c A H locs ls Q hx hb hr hts hown hml hlocks hnm hK hE hI hA hl hQ => ?_)
  have hown : s.vm.findClass RX4 = some m.cls := hown
  have hv16 := hN.2.2.2
  have hp10 := hN.2.1
  refine lv_iload_n hx hb dX4_piece_0 rfl (lv_at hl 1 rfl) ?_
  refine lv_iconst (v := 0) hx hb dX4_piece_1 (by decide) ?_
  refine lv_iconst (v := 2) hx hb dX4_piece_2 (by decide) ?_
  refine cSv (rest := []) hx hb hml hts hown hK hE hI (cM_isIn G ad S ui 0 2) kM_94 ⟨Nat.le_of_ble_eq_true rfl, Nat.le_of_ble_eq_true rfl⟩ rfl rfl hl.1 rfl (Nat.le_of_ble_eq_true rfl) dX4_piece_3 ⟨Nat.zero_le _, Nat.zero_le _⟩ (fun H locs hI => ?_)
  have hJ1 : ∀ (H : Heap) (locs : List Loc), (fI G.2.2.1 A s.heap (mW G.2.2.2 ad S) H locs) → W p G.1 e ({ frames := 1, cells := 0, slots := 0, locals := 22 }) s m args below meth c H locs 0 0 Q (F0 m 36 ls [.int (bI ((M_isIn S ui 0 2) ∧ ((M_isIn S uf 1 20000) ∧ (M_isIn S ud 1 999))))]) := by
    intro H locs hI
    refine lv_istore (lv' := [(4, .int (bI ((M_isIn S ui 0 2) ∧ ((M_isIn S uf 1 20000) ∧ (M_isIn S ud 1 999))))), (0, .ref (ad 0)), (1, .int ui), (2, .int uf), (3, .int ud)]) hx hb dX4_piece_36 hl (by decide) rfl (fun ls hl => ?_)
    refine lv_aload_n hx hb dX4_piece_38 rfl (lv_at hl 1 rfl) ?_
    refine lv_iload hx hb dX4_piece_39 (lv_at hl 0 rfl) ?_
    refine xb_ne (tgt := 48) hx hb dX4_piece_41 (by decide) (fun c2 => ?_) (fun c2 => ?_)
    · refine lv_aload_n hx hb dX4_piece_48 rfl (lv_at hl 1 rfl) ?_
      refine gM_91 hx hb hts hown hK hI dX4_piece_49 ?_
      refine lv_bipush (v := 10) hx hb dX4_piece_52 (by decide) ?_
      refine lv_icmp_eq (tgt := 64) hx hb dX4_piece_54 (by decide) (fun c3 => ?_) (fun c3 => ?_)
      · refine lv_iconst (v := 2) hx hb dX4_piece_64 (by decide) ?_
        refine lv_goto (tgt := 69) hx hb dX4_piece_65 (by decide) ?_
        obtain ⟨S4, eS4⟩ : ∃ z : MS, z = mset S 29 0 2 := ⟨_, rfl⟩
        refine cVv (rest := []) hx hb hml hts hown hK hE hI (cM_fails2 G ad S) kM_101 ⟨Nat.le_of_ble_eq_true rfl, Nat.le_of_ble_eq_true rfl⟩ rfl rfl (kk := 4) (ii := 0) rfl rfl rfl hl.1 rfl (Nat.le_of_ble_eq_true rfl) dX4_piece_69 ⟨Nat.zero_le _, Nat.zero_le _⟩ (fun H locs hI => ?_)
        rw [← eS4] at hI
        refine lv_if_eq (tgt := 77) hx hb dX4_piece_72 (by decide) (fun h => absurd h (by decide)) (fun _ => ?_)
        refine lv_iconst (v := 0) hx hb dX4_piece_75 (by decide) ?_
        have HE : M_piece S ui uf ud = (0, S4) := by subst eS4; exact (if_pos c2).trans ((if_pos c3))
        exact rt_i hx hb hr hlocks hI hA hQ ⟨by rw [HE], by rw [HE]⟩ (Nat.zero_le _) (Nat.zero_le _) dX4_piece_76
      · refine lv_aload_n hx hb dX4_piece_57 rfl (lv_at hl 1 rfl) ?_
        refine gM_98 hx hb hts hown hK hI dX4_piece_58 ?_
        refine lv_if_le (tgt := 68) hx hb dX4_piece_61 (by decide) (fun c5 => ?_) (fun c5 => ?_)
        · refine lv_iconst (v := 0) hx hb dX4_piece_68 (by decide) ?_
          obtain ⟨S6, eS6⟩ : ∃ z : MS, z = mset S 29 0 0 := ⟨_, rfl⟩
          refine cVv (rest := []) hx hb hml hts hown hK hE hI (cM_fails0 G ad S) kM_101 ⟨Nat.le_of_ble_eq_true rfl, Nat.le_of_ble_eq_true rfl⟩ rfl rfl (kk := 4) (ii := 0) rfl rfl rfl hl.1 rfl (Nat.le_of_ble_eq_true rfl) dX4_piece_69 ⟨Nat.zero_le _, Nat.zero_le _⟩ (fun H locs hI => ?_)
          rw [← eS6] at hI
          refine lv_if_eq (tgt := 77) hx hb dX4_piece_72 (by decide) (fun _ => ?_) (fun h => absurd h (by decide))
          refine lv_aload_n hx hb dX4_piece_77 rfl (lv_at hl 1 rfl) ?_
          refine gM_13 hx hb hts hown hK hI dX4_piece_78 ?_
          refine lv_aload_n hx hb dX4_piece_81 rfl (lv_at hl 1 rfl) ?_
          refine gM_91 hx hb hts hown hK hI dX4_piece_82 ?_
          refine lv_iload_n hx hb dX4_piece_85 rfl (lv_at hl 2 rfl) ?_
          obtain ⟨S7, eS7⟩ : ∃ z : MS, z = mset S6 4 (S6.1 3 0).toNatClampNeg ui := ⟨_, rfl⟩
          refine sM_4 hx hb hK hI (pc_in (MNn_set hN (by decide) (by decide) eS6) (np_lt hN c3)) eS7 dX4_piece_86 (fun H locs hI => ?_)
          refine lv_aload_n hx hb dX4_piece_87 rfl (lv_at hl 1 rfl) ?_
          refine gM_17 hx hb hts hown hK hI dX4_piece_88 ?_
          refine lv_aload_n hx hb dX4_piece_91 rfl (lv_at hl 1 rfl) ?_
          refine gM_91 hx hb hts hown hK hI dX4_piece_92 ?_
          refine lv_iload_n hx hb dX4_piece_95 rfl (lv_at hl 3 rfl) ?_
          obtain ⟨S8, eS8⟩ : ∃ z : MS, z = mset S7 5 (S7.1 3 0).toNatClampNeg uf := ⟨_, rfl⟩
          refine sM_5 hx hb hK hI (pc_in (MNn_set (MNn_set hN (by decide) (by decide) eS6) (by decide) (by decide) eS7) (np_lt hN c3)) eS8 dX4_piece_96 (fun H locs hI => ?_)
          refine lv_aload_n hx hb dX4_piece_97 rfl (lv_at hl 1 rfl) ?_
          refine gM_20 hx hb hts hown hK hI dX4_piece_98 ?_
          refine lv_aload_n hx hb dX4_piece_101 rfl (lv_at hl 1 rfl) ?_
          refine gM_91 hx hb hts hown hK hI dX4_piece_102 ?_
          refine lv_iload_n hx hb dX4_piece_105 rfl (lv_at hl 4 rfl) ?_
          obtain ⟨S9, eS9⟩ : ∃ z : MS, z = mset S8 6 (S8.1 3 0).toNatClampNeg ud := ⟨_, rfl⟩
          refine sM_6 hx hb hK hI (pc_in (MNn_set (MNn_set (MNn_set hN (by decide) (by decide) eS6) (by decide) (by decide) eS7) (by decide) (by decide) eS8) (np_lt hN c3)) eS9 dX4_piece_106 (fun H locs hI => ?_)
          refine lv_aload_n hx hb dX4_piece_107 rfl (lv_at hl 1 rfl) ?_
          refine gM_41 hx hb hts hown hK hI dX4_piece_108 ?_
          refine lv_aload_n hx hb dX4_piece_111 rfl (lv_at hl 1 rfl) ?_
          refine gM_91 hx hb hts hown hK hI dX4_piece_112 ?_
          refine lv_bipush (v := 100) hx hb dX4_piece_115 (by decide) ?_
          obtain ⟨S10, eS10⟩ : ∃ z : MS, z = mset S9 13 (S9.1 3 0).toNatClampNeg 100 := ⟨_, rfl⟩
          refine sM_13 hx hb hK hI (pc_in (MNn_set (MNn_set (MNn_set (MNn_set hN (by decide) (by decide) eS6) (by decide) (by decide) eS7) (by decide) (by decide) eS8) (by decide) (by decide) eS9) (np_lt hN c3)) eS10 dX4_piece_117 (fun H locs hI => ?_)
          refine lv_aload_n hx hb dX4_piece_118 rfl (lv_at hl 1 rfl) ?_
          refine gM_48 hx hb hts hown hK hI dX4_piece_119 ?_
          refine lv_iconst (v := 2) hx hb dX4_piece_122 (by decide) ?_
          refine lv_aload_n hx hb dX4_piece_123 rfl (lv_at hl 1 rfl) ?_
          refine gM_91 hx hb hts hown hK hI dX4_piece_124 ?_
          refine lv_imul hx hb dX4_piece_127 ?_
          refine lv_ldc (v := -1000000) hx hb hown (hts _ q865) dX4_piece_128 ?_
          obtain ⟨S11, eS11⟩ : ∃ z : MS, z = mset S10 15 (2 * (S10.1 3 0)).toNatClampNeg (-1000000) := ⟨_, rfl⟩
          refine sM_15 hx hb hK hI (pc_in2 (MNn_set (MNn_set (MNn_set (MNn_set (MNn_set hN (by decide) (by decide) eS6) (by decide) (by decide) eS7) (by decide) (by decide) eS8) (by decide) (by decide) eS9) (by decide) (by decide) eS10) (np_lt hN c3)) eS11 dX4_piece_130 (fun H locs hI => ?_)
          refine lv_aload_n hx hb dX4_piece_131 rfl (lv_at hl 1 rfl) ?_
          refine gM_48 hx hb hts hown hK hI dX4_piece_132 ?_
          refine lv_iconst (v := 2) hx hb dX4_piece_135 (by decide) ?_
          refine lv_aload_n hx hb dX4_piece_136 rfl (lv_at hl 1 rfl) ?_
          refine gM_91 hx hb hts hown hK hI dX4_piece_137 ?_
          refine lv_imul hx hb dX4_piece_140 ?_
          refine lv_iconst (v := 1) hx hb dX4_piece_141 (by decide) ?_
          refine lv_iadd hx hb dX4_piece_142 ?_
          refine lv_ldc (v := -1000000) hx hb hown (hts _ q865) dX4_piece_143 ?_
          obtain ⟨S12, eS12⟩ : ∃ z : MS, z = mset S11 15 ((2 * (S11.1 3 0)) + 1).toNatClampNeg (-1000000) := ⟨_, rfl⟩
          refine sM_15 hx hb hK hI (pc_in3 (MNn_set (MNn_set (MNn_set (MNn_set (MNn_set (MNn_set hN (by decide) (by decide) eS6) (by decide) (by decide) eS7) (by decide) (by decide) eS8) (by decide) (by decide) eS9) (by decide) (by decide) eS10) (by decide) (by decide) eS11) (np_lt hN c3)) eS12 dX4_piece_145 (fun H locs hI => ?_)
          refine lv_aload_n hx hb dX4_piece_146 rfl (lv_at hl 1 rfl) ?_
          refine lv_dup hx hb dX4_piece_147 rfl ?_
          refine gM_91 hx hb hts hown hK hI dX4_piece_148 ?_
          refine lv_iconst (v := 1) hx hb dX4_piece_151 (by decide) ?_
          refine lv_iadd hx hb dX4_piece_152 ?_
          obtain ⟨S13, eS13⟩ : ∃ z : MS, z = mset S12 3 0 ((S12.1 3 0) + 1) := ⟨_, rfl⟩
          refine pM_91 hx hb hts hown hK hI eS13 dX4_piece_153 (fun H locs hI => ?_)
          refine lv_aload_n hx hb dX4_piece_156 rfl (lv_at hl 1 rfl) ?_
          refine gM_91 hx hb hts hown hK hI dX4_piece_157 ?_
          refine lv_iconst (v := 1) hx hb dX4_piece_160 (by decide) ?_
          refine lv_isub hx hb dX4_piece_161 ?_
          have HE : M_piece S ui uf ud = ((S13.1 3 0) - 1, S13) := by subst eS13 eS12 eS11 eS10 eS9 eS8 eS7 eS6; exact (if_pos c2).trans ((if_neg c3).trans ((if_pos c5)))
          exact rt_i hx hb hr hlocks hI hA hQ ⟨by rw [HE], by rw [HE]⟩ (Nat.zero_le _) (Nat.zero_le _) dX4_piece_162
        · refine lv_iconst (v := 2) hx hb dX4_piece_64 (by decide) ?_
          refine lv_goto (tgt := 69) hx hb dX4_piece_65 (by decide) ?_
          obtain ⟨S14, eS14⟩ : ∃ z : MS, z = mset S 29 0 2 := ⟨_, rfl⟩
          refine cVv (rest := []) hx hb hml hts hown hK hE hI (cM_fails2 G ad S) kM_101 ⟨Nat.le_of_ble_eq_true rfl, Nat.le_of_ble_eq_true rfl⟩ rfl rfl (kk := 4) (ii := 0) rfl rfl rfl hl.1 rfl (Nat.le_of_ble_eq_true rfl) dX4_piece_69 ⟨Nat.zero_le _, Nat.zero_le _⟩ (fun H locs hI => ?_)
          rw [← eS14] at hI
          refine lv_if_eq (tgt := 77) hx hb dX4_piece_72 (by decide) (fun h => absurd h (by decide)) (fun _ => ?_)
          refine lv_iconst (v := 0) hx hb dX4_piece_75 (by decide) ?_
          have HE : M_piece S ui uf ud = (0, S14) := by subst eS14; exact (if_pos c2).trans ((if_neg c3).trans ((if_neg c5)))
          exact rt_i hx hb hr hlocks hI hA hQ ⟨by rw [HE], by rw [HE]⟩ (Nat.zero_le _) (Nat.zero_le _) dX4_piece_76
    · refine lv_iconst (v := 1) hx hb dX4_piece_44 (by decide) ?_
      refine lv_goto (tgt := 69) hx hb dX4_piece_45 (by decide) ?_
      obtain ⟨S15, eS15⟩ : ∃ z : MS, z = mset S 29 0 1 := ⟨_, rfl⟩
      refine cVv (rest := []) hx hb hml hts hown hK hE hI (cM_fails1 G ad S) kM_101 ⟨Nat.le_of_ble_eq_true rfl, Nat.le_of_ble_eq_true rfl⟩ rfl rfl (kk := 4) (ii := 0) rfl rfl rfl hl.1 rfl (Nat.le_of_ble_eq_true rfl) dX4_piece_69 ⟨Nat.zero_le _, Nat.zero_le _⟩ (fun H locs hI => ?_)
      rw [← eS15] at hI
      refine lv_if_eq (tgt := 77) hx hb dX4_piece_72 (by decide) (fun h => absurd h (by decide)) (fun _ => ?_)
      refine lv_iconst (v := 0) hx hb dX4_piece_75 (by decide) ?_
      have HE : M_piece S ui uf ud = (0, S15) := by subst eS15; exact (if_neg c2)
      exact rt_i hx hb hr hlocks hI hA hQ ⟨by rw [HE], by rw [HE]⟩ (Nat.zero_le _) (Nat.zero_le _) dX4_piece_76
  refine xb_eq (tgt := 35) hx hb dX4_piece_6 (by decide) (fun c16 => ?_) (fun c16 => ?_)
  · refine lv_iconst (v := 0) hx hb dX4_piece_35 (by decide) ?_
    have eb17 : (0 : Int32) = bI ((M_isIn S ui 0 2) ∧ ((M_isIn S uf 1 20000) ∧ (M_isIn S ud 1 999))) := (bI_f (fun k => c16 k.1)).symm
    rw [eb17]
    exact hJ1 _ _ hI
  · refine lv_iload_n hx hb dX4_piece_9 rfl (lv_at hl 2 rfl) ?_
    refine lv_iconst (v := 1) hx hb dX4_piece_10 (by decide) ?_
    refine lv_sipush (v := 20000) hx hb dX4_piece_11 (by decide) ?_
    refine cSv (rest := []) hx hb hml hts hown hK hE hI (cM_isIn G ad S uf 1 20000) kM_94 ⟨Nat.le_of_ble_eq_true rfl, Nat.le_of_ble_eq_true rfl⟩ rfl rfl hl.1 rfl (Nat.le_of_ble_eq_true rfl) dX4_piece_14 ⟨Nat.zero_le _, Nat.zero_le _⟩ (fun H locs hI => ?_)
    refine xb_eq (tgt := 35) hx hb dX4_piece_17 (by decide) (fun c18 => ?_) (fun c18 => ?_)
    · refine lv_iconst (v := 0) hx hb dX4_piece_35 (by decide) ?_
      have eb19 : (0 : Int32) = bI ((M_isIn S ui 0 2) ∧ ((M_isIn S uf 1 20000) ∧ (M_isIn S ud 1 999))) := (bI_f (fun k => (fun k => c18 k.1) k.2)).symm
      rw [eb19]
      exact hJ1 _ _ hI
    · refine lv_iload_n hx hb dX4_piece_20 rfl (lv_at hl 3 rfl) ?_
      refine lv_iconst (v := 1) hx hb dX4_piece_21 (by decide) ?_
      refine lv_sipush (v := 999) hx hb dX4_piece_22 (by decide) ?_
      refine cSv (rest := []) hx hb hml hts hown hK hE hI (cM_isIn G ad S ud 1 999) kM_94 ⟨Nat.le_of_ble_eq_true rfl, Nat.le_of_ble_eq_true rfl⟩ rfl rfl hl.1 rfl (Nat.le_of_ble_eq_true rfl) dX4_piece_25 ⟨Nat.zero_le _, Nat.zero_le _⟩ (fun H locs hI => ?_)
      refine xb_eq (tgt := 35) hx hb dX4_piece_28 (by decide) (fun c20 => ?_) (fun c20 => ?_)
      · refine lv_iconst (v := 0) hx hb dX4_piece_35 (by decide) ?_
        have eb21 : (0 : Int32) = bI ((M_isIn S ui 0 2) ∧ ((M_isIn S uf 1 20000) ∧ (M_isIn S ud 1 999))) := (bI_f (fun k => (fun k => c20 k.2) k.2)).symm
        rw [eb21]
        exact hJ1 _ _ hI
      · refine lv_iconst (v := 1) hx hb dX4_piece_31 (by decide) ?_
        refine lv_goto (tgt := 36) hx hb dX4_piece_32 (by decide) ?_
        have eb22 : (1 : Int32) = bI ((M_isIn S ui 0 2) ∧ ((M_isIn S uf 1 20000) ∧ (M_isIn S ud 1 999))) := (bI_t ⟨c16, ⟨c18, c20⟩⟩).symm
        rw [eb22]
        exact hJ1 _ _ hI

def M_vehicle (S : MS) (ui : Int32) (uf : Int32) (ud : Int32) : Int32 × MS :=
  if (M_isIn S ui 500 40000) ∧ ((M_isIn S uf 0 60000) ∧ (M_isIn S ud 1 300)) then
    if (S.1 16 0) = 16 then
      let S4 := mset S 29 0 2
      (0, S4)
    else
      if (S.1 3 0) = 0 then
        let S12 := mset S 29 0 2
        (0, S12)
      else
        let S6 := mset S 29 0 0
        let S7 := mset S6 17 (S6.1 16 0).toNatClampNeg ui
        let S8 := mset S7 18 (S7.1 16 0).toNatClampNeg uf
        let S9 := mset S8 19 (S8.1 16 0).toNatClampNeg ud
        let S10 := mset S9 25 (S9.1 16 0).toNatClampNeg (-1)
        let S11 := mset S10 16 0 ((S10.1 16 0) + 1)
        ((S11.1 16 0) - 1, S11)
  else
    let S13 := mset S 29 0 1
    (0, S13)
set_option maxHeartbeats 4000000 in
set_option maxRecDepth 100000 in
theorem cM_vehicle (G : GX) (ad : Nat → Nat) (S : MS) (ui : Int32) (uf : Int32) (ud : Int32) {np nv : Nat} (hN : MNn S np nv) : FC G yX4_vehicle cX4_vehicle 5 (some .int) ({ frames := 1, cells := 0, slots := 0, locals := 22 }) [.ref (ad 0), .int ui, .int uf, .int ud] (mW G.2.2.2 ad S) (pv (.int (M_vehicle S ui uf ud).1) (mW G.2.2.2 ad (M_vehicle S ui uf ud).2)) := by
  refine FC.go (lv := [(0, .ref (ad 0)), (1, .int ui), (2, .int uf), (3, .int ud)]) (by decide) (Nat.le_of_ble_eq_true rfl) rfl (fun p e s m args below meth c A H locs ls Q hx hb hr hts hown hml hlocks hnm hK hE hI hA hl hQ => ?_)
  have hown : s.vm.findClass RX4 = some m.cls := hown
  have hv16 := hN.2.2.2
  have hp10 := hN.2.1
  refine lv_iload_n hx hb dX4_vehicle_0 rfl (lv_at hl 1 rfl) ?_
  refine lv_sipush (v := 500) hx hb dX4_vehicle_1 (by decide) ?_
  refine lv_ldc (v := 40000) hx hb hown (hts _ q915) dX4_vehicle_4 ?_
  refine cSv (rest := []) hx hb hml hts hown hK hE hI (cM_isIn G ad S ui 500 40000) kM_94 ⟨Nat.le_of_ble_eq_true rfl, Nat.le_of_ble_eq_true rfl⟩ rfl rfl hl.1 rfl (Nat.le_of_ble_eq_true rfl) dX4_vehicle_6 ⟨Nat.zero_le _, Nat.zero_le _⟩ (fun H locs hI => ?_)
  have hJ1 : ∀ (H : Heap) (locs : List Loc), (fI G.2.2.1 A s.heap (mW G.2.2.2 ad S) H locs) → W p G.1 e ({ frames := 1, cells := 0, slots := 0, locals := 22 }) s m args below meth c H locs 0 0 Q (F0 m 38 ls [.int (bI ((M_isIn S ui 500 40000) ∧ ((M_isIn S uf 0 60000) ∧ (M_isIn S ud 1 300))))]) := by
    intro H locs hI
    refine lv_istore (lv' := [(4, .int (bI ((M_isIn S ui 500 40000) ∧ ((M_isIn S uf 0 60000) ∧ (M_isIn S ud 1 300))))), (0, .ref (ad 0)), (1, .int ui), (2, .int uf), (3, .int ud)]) hx hb dX4_vehicle_38 hl (by decide) rfl (fun ls hl => ?_)
    refine lv_aload_n hx hb dX4_vehicle_40 rfl (lv_at hl 1 rfl) ?_
    refine lv_iload hx hb dX4_vehicle_41 (lv_at hl 0 rfl) ?_
    refine xb_ne (tgt := 50) hx hb dX4_vehicle_43 (by decide) (fun c2 => ?_) (fun c2 => ?_)
    · refine lv_aload_n hx hb dX4_vehicle_50 rfl (lv_at hl 1 rfl) ?_
      refine gM_98 hx hb hts hown hK hI dX4_vehicle_51 ?_
      refine lv_bipush (v := 16) hx hb dX4_vehicle_54 (by decide) ?_
      refine lv_icmp_eq (tgt := 66) hx hb dX4_vehicle_56 (by decide) (fun c3 => ?_) (fun c3 => ?_)
      · refine lv_iconst (v := 2) hx hb dX4_vehicle_66 (by decide) ?_
        refine lv_goto (tgt := 71) hx hb dX4_vehicle_67 (by decide) ?_
        obtain ⟨S4, eS4⟩ : ∃ z : MS, z = mset S 29 0 2 := ⟨_, rfl⟩
        refine cVv (rest := []) hx hb hml hts hown hK hE hI (cM_fails2 G ad S) kM_101 ⟨Nat.le_of_ble_eq_true rfl, Nat.le_of_ble_eq_true rfl⟩ rfl rfl (kk := 4) (ii := 0) rfl rfl rfl hl.1 rfl (Nat.le_of_ble_eq_true rfl) dX4_vehicle_71 ⟨Nat.zero_le _, Nat.zero_le _⟩ (fun H locs hI => ?_)
        rw [← eS4] at hI
        refine lv_if_eq (tgt := 79) hx hb dX4_vehicle_74 (by decide) (fun h => absurd h (by decide)) (fun _ => ?_)
        refine lv_iconst (v := 0) hx hb dX4_vehicle_77 (by decide) ?_
        have HE : M_vehicle S ui uf ud = (0, S4) := by subst eS4; exact (if_pos c2).trans ((if_pos c3))
        exact rt_i hx hb hr hlocks hI hA hQ ⟨by rw [HE], by rw [HE]⟩ (Nat.zero_le _) (Nat.zero_le _) dX4_vehicle_78
      · refine lv_aload_n hx hb dX4_vehicle_59 rfl (lv_at hl 1 rfl) ?_
        refine gM_91 hx hb hts hown hK hI dX4_vehicle_60 ?_
        refine lv_if_ne (tgt := 70) hx hb dX4_vehicle_63 (by decide) (fun c5 => ?_) (fun c5 => ?_)
        · refine lv_iconst (v := 0) hx hb dX4_vehicle_70 (by decide) ?_
          obtain ⟨S6, eS6⟩ : ∃ z : MS, z = mset S 29 0 0 := ⟨_, rfl⟩
          refine cVv (rest := []) hx hb hml hts hown hK hE hI (cM_fails0 G ad S) kM_101 ⟨Nat.le_of_ble_eq_true rfl, Nat.le_of_ble_eq_true rfl⟩ rfl rfl (kk := 4) (ii := 0) rfl rfl rfl hl.1 rfl (Nat.le_of_ble_eq_true rfl) dX4_vehicle_71 ⟨Nat.zero_le _, Nat.zero_le _⟩ (fun H locs hI => ?_)
          rw [← eS6] at hI
          refine lv_if_eq (tgt := 79) hx hb dX4_vehicle_74 (by decide) (fun _ => ?_) (fun h => absurd h (by decide))
          refine lv_aload_n hx hb dX4_vehicle_79 rfl (lv_at hl 1 rfl) ?_
          refine gM_51 hx hb hts hown hK hI dX4_vehicle_80 ?_
          refine lv_aload_n hx hb dX4_vehicle_83 rfl (lv_at hl 1 rfl) ?_
          refine gM_98 hx hb hts hown hK hI dX4_vehicle_84 ?_
          refine lv_iload_n hx hb dX4_vehicle_87 rfl (lv_at hl 2 rfl) ?_
          obtain ⟨S7, eS7⟩ : ∃ z : MS, z = mset S6 17 (S6.1 16 0).toNatClampNeg ui := ⟨_, rfl⟩
          refine sM_17 hx hb hK hI (vc_in (MNn_set hN (by decide) (by decide) eS6) (nv_lt hN c3)) eS7 dX4_vehicle_88 (fun H locs hI => ?_)
          refine lv_aload_n hx hb dX4_vehicle_89 rfl (lv_at hl 1 rfl) ?_
          refine gM_54 hx hb hts hown hK hI dX4_vehicle_90 ?_
          refine lv_aload_n hx hb dX4_vehicle_93 rfl (lv_at hl 1 rfl) ?_
          refine gM_98 hx hb hts hown hK hI dX4_vehicle_94 ?_
          refine lv_iload_n hx hb dX4_vehicle_97 rfl (lv_at hl 3 rfl) ?_
          obtain ⟨S8, eS8⟩ : ∃ z : MS, z = mset S7 18 (S7.1 16 0).toNatClampNeg uf := ⟨_, rfl⟩
          refine sM_18 hx hb hK hI (vc_in (MNn_set (MNn_set hN (by decide) (by decide) eS6) (by decide) (by decide) eS7) (nv_lt hN c3)) eS8 dX4_vehicle_98 (fun H locs hI => ?_)
          refine lv_aload_n hx hb dX4_vehicle_99 rfl (lv_at hl 1 rfl) ?_
          refine gM_57 hx hb hts hown hK hI dX4_vehicle_100 ?_
          refine lv_aload_n hx hb dX4_vehicle_103 rfl (lv_at hl 1 rfl) ?_
          refine gM_98 hx hb hts hown hK hI dX4_vehicle_104 ?_
          refine lv_iload_n hx hb dX4_vehicle_107 rfl (lv_at hl 4 rfl) ?_
          obtain ⟨S9, eS9⟩ : ∃ z : MS, z = mset S8 19 (S8.1 16 0).toNatClampNeg ud := ⟨_, rfl⟩
          refine sM_19 hx hb hK hI (vc_in (MNn_set (MNn_set (MNn_set hN (by decide) (by decide) eS6) (by decide) (by decide) eS7) (by decide) (by decide) eS8) (nv_lt hN c3)) eS9 dX4_vehicle_108 (fun H locs hI => ?_)
          refine lv_aload_n hx hb dX4_vehicle_109 rfl (lv_at hl 1 rfl) ?_
          refine gM_76 hx hb hts hown hK hI dX4_vehicle_110 ?_
          refine lv_aload_n hx hb dX4_vehicle_113 rfl (lv_at hl 1 rfl) ?_
          refine gM_98 hx hb hts hown hK hI dX4_vehicle_114 ?_
          refine lv_iconst (v := (-1)) hx hb dX4_vehicle_117 (by decide) ?_
          obtain ⟨S10, eS10⟩ : ∃ z : MS, z = mset S9 25 (S9.1 16 0).toNatClampNeg (-1) := ⟨_, rfl⟩
          refine sM_25 hx hb hK hI (vc_in (MNn_set (MNn_set (MNn_set (MNn_set hN (by decide) (by decide) eS6) (by decide) (by decide) eS7) (by decide) (by decide) eS8) (by decide) (by decide) eS9) (nv_lt hN c3)) eS10 dX4_vehicle_118 (fun H locs hI => ?_)
          refine lv_aload_n hx hb dX4_vehicle_119 rfl (lv_at hl 1 rfl) ?_
          refine lv_dup hx hb dX4_vehicle_120 rfl ?_
          refine gM_98 hx hb hts hown hK hI dX4_vehicle_121 ?_
          refine lv_iconst (v := 1) hx hb dX4_vehicle_124 (by decide) ?_
          refine lv_iadd hx hb dX4_vehicle_125 ?_
          obtain ⟨S11, eS11⟩ : ∃ z : MS, z = mset S10 16 0 ((S10.1 16 0) + 1) := ⟨_, rfl⟩
          refine pM_98 hx hb hts hown hK hI eS11 dX4_vehicle_126 (fun H locs hI => ?_)
          refine lv_aload_n hx hb dX4_vehicle_129 rfl (lv_at hl 1 rfl) ?_
          refine gM_98 hx hb hts hown hK hI dX4_vehicle_130 ?_
          refine lv_iconst (v := 1) hx hb dX4_vehicle_133 (by decide) ?_
          refine lv_isub hx hb dX4_vehicle_134 ?_
          have HE : M_vehicle S ui uf ud = ((S11.1 16 0) - 1, S11) := by subst eS11 eS10 eS9 eS8 eS7 eS6; exact (if_pos c2).trans ((if_neg c3).trans ((if_neg c5)))
          exact rt_i hx hb hr hlocks hI hA hQ ⟨by rw [HE], by rw [HE]⟩ (Nat.zero_le _) (Nat.zero_le _) dX4_vehicle_135
        · refine lv_iconst (v := 2) hx hb dX4_vehicle_66 (by decide) ?_
          refine lv_goto (tgt := 71) hx hb dX4_vehicle_67 (by decide) ?_
          obtain ⟨S12, eS12⟩ : ∃ z : MS, z = mset S 29 0 2 := ⟨_, rfl⟩
          refine cVv (rest := []) hx hb hml hts hown hK hE hI (cM_fails2 G ad S) kM_101 ⟨Nat.le_of_ble_eq_true rfl, Nat.le_of_ble_eq_true rfl⟩ rfl rfl (kk := 4) (ii := 0) rfl rfl rfl hl.1 rfl (Nat.le_of_ble_eq_true rfl) dX4_vehicle_71 ⟨Nat.zero_le _, Nat.zero_le _⟩ (fun H locs hI => ?_)
          rw [← eS12] at hI
          refine lv_if_eq (tgt := 79) hx hb dX4_vehicle_74 (by decide) (fun h => absurd h (by decide)) (fun _ => ?_)
          refine lv_iconst (v := 0) hx hb dX4_vehicle_77 (by decide) ?_
          have HE : M_vehicle S ui uf ud = (0, S12) := by subst eS12; exact (if_pos c2).trans ((if_neg c3).trans ((if_pos c5)))
          exact rt_i hx hb hr hlocks hI hA hQ ⟨by rw [HE], by rw [HE]⟩ (Nat.zero_le _) (Nat.zero_le _) dX4_vehicle_78
    · refine lv_iconst (v := 1) hx hb dX4_vehicle_46 (by decide) ?_
      refine lv_goto (tgt := 71) hx hb dX4_vehicle_47 (by decide) ?_
      obtain ⟨S13, eS13⟩ : ∃ z : MS, z = mset S 29 0 1 := ⟨_, rfl⟩
      refine cVv (rest := []) hx hb hml hts hown hK hE hI (cM_fails1 G ad S) kM_101 ⟨Nat.le_of_ble_eq_true rfl, Nat.le_of_ble_eq_true rfl⟩ rfl rfl (kk := 4) (ii := 0) rfl rfl rfl hl.1 rfl (Nat.le_of_ble_eq_true rfl) dX4_vehicle_71 ⟨Nat.zero_le _, Nat.zero_le _⟩ (fun H locs hI => ?_)
      rw [← eS13] at hI
      refine lv_if_eq (tgt := 79) hx hb dX4_vehicle_74 (by decide) (fun h => absurd h (by decide)) (fun _ => ?_)
      refine lv_iconst (v := 0) hx hb dX4_vehicle_77 (by decide) ?_
      have HE : M_vehicle S ui uf ud = (0, S13) := by subst eS13; exact (if_neg c2)
      exact rt_i hx hb hr hlocks hI hA hQ ⟨by rw [HE], by rw [HE]⟩ (Nat.zero_le _) (Nat.zero_le _) dX4_vehicle_78
  refine xb_eq (tgt := 37) hx hb dX4_vehicle_9 (by decide) (fun c14 => ?_) (fun c14 => ?_)
  · refine lv_iconst (v := 0) hx hb dX4_vehicle_37 (by decide) ?_
    have eb15 : (0 : Int32) = bI ((M_isIn S ui 500 40000) ∧ ((M_isIn S uf 0 60000) ∧ (M_isIn S ud 1 300))) := (bI_f (fun k => c14 k.1)).symm
    rw [eb15]
    exact hJ1 _ _ hI
  · refine lv_iload_n hx hb dX4_vehicle_12 rfl (lv_at hl 2 rfl) ?_
    refine lv_iconst (v := 0) hx hb dX4_vehicle_13 (by decide) ?_
    refine lv_ldc (v := 60000) hx hb hown (hts _ q916) dX4_vehicle_14 ?_
    refine cSv (rest := []) hx hb hml hts hown hK hE hI (cM_isIn G ad S uf 0 60000) kM_94 ⟨Nat.le_of_ble_eq_true rfl, Nat.le_of_ble_eq_true rfl⟩ rfl rfl hl.1 rfl (Nat.le_of_ble_eq_true rfl) dX4_vehicle_16 ⟨Nat.zero_le _, Nat.zero_le _⟩ (fun H locs hI => ?_)
    refine xb_eq (tgt := 37) hx hb dX4_vehicle_19 (by decide) (fun c16 => ?_) (fun c16 => ?_)
    · refine lv_iconst (v := 0) hx hb dX4_vehicle_37 (by decide) ?_
      have eb17 : (0 : Int32) = bI ((M_isIn S ui 500 40000) ∧ ((M_isIn S uf 0 60000) ∧ (M_isIn S ud 1 300))) := (bI_f (fun k => (fun k => c16 k.1) k.2)).symm
      rw [eb17]
      exact hJ1 _ _ hI
    · refine lv_iload_n hx hb dX4_vehicle_22 rfl (lv_at hl 3 rfl) ?_
      refine lv_iconst (v := 1) hx hb dX4_vehicle_23 (by decide) ?_
      refine lv_sipush (v := 300) hx hb dX4_vehicle_24 (by decide) ?_
      refine cSv (rest := []) hx hb hml hts hown hK hE hI (cM_isIn G ad S ud 1 300) kM_94 ⟨Nat.le_of_ble_eq_true rfl, Nat.le_of_ble_eq_true rfl⟩ rfl rfl hl.1 rfl (Nat.le_of_ble_eq_true rfl) dX4_vehicle_27 ⟨Nat.zero_le _, Nat.zero_le _⟩ (fun H locs hI => ?_)
      refine xb_eq (tgt := 37) hx hb dX4_vehicle_30 (by decide) (fun c18 => ?_) (fun c18 => ?_)
      · refine lv_iconst (v := 0) hx hb dX4_vehicle_37 (by decide) ?_
        have eb19 : (0 : Int32) = bI ((M_isIn S ui 500 40000) ∧ ((M_isIn S uf 0 60000) ∧ (M_isIn S ud 1 300))) := (bI_f (fun k => (fun k => c18 k.2) k.2)).symm
        rw [eb19]
        exact hJ1 _ _ hI
      · refine lv_iconst (v := 1) hx hb dX4_vehicle_33 (by decide) ?_
        refine lv_goto (tgt := 38) hx hb dX4_vehicle_34 (by decide) ?_
        have eb20 : (1 : Int32) = bI ((M_isIn S ui 500 40000) ∧ ((M_isIn S uf 0 60000) ∧ (M_isIn S ud 1 300))) := (bI_t ⟨c14, ⟨c16, c18⟩⟩).symm
        rw [eb20]
        exact hJ1 _ _ hI

def M_unloads (S : MS) (uv : Int32) (ub : Int32) : MS :=
  let S1 := if (S.1 24 uv.toNatClampNeg) ≤ 0 then S else (mset (mset S 27 (S.1 25 uv.toNatClampNeg).toNatClampNeg ((S.1 27 (S.1 25 uv.toNatClampNeg).toNatClampNeg) + (if ub = 0 then 0 else (S.1 24 uv.toNatClampNeg)))) 26 ((mset S 27 (S.1 25 uv.toNatClampNeg).toNatClampNeg ((S.1 27 (S.1 25 uv.toNatClampNeg).toNatClampNeg) + (if ub = 0 then 0 else (S.1 24 uv.toNatClampNeg)))).1 25 uv.toNatClampNeg).toNatClampNeg (((mset S 27 (S.1 25 uv.toNatClampNeg).toNatClampNeg ((S.1 27 (S.1 25 uv.toNatClampNeg).toNatClampNeg) + (if ub = 0 then 0 else (S.1 24 uv.toNatClampNeg)))).1 26 ((mset S 27 (S.1 25 uv.toNatClampNeg).toNatClampNeg ((S.1 27 (S.1 25 uv.toNatClampNeg).toNatClampNeg) + (if ub = 0 then 0 else (S.1 24 uv.toNatClampNeg)))).1 25 uv.toNatClampNeg).toNatClampNeg) - (if ub = 0 then ((mset S 27 (S.1 25 uv.toNatClampNeg).toNatClampNeg ((S.1 27 (S.1 25 uv.toNatClampNeg).toNatClampNeg) + (if ub = 0 then 0 else (S.1 24 uv.toNatClampNeg)))).1 24 uv.toNatClampNeg) else 0)))
  let S4 := mset S1 24 uv.toNatClampNeg 0
  let S5 := mset S4 25 uv.toNatClampNeg (-1)
  S5
set_option maxHeartbeats 4000000 in
set_option maxRecDepth 100000 in
theorem cM_unloads (G : GX) (ad : Nat → Nat) (S : MS) (uv : Int32) (ub : Int32) (hv : vp_in uv 16) (hG : GI S) : FC G yX4_unloads cX4_unloads 3 none ({ frames := 0, cells := 0, slots := 0, locals := 0 }) [.ref (ad 0), .int uv, .int ub] (mW G.2.2.2 ad S) (p0 (mW G.2.2.2 ad (M_unloads S uv ub))) := by
  refine FC.go (lv := [(0, .ref (ad 0)), (1, .int uv), (2, .int ub)]) (by decide) (Nat.le_of_ble_eq_true rfl) rfl (fun p e s m args below meth c A H locs ls Q hx hb hr hts hown hml hlocks hnm hK hE hI hA hl hQ => ?_)
  have hown : s.vm.findClass RX4 = some m.cls := hown
  refine lv_aload_n hx hb dX4_unloads_0 rfl (lv_at hl 0 rfl) ?_
  refine gM_73 hx hb hts hown hK hI dX4_unloads_1 ?_
  refine lv_iload_n hx hb dX4_unloads_4 rfl (lv_at hl 1 rfl) ?_
  refine lM_24 hx hb hK hI hv dX4_unloads_5 ?_
  have hJ3 : ∀ (S1 : MS) (H : Heap) (locs : List Loc), (S1 = if (S.1 24 uv.toNatClampNeg) ≤ 0 then S else (mset (mset S 27 (S.1 25 uv.toNatClampNeg).toNatClampNeg ((S.1 27 (S.1 25 uv.toNatClampNeg).toNatClampNeg) + (if ub = 0 then 0 else (S.1 24 uv.toNatClampNeg)))) 26 ((mset S 27 (S.1 25 uv.toNatClampNeg).toNatClampNeg ((S.1 27 (S.1 25 uv.toNatClampNeg).toNatClampNeg) + (if ub = 0 then 0 else (S.1 24 uv.toNatClampNeg)))).1 25 uv.toNatClampNeg).toNatClampNeg (((mset S 27 (S.1 25 uv.toNatClampNeg).toNatClampNeg ((S.1 27 (S.1 25 uv.toNatClampNeg).toNatClampNeg) + (if ub = 0 then 0 else (S.1 24 uv.toNatClampNeg)))).1 26 ((mset S 27 (S.1 25 uv.toNatClampNeg).toNatClampNeg ((S.1 27 (S.1 25 uv.toNatClampNeg).toNatClampNeg) + (if ub = 0 then 0 else (S.1 24 uv.toNatClampNeg)))).1 25 uv.toNatClampNeg).toNatClampNeg) - (if ub = 0 then ((mset S 27 (S.1 25 uv.toNatClampNeg).toNatClampNeg ((S.1 27 (S.1 25 uv.toNatClampNeg).toNatClampNeg) + (if ub = 0 then 0 else (S.1 24 uv.toNatClampNeg)))).1 24 uv.toNatClampNeg) else 0)))) → (fI G.2.2.1 A s.heap (mW G.2.2.2 ad S1) H locs) → (GI S1) → W p G.1 e ({ frames := 0, cells := 0, slots := 0, locals := 0 }) s m args below meth c H locs 0 0 Q (F0 m 65 ls []) := by
    intro S1 H locs eS1 hI hf2
    refine lv_aload_n hx hb dX4_unloads_65 rfl (lv_at hl 0 rfl) ?_
    refine gM_73 hx hb hts hown hK hI dX4_unloads_66 ?_
    refine lv_iload_n hx hb dX4_unloads_69 rfl (lv_at hl 1 rfl) ?_
    refine lv_iconst (v := 0) hx hb dX4_unloads_70 (by decide) ?_
    obtain ⟨S4, eS4⟩ : ∃ z : MS, z = mset S1 24 uv.toNatClampNeg 0 := ⟨_, rfl⟩
    refine sM_24 hx hb hK hI hv eS4 dX4_unloads_71 (fun H locs hI => ?_)
    refine lv_aload_n hx hb dX4_unloads_72 rfl (lv_at hl 0 rfl) ?_
    refine gM_76 hx hb hts hown hK hI dX4_unloads_73 ?_
    refine lv_iload_n hx hb dX4_unloads_76 rfl (lv_at hl 1 rfl) ?_
    refine lv_iconst (v := (-1)) hx hb dX4_unloads_77 (by decide) ?_
    obtain ⟨S5, eS5⟩ : ∃ z : MS, z = mset S4 25 uv.toNatClampNeg (-1) := ⟨_, rfl⟩
    refine sM_25 hx hb hK hI hv eS5 dX4_unloads_78 (fun H locs hI => ?_)
    have HE : M_unloads S uv ub = S5 := by subst eS5 eS4 eS1; exact rfl
    exact rt_v hx hb hr hlocks hI hA hQ ⟨rfl, by rw [HE]⟩ (Nat.zero_le _) (Nat.zero_le _) dX4_unloads_79
  refine lv_if_le (tgt := 65) hx hb dX4_unloads_6 (by decide) (fun c6 => ?_) (fun c6 => ?_)
  · exact hJ3 S _ _ (by exact (if_pos c6).symm) hI hG
  · refine lv_aload_n hx hb dX4_unloads_9 rfl (lv_at hl 0 rfl) ?_
    refine gM_82 hx hb hts hown hK hI dX4_unloads_10 ?_
    refine lv_aload_n hx hb dX4_unloads_13 rfl (lv_at hl 0 rfl) ?_
    refine gM_76 hx hb hts hown hK hI dX4_unloads_14 ?_
    refine lv_iload_n hx hb dX4_unloads_17 rfl (lv_at hl 1 rfl) ?_
    refine lM_25 hx hb hK hI hv dX4_unloads_18 ?_
    refine lv_dup2_11 hx hb dX4_unloads_19 rfl rfl ?_
    refine lM_27 hx hb hK hI (hG _ c6) dX4_unloads_20 ?_
    refine lv_iload_n hx hb dX4_unloads_21 rfl (lv_at hl 2 rfl) ?_
    have hJ8 : ∀ (x7 : Int32), (x7 = if ub = 0 then 0 else (S.1 24 uv.toNatClampNeg)) → W p G.1 e ({ frames := 0, cells := 0, slots := 0, locals := 0 }) s m args below meth c H locs 0 0 Q (F0 m 35 ls [.int x7, .int (S.1 27 (S.1 25 uv.toNatClampNeg).toNatClampNeg), .int (S.1 25 uv.toNatClampNeg), .ref (ad 27)]) := by
      intro x7 ex7
      refine lv_iadd hx hb dX4_unloads_35 ?_
      obtain ⟨S9, eS9⟩ : ∃ z : MS, z = mset S 27 (S.1 25 uv.toNatClampNeg).toNatClampNeg ((S.1 27 (S.1 25 uv.toNatClampNeg).toNatClampNeg) + x7) := ⟨_, rfl⟩
      refine sM_27 hx hb hK hI (hG _ c6) eS9 dX4_unloads_36 (fun H locs hI => ?_)
      refine lv_aload_n hx hb dX4_unloads_37 rfl (lv_at hl 0 rfl) ?_
      refine gM_79 hx hb hts hown hK hI dX4_unloads_38 ?_
      refine lv_aload_n hx hb dX4_unloads_41 rfl (lv_at hl 0 rfl) ?_
      refine gM_76 hx hb hts hown hK hI dX4_unloads_42 ?_
      refine lv_iload_n hx hb dX4_unloads_45 rfl (lv_at hl 1 rfl) ?_
      refine lM_25 hx hb hK hI hv dX4_unloads_46 ?_
      refine lv_dup2_11 hx hb dX4_unloads_47 rfl rfl ?_
      refine lM_26 hx hb hK hI (by have h9 := hG _ c6; subst eS9; exact h9) dX4_unloads_48 ?_
      refine lv_iload_n hx hb dX4_unloads_49 rfl (lv_at hl 2 rfl) ?_
      have hJ11 : ∀ (x10 : Int32), (x10 = if ub = 0 then (S9.1 24 uv.toNatClampNeg) else 0) → W p G.1 e ({ frames := 0, cells := 0, slots := 0, locals := 0 }) s m args below meth c H locs 0 0 Q (F0 m 63 ls [.int x10, .int (S9.1 26 (S9.1 25 uv.toNatClampNeg).toNatClampNeg), .int (S9.1 25 uv.toNatClampNeg), .ref (ad 26)]) := by
        intro x10 ex10
        refine lv_isub hx hb dX4_unloads_63 ?_
        obtain ⟨S12, eS12⟩ : ∃ z : MS, z = mset S9 26 (S9.1 25 uv.toNatClampNeg).toNatClampNeg ((S9.1 26 (S9.1 25 uv.toNatClampNeg).toNatClampNeg) - x10) := ⟨_, rfl⟩
        refine sM_26 hx hb hK hI (by have h9 := hG _ c6; subst eS9; exact h9) eS12 dX4_unloads_64 (fun H locs hI => ?_)
        exact hJ3 S12 _ _ (by subst eS12 ex10 eS9 ex7; exact (if_neg c6).symm) hI (GI_set (GI_set hG (by decide) (by decide) eS9) (by decide) (by decide) eS12)
      refine lv_if_eq (tgt := 57) hx hb dX4_unloads_50 (by decide) (fun c13 => ?_) (fun c13 => ?_)
      · refine lv_aload_n hx hb dX4_unloads_57 rfl (lv_at hl 0 rfl) ?_
        refine gM_73 hx hb hts hown hK hI dX4_unloads_58 ?_
        refine lv_iload_n hx hb dX4_unloads_61 rfl (lv_at hl 1 rfl) ?_
        refine lM_24 hx hb hK hI hv dX4_unloads_62 ?_
        exact hJ11 (S9.1 24 uv.toNatClampNeg) (by exact (if_pos c13).symm)
      · refine lv_iconst (v := 0) hx hb dX4_unloads_53 (by decide) ?_
        refine lv_goto (tgt := 63) hx hb dX4_unloads_54 (by decide) ?_
        exact hJ11 0 (by exact (if_neg c13).symm)
    refine lv_if_eq (tgt := 34) hx hb dX4_unloads_22 (by decide) (fun c14 => ?_) (fun c14 => ?_)
    · refine lv_iconst (v := 0) hx hb dX4_unloads_34 (by decide) ?_
      exact hJ8 0 (by exact (if_pos c14).symm)
    · refine lv_aload_n hx hb dX4_unloads_25 rfl (lv_at hl 0 rfl) ?_
      refine gM_73 hx hb hts hown hK hI dX4_unloads_26 ?_
      refine lv_iload_n hx hb dX4_unloads_29 rfl (lv_at hl 1 rfl) ?_
      refine lM_24 hx hb hK hI hv dX4_unloads_30 ?_
      refine lv_goto (tgt := 35) hx hb dX4_unloads_31 (by decide) ?_
      exact hJ8 (S.1 24 uv.toNatClampNeg) (by exact (if_neg c14).symm)

def M_arrives (S : MS) (uv : Int32) : MS :=
  let x1 := if (S.1 22 uv.toNatClampNeg) = 0 then 0 else 3
  let S3 := mset S 20 uv.toNatClampNeg x1
  let S4 := M_unloads S3 uv (S3.1 22 uv.toNatClampNeg)
  S4
set_option maxHeartbeats 4000000 in
set_option maxRecDepth 100000 in
theorem cM_arrives (G : GX) (ad : Nat → Nat) (S : MS) (uv : Int32) (hv : vp_in uv 16) (hG : GI S) : FC G yX4_arrives cX4_arrives 2 none ({ frames := 1, cells := 0, slots := 0, locals := 22 }) [.ref (ad 0), .int uv] (mW G.2.2.2 ad S) (p0 (mW G.2.2.2 ad (M_arrives S uv))) := by
  refine FC.go (lv := [(0, .ref (ad 0)), (1, .int uv)]) (by decide) (Nat.le_of_ble_eq_true rfl) rfl (fun p e s m args below meth c A H locs ls Q hx hb hr hts hown hml hlocks hnm hK hE hI hA hl hQ => ?_)
  have hown : s.vm.findClass RX4 = some m.cls := hown
  refine lv_aload_n hx hb dX4_arrives_0 rfl (lv_at hl 0 rfl) ?_
  refine gM_60 hx hb hts hown hK hI dX4_arrives_1 ?_
  refine lv_iload_n hx hb dX4_arrives_4 rfl (lv_at hl 1 rfl) ?_
  refine lv_aload_n hx hb dX4_arrives_5 rfl (lv_at hl 0 rfl) ?_
  refine gM_66 hx hb hts hown hK hI dX4_arrives_6 ?_
  refine lv_iload_n hx hb dX4_arrives_9 rfl (lv_at hl 1 rfl) ?_
  refine lM_22 hx hb hK hI hv dX4_arrives_10 ?_
  have hJ2 : ∀ (x1 : Int32), (x1 = if (S.1 22 uv.toNatClampNeg) = 0 then 0 else 3) → W p G.1 e ({ frames := 1, cells := 0, slots := 0, locals := 22 }) s m args below meth c H locs 0 0 Q (F0 m 19 ls [.int x1, .int uv, .ref (ad 20)]) := by
    intro x1 ex1
    obtain ⟨S3, eS3⟩ : ∃ z : MS, z = mset S 20 uv.toNatClampNeg x1 := ⟨_, rfl⟩
    refine sM_20 hx hb hK hI hv eS3 dX4_arrives_19 (fun H locs hI => ?_)
    refine lv_aload_n hx hb dX4_arrives_20 rfl (lv_at hl 0 rfl) ?_
    refine lv_iload_n hx hb dX4_arrives_21 rfl (lv_at hl 1 rfl) ?_
    refine lv_aload_n hx hb dX4_arrives_22 rfl (lv_at hl 0 rfl) ?_
    refine gM_66 hx hb hts hown hK hI dX4_arrives_23 ?_
    refine lv_iload_n hx hb dX4_arrives_26 rfl (lv_at hl 1 rfl) ?_
    refine lM_22 hx hb hK hI hv dX4_arrives_27 ?_
    obtain ⟨S4, eS4⟩ : ∃ z : MS, z = M_unloads S3 uv (S3.1 22 uv.toNatClampNeg) := ⟨_, rfl⟩
    refine cV0 (rest := []) hx hb hml hts hown hK hE hI (cM_unloads G ad S3 uv (S3.1 22 uv.toNatClampNeg) hv (GI_set hG (by decide) (by decide) eS3)) kM_133 ⟨Nat.le_of_ble_eq_true rfl, Nat.le_of_ble_eq_true rfl⟩ rfl rfl (kk := 4) (ii := 0) rfl rfl rfl hl.1 rfl (Nat.le_of_ble_eq_true rfl) dX4_arrives_28 ⟨Nat.zero_le _, Nat.zero_le _⟩ (fun H locs hI => ?_)
    rw [← eS4] at hI
    have HE : M_arrives S uv = S4 := by subst eS4 eS3 ex1; exact rfl
    exact rt_v hx hb hr hlocks hI hA hQ ⟨rfl, by rw [HE]⟩ (Nat.zero_le _) (Nat.zero_le _) dX4_arrives_31
  refine lv_if_eq (tgt := 18) hx hb dX4_arrives_11 (by decide) (fun c5 => ?_) (fun c5 => ?_)
  · refine lv_iconst (v := 0) hx hb dX4_arrives_18 (by decide) ?_
    exact hJ2 0 (by exact (if_pos c5).symm)
  · refine lv_iconst (v := 3) hx hb dX4_arrives_14 (by decide) ?_
    refine lv_goto (tgt := 19) hx hb dX4_arrives_15 (by decide) ?_
    exact hJ2 3 (by exact (if_neg c5).symm)

def M_load (S : MS) (uv : Int32) (ug : Int32) (uk : Int32) : Int32 × MS :=
  if (M_isVehicle S uv) ∧ (M_isGoods S ug) then
    if ((M_isVehicle S uv) ∧ (M_isGoods S ug)) ∧ (M_isIn S uk 1 (S.1 18 uv.toNatClampNeg)) then
      if (S.1 20 uv.toNatClampNeg) = 0 then
        if (S.1 24 uv.toNatClampNeg) ≤ 0 then
          let S8 := mset S 29 0 0
          let S9 := mset S8 24 uv.toNatClampNeg uk
          let S10 := mset S9 25 uv.toNatClampNeg ug
          let S11 := mset S10 26 ug.toNatClampNeg ((S10.1 26 ug.toNatClampNeg) + uk)
          (M_weight S11 uv, S11)
        else
          let S12 := mset S 29 0 3
          (0, S12)
      else
        let S6 := mset S 29 0 3
        (0, S6)
    else
      let S13 := mset S 29 0 2
      (0, S13)
  else
    let S14 := mset S 29 0 1
    (0, S14)
set_option maxHeartbeats 4000000 in
set_option maxRecDepth 100000 in
theorem cM_load (G : GX) (ad : Nat → Nat) (S : MS) (uv : Int32) (ug : Int32) (uk : Int32) {np nv : Nat} (hN : MNn S np nv) : FC G yX4_load cX4_load 6 (some .int) ({ frames := 2, cells := 0, slots := 0, locals := 43 }) [.ref (ad 0), .int uv, .int ug, .int uk] (mW G.2.2.2 ad S) (pv (.int (M_load S uv ug uk).1) (mW G.2.2.2 ad (M_load S uv ug uk).2)) := by
  refine FC.go (lv := [(0, .ref (ad 0)), (1, .int uv), (2, .int ug), (3, .int uk)]) (by decide) (Nat.le_of_ble_eq_true rfl) rfl (fun p e s m args below meth c A H locs ls Q hx hb hr hts hown hml hlocks hnm hK hE hI hA hl hQ => ?_)
  have hown : s.vm.findClass RX4 = some m.cls := hown
  refine lv_aload_n hx hb dX4_load_0 rfl (lv_at hl 0 rfl) ?_
  refine lv_iload_n hx hb dX4_load_1 rfl (lv_at hl 1 rfl) ?_
  refine cVv (rest := []) hx hb hml hts hown hK hE hI (cM_isVehicle G ad S uv) kM_123 ⟨Nat.le_of_ble_eq_true rfl, Nat.le_of_ble_eq_true rfl⟩ rfl rfl (kk := 4) (ii := 0) rfl rfl rfl hl.1 rfl (Nat.le_of_ble_eq_true rfl) dX4_load_2 ⟨Nat.zero_le _, Nat.zero_le _⟩ (fun H locs hI => ?_)
  have hJ1 : ∀ (H : Heap) (locs : List Loc), (fI G.2.2.1 A s.heap (mW G.2.2.2 ad S) H locs) → W p G.1 e ({ frames := 2, cells := 0, slots := 0, locals := 43 }) s m args below meth c H locs 0 0 Q (F0 m 20 ls [.int (bI ((M_isVehicle S uv) ∧ (M_isGoods S ug)))]) := by
    intro H locs hI
    refine lv_istore (lv' := [(4, .int (bI ((M_isVehicle S uv) ∧ (M_isGoods S ug)))), (0, .ref (ad 0)), (1, .int uv), (2, .int ug), (3, .int uk)]) hx hb dX4_load_20 hl (by decide) rfl (fun ls hl => ?_)
    refine lv_iload hx hb dX4_load_22 (lv_at hl 0 rfl) ?_
    have hJ2 : ∀ (H : Heap) (locs : List Loc), (fI G.2.2.1 A s.heap (mW G.2.2.2 ad S) H locs) → W p G.1 e ({ frames := 2, cells := 0, slots := 0, locals := 43 }) s m args below meth c H locs 0 0 Q (F0 m 46 ls [.int (bI (((M_isVehicle S uv) ∧ (M_isGoods S ug)) ∧ (M_isIn S uk 1 (S.1 18 uv.toNatClampNeg))))]) := by
      intro H locs hI
      refine lv_istore (lv' := [(5, .int (bI (((M_isVehicle S uv) ∧ (M_isGoods S ug)) ∧ (M_isIn S uk 1 (S.1 18 uv.toNatClampNeg))))), (4, .int (bI ((M_isVehicle S uv) ∧ (M_isGoods S ug)))), (0, .ref (ad 0)), (1, .int uv), (2, .int ug), (3, .int uk)]) hx hb dX4_load_46 hl (by decide) rfl (fun ls hl => ?_)
      refine lv_aload_n hx hb dX4_load_48 rfl (lv_at hl 2 rfl) ?_
      refine lv_iload hx hb dX4_load_49 (lv_at hl 1 rfl) ?_
      refine xb_ne (tgt := 58) hx hb dX4_load_51 (by decide) (fun c3 => ?_) (fun c3 => ?_)
      · refine lv_iload hx hb dX4_load_58 (lv_at hl 0 rfl) ?_
        refine xb_ne (tgt := 67) hx hb dX4_load_60 (by decide) (fun c4 => ?_) (fun c4 => ?_)
        · refine lv_aload_n hx hb dX4_load_67 rfl (lv_at hl 2 rfl) ?_
          refine gM_60 hx hb hts hown hK hI dX4_load_68 ?_
          refine lv_iload_n hx hb dX4_load_71 rfl (lv_at hl 3 rfl) ?_
          refine lM_20 hx hb hK hI (isVehicle_in hN ((c4).1).1) dX4_load_72 ?_
          refine lv_if_ne (tgt := 85) hx hb dX4_load_73 (by decide) (fun c5 => ?_) (fun c5 => ?_)
          · refine lv_iconst (v := 3) hx hb dX4_load_85 (by decide) ?_
            refine lv_goto (tgt := 90) hx hb dX4_load_86 (by decide) ?_
            obtain ⟨S6, eS6⟩ : ∃ z : MS, z = mset S 29 0 3 := ⟨_, rfl⟩
            refine cVv (rest := []) hx hb hml hts hown hK hE hI (cM_fails3 G ad S) kM_101 ⟨Nat.le_of_ble_eq_true rfl, Nat.le_of_ble_eq_true rfl⟩ rfl rfl (kk := 4) (ii := 0) rfl rfl rfl hl.1 rfl (Nat.le_of_ble_eq_true rfl) dX4_load_90 ⟨Nat.zero_le _, Nat.zero_le _⟩ (fun H locs hI => ?_)
            rw [← eS6] at hI
            refine lv_if_eq (tgt := 98) hx hb dX4_load_93 (by decide) (fun h => absurd h (by decide)) (fun _ => ?_)
            refine lv_iconst (v := 0) hx hb dX4_load_96 (by decide) ?_
            have HE : M_load S uv ug uk = (0, S6) := by subst eS6; exact (if_pos c3).trans ((if_pos c4).trans ((if_neg c5)))
            exact rt_i hx hb hr hlocks hI hA hQ ⟨by rw [HE], by rw [HE]⟩ (Nat.zero_le _) (Nat.zero_le _) dX4_load_97
          · refine lv_aload_n hx hb dX4_load_76 rfl (lv_at hl 2 rfl) ?_
            refine gM_73 hx hb hts hown hK hI dX4_load_77 ?_
            refine lv_iload_n hx hb dX4_load_80 rfl (lv_at hl 3 rfl) ?_
            refine lM_24 hx hb hK hI (isVehicle_in hN ((c4).1).1) dX4_load_81 ?_
            refine lv_if_le (tgt := 89) hx hb dX4_load_82 (by decide) (fun c7 => ?_) (fun c7 => ?_)
            · refine lv_iconst (v := 0) hx hb dX4_load_89 (by decide) ?_
              obtain ⟨S8, eS8⟩ : ∃ z : MS, z = mset S 29 0 0 := ⟨_, rfl⟩
              refine cVv (rest := []) hx hb hml hts hown hK hE hI (cM_fails0 G ad S) kM_101 ⟨Nat.le_of_ble_eq_true rfl, Nat.le_of_ble_eq_true rfl⟩ rfl rfl (kk := 4) (ii := 0) rfl rfl rfl hl.1 rfl (Nat.le_of_ble_eq_true rfl) dX4_load_90 ⟨Nat.zero_le _, Nat.zero_le _⟩ (fun H locs hI => ?_)
              rw [← eS8] at hI
              refine lv_if_eq (tgt := 98) hx hb dX4_load_93 (by decide) (fun _ => ?_) (fun h => absurd h (by decide))
              refine lv_aload_n hx hb dX4_load_98 rfl (lv_at hl 2 rfl) ?_
              refine gM_73 hx hb hts hown hK hI dX4_load_99 ?_
              refine lv_iload_n hx hb dX4_load_102 rfl (lv_at hl 3 rfl) ?_
              refine lv_iload_n hx hb dX4_load_103 rfl (lv_at hl 5 rfl) ?_
              obtain ⟨S9, eS9⟩ : ∃ z : MS, z = mset S8 24 uv.toNatClampNeg uk := ⟨_, rfl⟩
              refine sM_24 hx hb hK hI (isVehicle_in hN ((c4).1).1) eS9 dX4_load_104 (fun H locs hI => ?_)
              refine lv_aload_n hx hb dX4_load_105 rfl (lv_at hl 2 rfl) ?_
              refine gM_76 hx hb hts hown hK hI dX4_load_106 ?_
              refine lv_iload_n hx hb dX4_load_109 rfl (lv_at hl 3 rfl) ?_
              refine lv_iload_n hx hb dX4_load_110 rfl (lv_at hl 4 rfl) ?_
              obtain ⟨S10, eS10⟩ : ∃ z : MS, z = mset S9 25 uv.toNatClampNeg ug := ⟨_, rfl⟩
              refine sM_25 hx hb hK hI (isVehicle_in hN ((c4).1).1) eS10 dX4_load_111 (fun H locs hI => ?_)
              refine lv_aload_n hx hb dX4_load_112 rfl (lv_at hl 2 rfl) ?_
              refine gM_79 hx hb hts hown hK hI dX4_load_113 ?_
              refine lv_iload_n hx hb dX4_load_116 rfl (lv_at hl 4 rfl) ?_
              refine lv_dup2_11 hx hb dX4_load_117 rfl rfl ?_
              refine lM_26 hx hb hK hI (isGoods_in ((c4).1).2) dX4_load_118 ?_
              refine lv_iload_n hx hb dX4_load_119 rfl (lv_at hl 5 rfl) ?_
              refine lv_iadd hx hb dX4_load_120 ?_
              obtain ⟨S11, eS11⟩ : ∃ z : MS, z = mset S10 26 ug.toNatClampNeg ((S10.1 26 ug.toNatClampNeg) + uk) := ⟨_, rfl⟩
              refine sM_26 hx hb hK hI (isGoods_in ((c4).1).2) eS11 dX4_load_121 (fun H locs hI => ?_)
              refine lv_aload_n hx hb dX4_load_122 rfl (lv_at hl 2 rfl) ?_
              refine lv_iload_n hx hb dX4_load_123 rfl (lv_at hl 3 rfl) ?_
              refine cVv (rest := []) hx hb hml hts hown hK hE hI (cM_weight G ad S11 uv (isVehicle_in hN ((c4).1).1)) kM_129 ⟨Nat.le_of_ble_eq_true rfl, Nat.le_of_ble_eq_true rfl⟩ rfl rfl (kk := 4) (ii := 0) rfl rfl rfl hl.1 rfl (Nat.le_of_ble_eq_true rfl) dX4_load_124 ⟨Nat.zero_le _, Nat.zero_le _⟩ (fun H locs hI => ?_)
              have HE : M_load S uv ug uk = (M_weight S11 uv, S11) := by subst eS11 eS10 eS9 eS8; exact (if_pos c3).trans ((if_pos c4).trans ((if_pos c5).trans ((if_pos c7))))
              exact rt_i hx hb hr hlocks hI hA hQ ⟨by rw [HE], by rw [HE]⟩ (Nat.zero_le _) (Nat.zero_le _) dX4_load_127
            · refine lv_iconst (v := 3) hx hb dX4_load_85 (by decide) ?_
              refine lv_goto (tgt := 90) hx hb dX4_load_86 (by decide) ?_
              obtain ⟨S12, eS12⟩ : ∃ z : MS, z = mset S 29 0 3 := ⟨_, rfl⟩
              refine cVv (rest := []) hx hb hml hts hown hK hE hI (cM_fails3 G ad S) kM_101 ⟨Nat.le_of_ble_eq_true rfl, Nat.le_of_ble_eq_true rfl⟩ rfl rfl (kk := 4) (ii := 0) rfl rfl rfl hl.1 rfl (Nat.le_of_ble_eq_true rfl) dX4_load_90 ⟨Nat.zero_le _, Nat.zero_le _⟩ (fun H locs hI => ?_)
              rw [← eS12] at hI
              refine lv_if_eq (tgt := 98) hx hb dX4_load_93 (by decide) (fun h => absurd h (by decide)) (fun _ => ?_)
              refine lv_iconst (v := 0) hx hb dX4_load_96 (by decide) ?_
              have HE : M_load S uv ug uk = (0, S12) := by subst eS12; exact (if_pos c3).trans ((if_pos c4).trans ((if_pos c5).trans ((if_neg c7))))
              exact rt_i hx hb hr hlocks hI hA hQ ⟨by rw [HE], by rw [HE]⟩ (Nat.zero_le _) (Nat.zero_le _) dX4_load_97
        · refine lv_iconst (v := 2) hx hb dX4_load_63 (by decide) ?_
          refine lv_goto (tgt := 90) hx hb dX4_load_64 (by decide) ?_
          obtain ⟨S13, eS13⟩ : ∃ z : MS, z = mset S 29 0 2 := ⟨_, rfl⟩
          refine cVv (rest := []) hx hb hml hts hown hK hE hI (cM_fails2 G ad S) kM_101 ⟨Nat.le_of_ble_eq_true rfl, Nat.le_of_ble_eq_true rfl⟩ rfl rfl (kk := 4) (ii := 0) rfl rfl rfl hl.1 rfl (Nat.le_of_ble_eq_true rfl) dX4_load_90 ⟨Nat.zero_le _, Nat.zero_le _⟩ (fun H locs hI => ?_)
          rw [← eS13] at hI
          refine lv_if_eq (tgt := 98) hx hb dX4_load_93 (by decide) (fun h => absurd h (by decide)) (fun _ => ?_)
          refine lv_iconst (v := 0) hx hb dX4_load_96 (by decide) ?_
          have HE : M_load S uv ug uk = (0, S13) := by subst eS13; exact (if_pos c3).trans ((if_neg c4))
          exact rt_i hx hb hr hlocks hI hA hQ ⟨by rw [HE], by rw [HE]⟩ (Nat.zero_le _) (Nat.zero_le _) dX4_load_97
      · refine lv_iconst (v := 1) hx hb dX4_load_54 (by decide) ?_
        refine lv_goto (tgt := 90) hx hb dX4_load_55 (by decide) ?_
        obtain ⟨S14, eS14⟩ : ∃ z : MS, z = mset S 29 0 1 := ⟨_, rfl⟩
        refine cVv (rest := []) hx hb hml hts hown hK hE hI (cM_fails1 G ad S) kM_101 ⟨Nat.le_of_ble_eq_true rfl, Nat.le_of_ble_eq_true rfl⟩ rfl rfl (kk := 4) (ii := 0) rfl rfl rfl hl.1 rfl (Nat.le_of_ble_eq_true rfl) dX4_load_90 ⟨Nat.zero_le _, Nat.zero_le _⟩ (fun H locs hI => ?_)
        rw [← eS14] at hI
        refine lv_if_eq (tgt := 98) hx hb dX4_load_93 (by decide) (fun h => absurd h (by decide)) (fun _ => ?_)
        refine lv_iconst (v := 0) hx hb dX4_load_96 (by decide) ?_
        have HE : M_load S uv ug uk = (0, S14) := by subst eS14; exact (if_neg c3)
        exact rt_i hx hb hr hlocks hI hA hQ ⟨by rw [HE], by rw [HE]⟩ (Nat.zero_le _) (Nat.zero_le _) dX4_load_97
    refine xb_eq (tgt := 45) hx hb dX4_load_24 (by decide) (fun c15 => ?_) (fun c15 => ?_)
    · refine lv_iconst (v := 0) hx hb dX4_load_45 (by decide) ?_
      have eb16 : (0 : Int32) = bI (((M_isVehicle S uv) ∧ (M_isGoods S ug)) ∧ (M_isIn S uk 1 (S.1 18 uv.toNatClampNeg))) := (bI_f (fun k => c15 k.1)).symm
      rw [eb16]
      exact hJ2 _ _ hI
    · refine lv_iload_n hx hb dX4_load_27 rfl (lv_at hl 4 rfl) ?_
      refine lv_iconst (v := 1) hx hb dX4_load_28 (by decide) ?_
      refine lv_aload_n hx hb dX4_load_29 rfl (lv_at hl 1 rfl) ?_
      refine gM_54 hx hb hts hown hK hI dX4_load_30 ?_
      refine lv_iload_n hx hb dX4_load_33 rfl (lv_at hl 2 rfl) ?_
      refine lM_18 hx hb hK hI (isVehicle_in hN (c15).1) dX4_load_34 ?_
      refine cSv (rest := []) hx hb hml hts hown hK hE hI (cM_isIn G ad S uk 1 (S.1 18 uv.toNatClampNeg)) kM_94 ⟨Nat.le_of_ble_eq_true rfl, Nat.le_of_ble_eq_true rfl⟩ rfl rfl hl.1 rfl (Nat.le_of_ble_eq_true rfl) dX4_load_35 ⟨Nat.zero_le _, Nat.zero_le _⟩ (fun H locs hI => ?_)
      refine xb_eq (tgt := 45) hx hb dX4_load_38 (by decide) (fun c17 => ?_) (fun c17 => ?_)
      · refine lv_iconst (v := 0) hx hb dX4_load_45 (by decide) ?_
        have eb18 : (0 : Int32) = bI (((M_isVehicle S uv) ∧ (M_isGoods S ug)) ∧ (M_isIn S uk 1 (S.1 18 uv.toNatClampNeg))) := (bI_f (fun k => c17 k.2)).symm
        rw [eb18]
        exact hJ2 _ _ hI
      · refine lv_iconst (v := 1) hx hb dX4_load_41 (by decide) ?_
        refine lv_goto (tgt := 46) hx hb dX4_load_42 (by decide) ?_
        have eb19 : (1 : Int32) = bI (((M_isVehicle S uv) ∧ (M_isGoods S ug)) ∧ (M_isIn S uk 1 (S.1 18 uv.toNatClampNeg))) := (bI_t ⟨c15, c17⟩).symm
        rw [eb19]
        exact hJ2 _ _ hI
  refine xb_eq (tgt := 19) hx hb dX4_load_5 (by decide) (fun c20 => ?_) (fun c20 => ?_)
  · refine lv_iconst (v := 0) hx hb dX4_load_19 (by decide) ?_
    have eb21 : (0 : Int32) = bI ((M_isVehicle S uv) ∧ (M_isGoods S ug)) := (bI_f (fun k => c20 k.1)).symm
    rw [eb21]
    exact hJ1 _ _ hI
  · refine lv_iload_n hx hb dX4_load_8 rfl (lv_at hl 2 rfl) ?_
    refine cSv (rest := []) hx hb hml hts hown hK hE hI (cM_isGoods G ad S ug) kM_126 ⟨Nat.le_of_ble_eq_true rfl, Nat.le_of_ble_eq_true rfl⟩ rfl rfl hl.1 rfl (Nat.le_of_ble_eq_true rfl) dX4_load_9 ⟨Nat.zero_le _, Nat.zero_le _⟩ (fun H locs hI => ?_)
    refine xb_eq (tgt := 19) hx hb dX4_load_12 (by decide) (fun c22 => ?_) (fun c22 => ?_)
    · refine lv_iconst (v := 0) hx hb dX4_load_19 (by decide) ?_
      have eb23 : (0 : Int32) = bI ((M_isVehicle S uv) ∧ (M_isGoods S ug)) := (bI_f (fun k => c22 k.2)).symm
      rw [eb23]
      exact hJ1 _ _ hI
    · refine lv_iconst (v := 1) hx hb dX4_load_15 (by decide) ?_
      refine lv_goto (tgt := 20) hx hb dX4_load_16 (by decide) ?_
      have eb24 : (1 : Int32) = bI ((M_isVehicle S uv) ∧ (M_isGoods S ug)) := (bI_t ⟨c20, c22⟩).symm
      rw [eb24]
      exact hJ1 _ _ hI
end
section
def M_go (S : MS) (uv : Int32) : Int32 × MS :=
  if M_isVehicle S uv then
    if (M_isVehicle S uv) ∧ (((S.1 20 uv.toNatClampNeg) = 0) ∨ ((S.1 20 uv.toNatClampNeg) = 3)) then
      let S5 := mset S 29 0 0
      let S7 := mset S5 22 uv.toNatClampNeg (bI ((S5.1 20 uv.toNatClampNeg) = 0))
      let S8 := mset S7 20 uv.toNatClampNeg 2
      (S8.1 22 uv.toNatClampNeg, S8)
    else
      let S4 := mset S 29 0 2
      (0, S4)
  else
    let S12 := mset S 29 0 1
    (0, S12)
set_option maxHeartbeats 4000000 in
set_option maxRecDepth 100000 in
theorem cM_go (G : GX) (ad : Nat → Nat) (S : MS) (uv : Int32) {np nv : Nat} (hN : MNn S np nv) : FC G yX4_go cX4_go 3 (some .boolean) ({ frames := 2, cells := 0, slots := 0, locals := 43 }) [.ref (ad 0), .int uv] (mW G.2.2.2 ad S) (pv (.int (M_go S uv).1) (mW G.2.2.2 ad (M_go S uv).2)) := by
  refine FC.go (lv := [(0, .ref (ad 0)), (1, .int uv)]) (by decide) (Nat.le_of_ble_eq_true rfl) rfl (fun p e s m args below meth c A H locs ls Q hx hb hr hts hown hml hlocks hnm hK hE hI hA hl hQ => ?_)
  have hown : s.vm.findClass RX4 = some m.cls := hown
  refine lv_aload_n hx hb dX4_go_0 rfl (lv_at hl 0 rfl) ?_
  refine lv_iload_n hx hb dX4_go_1 rfl (lv_at hl 1 rfl) ?_
  refine cVv (rest := []) hx hb hml hts hown hK hE hI (cM_isVehicle G ad S uv) kM_123 ⟨Nat.le_of_ble_eq_true rfl, Nat.le_of_ble_eq_true rfl⟩ rfl rfl (kk := 4) (ii := 0) rfl rfl rfl hl.1 rfl (Nat.le_of_ble_eq_true rfl) dX4_go_2 ⟨Nat.zero_le _, Nat.zero_le _⟩ (fun H locs hI => ?_)
  have hJ1 : W p G.1 e ({ frames := 2, cells := 0, slots := 0, locals := 43 }) s m args below meth c H locs 0 0 Q (F0 m 32 ls [.int (bI ((M_isVehicle S uv) ∧ (((S.1 20 uv.toNatClampNeg) = 0) ∨ ((S.1 20 uv.toNatClampNeg) = 3))))]) := by
    refine lv_istore_n (lv' := [(2, .int (bI ((M_isVehicle S uv) ∧ (((S.1 20 uv.toNatClampNeg) = 0) ∨ ((S.1 20 uv.toNatClampNeg) = 3))))), (0, .ref (ad 0)), (1, .int uv)]) hx hb dX4_go_32 rfl hl (by decide) rfl (fun ls hl => ?_)
    refine lv_aload_n hx hb dX4_go_33 rfl (lv_at hl 1 rfl) ?_
    refine lv_aload_n hx hb dX4_go_34 rfl (lv_at hl 1 rfl) ?_
    refine lv_iload_n hx hb dX4_go_35 rfl (lv_at hl 2 rfl) ?_
    refine cVv (rest := [.ref (ad 0)]) hx hb hml hts hown hK hE hI (cM_isVehicle G ad S uv) kM_123 ⟨Nat.le_of_ble_eq_true rfl, Nat.le_of_ble_eq_true rfl⟩ rfl rfl (kk := 4) (ii := 0) rfl rfl rfl hl.1 rfl (Nat.le_of_ble_eq_true rfl) dX4_go_36 ⟨Nat.zero_le _, Nat.zero_le _⟩ (fun H locs hI => ?_)
    refine xb_ne (tgt := 46) hx hb dX4_go_39 (by decide) (fun c2 => ?_) (fun c2 => ?_)
    · refine lv_iload_n hx hb dX4_go_46 rfl (lv_at hl 0 rfl) ?_
      refine xb_eq (tgt := 54) hx hb dX4_go_47 (by decide) (fun c3 => ?_) (fun c3 => ?_)
      · refine lv_iconst (v := 2) hx hb dX4_go_54 (by decide) ?_
        obtain ⟨S4, eS4⟩ : ∃ z : MS, z = mset S 29 0 2 := ⟨_, rfl⟩
        refine cVv (rest := []) hx hb hml hts hown hK hE hI (cM_fails2 G ad S) kM_101 ⟨Nat.le_of_ble_eq_true rfl, Nat.le_of_ble_eq_true rfl⟩ rfl rfl (kk := 4) (ii := 0) rfl rfl rfl hl.1 rfl (Nat.le_of_ble_eq_true rfl) dX4_go_55 ⟨Nat.zero_le _, Nat.zero_le _⟩ (fun H locs hI => ?_)
        rw [← eS4] at hI
        refine lv_if_eq (tgt := 63) hx hb dX4_go_58 (by decide) (fun h => absurd h (by decide)) (fun _ => ?_)
        refine lv_iconst (v := 0) hx hb dX4_go_61 (by decide) ?_
        have HE : M_go S uv = (0, S4) := by subst eS4; exact (if_pos c2).trans ((if_neg c3))
        exact rt_z hx hb hr hlocks (by decide) hI hA hQ ⟨by rw [HE], by rw [HE]⟩ (Nat.zero_le _) (Nat.zero_le _) dX4_go_62
      · refine lv_iconst (v := 0) hx hb dX4_go_50 (by decide) ?_
        refine lv_goto (tgt := 55) hx hb dX4_go_51 (by decide) ?_
        obtain ⟨S5, eS5⟩ : ∃ z : MS, z = mset S 29 0 0 := ⟨_, rfl⟩
        refine cVv (rest := []) hx hb hml hts hown hK hE hI (cM_fails0 G ad S) kM_101 ⟨Nat.le_of_ble_eq_true rfl, Nat.le_of_ble_eq_true rfl⟩ rfl rfl (kk := 4) (ii := 0) rfl rfl rfl hl.1 rfl (Nat.le_of_ble_eq_true rfl) dX4_go_55 ⟨Nat.zero_le _, Nat.zero_le _⟩ (fun H locs hI => ?_)
        rw [← eS5] at hI
        refine lv_if_eq (tgt := 63) hx hb dX4_go_58 (by decide) (fun _ => ?_) (fun h => absurd h (by decide))
        refine lv_aload_n hx hb dX4_go_63 rfl (lv_at hl 1 rfl) ?_
        refine gM_66 hx hb hts hown hK hI dX4_go_64 ?_
        refine lv_iload_n hx hb dX4_go_67 rfl (lv_at hl 2 rfl) ?_
        refine lv_aload_n hx hb dX4_go_68 rfl (lv_at hl 1 rfl) ?_
        refine gM_60 hx hb hts hown hK hI dX4_go_69 ?_
        refine lv_iload_n hx hb dX4_go_72 rfl (lv_at hl 2 rfl) ?_
        refine lM_20 hx hb hK hI (isVehicle_in hN (c3).1) dX4_go_73 ?_
        have hJ6 : W p G.1 e ({ frames := 2, cells := 0, slots := 0, locals := 43 }) s m args below meth c H locs 0 0 Q (F0 m 82 ls [.int (bI ((S5.1 20 uv.toNatClampNeg) = 0)), .int uv, .ref (ad 22)]) := by
          obtain ⟨S7, eS7⟩ : ∃ z : MS, z = mset S5 22 uv.toNatClampNeg (bI ((S5.1 20 uv.toNatClampNeg) = 0)) := ⟨_, rfl⟩
          refine sM_22 hx hb hK hI (isVehicle_in hN (c3).1) bI_nar eS7 dX4_go_82 (fun H locs hI => ?_)
          refine lv_aload_n hx hb dX4_go_83 rfl (lv_at hl 1 rfl) ?_
          refine gM_60 hx hb hts hown hK hI dX4_go_84 ?_
          refine lv_iload_n hx hb dX4_go_87 rfl (lv_at hl 2 rfl) ?_
          refine lv_iconst (v := 2) hx hb dX4_go_88 (by decide) ?_
          obtain ⟨S8, eS8⟩ : ∃ z : MS, z = mset S7 20 uv.toNatClampNeg 2 := ⟨_, rfl⟩
          refine sM_20 hx hb hK hI (isVehicle_in hN (c3).1) eS8 dX4_go_89 (fun H locs hI => ?_)
          refine lv_aload_n hx hb dX4_go_90 rfl (lv_at hl 1 rfl) ?_
          refine gM_66 hx hb hts hown hK hI dX4_go_91 ?_
          refine lv_iload_n hx hb dX4_go_94 rfl (lv_at hl 2 rfl) ?_
          refine lM_22 hx hb hK hI (isVehicle_in hN (c3).1) dX4_go_95 ?_
          have HE : M_go S uv = (S8.1 22 uv.toNatClampNeg, S8) := by subst eS8 eS7 eS5; exact (if_pos c2).trans ((if_pos c3))
          exact rt_z hx hb hr hlocks (by subst eS8 eS7 eS5; rw [mset_k (k' := 22) (by decide), mset_s]; exact bI_narrow) hI hA hQ ⟨by rw [HE], by rw [HE]⟩ (Nat.zero_le _) (Nat.zero_le _) dX4_go_96
        refine lv_if_ne (tgt := 81) hx hb dX4_go_74 (by decide) (fun c9 => ?_) (fun c9 => ?_)
        · refine lv_iconst (v := 0) hx hb dX4_go_81 (by decide) ?_
          have eb10 : (0 : Int32) = bI ((S5.1 20 uv.toNatClampNeg) = 0) := (bI_f c9).symm
          rw [eb10]
          exact hJ6
        · refine lv_iconst (v := 1) hx hb dX4_go_77 (by decide) ?_
          refine lv_goto (tgt := 82) hx hb dX4_go_78 (by decide) ?_
          have eb11 : (1 : Int32) = bI ((S5.1 20 uv.toNatClampNeg) = 0) := (bI_t c9).symm
          rw [eb11]
          exact hJ6
    · refine lv_iconst (v := 1) hx hb dX4_go_42 (by decide) ?_
      refine lv_goto (tgt := 55) hx hb dX4_go_43 (by decide) ?_
      obtain ⟨S12, eS12⟩ : ∃ z : MS, z = mset S 29 0 1 := ⟨_, rfl⟩
      refine cVv (rest := []) hx hb hml hts hown hK hE hI (cM_fails1 G ad S) kM_101 ⟨Nat.le_of_ble_eq_true rfl, Nat.le_of_ble_eq_true rfl⟩ rfl rfl (kk := 4) (ii := 0) rfl rfl rfl hl.1 rfl (Nat.le_of_ble_eq_true rfl) dX4_go_55 ⟨Nat.zero_le _, Nat.zero_le _⟩ (fun H locs hI => ?_)
      rw [← eS12] at hI
      refine lv_if_eq (tgt := 63) hx hb dX4_go_58 (by decide) (fun h => absurd h (by decide)) (fun _ => ?_)
      refine lv_iconst (v := 0) hx hb dX4_go_61 (by decide) ?_
      have HE : M_go S uv = (0, S12) := by subst eS12; exact (if_neg c2)
      exact rt_z hx hb hr hlocks (by decide) hI hA hQ ⟨by rw [HE], by rw [HE]⟩ (Nat.zero_le _) (Nat.zero_le _) dX4_go_62
  refine xb_eq (tgt := 31) hx hb dX4_go_5 (by decide) (fun c13 => ?_) (fun c13 => ?_)
  · refine lv_iconst (v := 0) hx hb dX4_go_31 (by decide) ?_
    have eb14 : (0 : Int32) = bI ((M_isVehicle S uv) ∧ (((S.1 20 uv.toNatClampNeg) = 0) ∨ ((S.1 20 uv.toNatClampNeg) = 3))) := (bI_f (fun k => c13 k.1)).symm
    rw [eb14]
    exact hJ1
  · refine lv_aload_n hx hb dX4_go_8 rfl (lv_at hl 0 rfl) ?_
    refine gM_60 hx hb hts hown hK hI dX4_go_9 ?_
    refine lv_iload_n hx hb dX4_go_12 rfl (lv_at hl 1 rfl) ?_
    refine lM_20 hx hb hK hI (isVehicle_in hN c13) dX4_go_13 ?_
    refine lv_if_eq (tgt := 27) hx hb dX4_go_14 (by decide) (fun c15 => ?_) (fun c15 => ?_)
    · refine lv_iconst (v := 1) hx hb dX4_go_27 (by decide) ?_
      refine lv_goto (tgt := 32) hx hb dX4_go_28 (by decide) ?_
      have eb16 : (1 : Int32) = bI ((M_isVehicle S uv) ∧ (((S.1 20 uv.toNatClampNeg) = 0) ∨ ((S.1 20 uv.toNatClampNeg) = 3))) := (bI_t ⟨c13, (Or.inl c15)⟩).symm
      rw [eb16]
      exact hJ1
    · refine lv_aload_n hx hb dX4_go_17 rfl (lv_at hl 0 rfl) ?_
      refine gM_60 hx hb hts hown hK hI dX4_go_18 ?_
      refine lv_iload_n hx hb dX4_go_21 rfl (lv_at hl 1 rfl) ?_
      refine lM_20 hx hb hK hI (isVehicle_in hN c13) dX4_go_22 ?_
      refine lv_iconst (v := 3) hx hb dX4_go_23 (by decide) ?_
      refine lv_icmp_ne (tgt := 31) hx hb dX4_go_24 (by decide) (fun c17 => ?_) (fun c17 => ?_)
      · refine lv_iconst (v := 0) hx hb dX4_go_31 (by decide) ?_
        have eb18 : (0 : Int32) = bI ((M_isVehicle S uv) ∧ (((S.1 20 uv.toNatClampNeg) = 0) ∨ ((S.1 20 uv.toNatClampNeg) = 3))) := (bI_f (fun k => (fun k => k.elim c15 c17) k.2)).symm
        rw [eb18]
        exact hJ1
      · refine lv_iconst (v := 1) hx hb dX4_go_27 (by decide) ?_
        refine lv_goto (tgt := 32) hx hb dX4_go_28 (by decide) ?_
        have eb19 : (1 : Int32) = bI ((M_isVehicle S uv) ∧ (((S.1 20 uv.toNatClampNeg) = 0) ∨ ((S.1 20 uv.toNatClampNeg) = 3))) := (bI_t ⟨c13, (Or.inr c17)⟩).symm
        rw [eb19]
        exact hJ1

theorem M_unloads_k (S : MS) (v b : Int32) {k : Nat} (h4 : k ≠ 24) (h5 : k ≠ 25) (h6 : k ≠ 26) (h7 : k ≠ 27) : (M_unloads S v b).1 k = S.1 k := by
  unfold M_unloads
  simp only
  rw [mset_k h5, mset_k h4]
  split
  · rfl
  · rw [mset_k h6, mset_k h7]
theorem M_arrives_k (S : MS) (v : Int32) {k : Nat} (h0 : k ≠ 20) (h4 : k ≠ 24) (h5 : k ≠ 25) (h6 : k ≠ 26) (h7 : k ≠ 27) : (M_arrives S v).1 k = S.1 k := by
  unfold M_arrives
  simp only
  rw [M_unloads_k _ _ _ h4 h5 h6 h7, mset_k h0]
def M_turn (S : MS) (uv : Int32) : Int32 × MS :=
  if M_isVehicle S uv then
    if (S.1 20 uv.toNatClampNeg) = 2 then
      let S4 := mset S 29 0 0
      let S6 := mset S4 22 uv.toNatClampNeg (bI ((S4.1 22 uv.toNatClampNeg) = 0))
      let S7 := if M_isThere S6 uv then (M_arrives S6 uv) else S6
      (S7.1 22 uv.toNatClampNeg, S7)
    else
      let S3 := mset S 29 0 2
      (0, S3)
  else
    let S14 := mset S 29 0 1
    (0, S14)
set_option maxHeartbeats 4000000 in
set_option maxRecDepth 100000 in
theorem cM_turn (G : GX) (ad : Nat → Nat) (S : MS) (uv : Int32) {np nv : Nat} (hN : MNn S np nv) (hG : GI S) : FC G yX4_turn cX4_turn 2 (some .boolean) ({ frames := 2, cells := 0, slots := 0, locals := 43 }) [.ref (ad 0), .int uv] (mW G.2.2.2 ad S) (pv (.int (M_turn S uv).1) (mW G.2.2.2 ad (M_turn S uv).2)) := by
  refine FC.go (lv := [(0, .ref (ad 0)), (1, .int uv)]) (by decide) (Nat.le_of_ble_eq_true rfl) rfl (fun p e s m args below meth c A H locs ls Q hx hb hr hts hown hml hlocks hnm hK hE hI hA hl hQ => ?_)
  have hown : s.vm.findClass RX4 = some m.cls := hown
  refine lv_aload_n hx hb dX4_turn_0 rfl (lv_at hl 0 rfl) ?_
  refine lv_aload_n hx hb dX4_turn_1 rfl (lv_at hl 0 rfl) ?_
  refine lv_iload_n hx hb dX4_turn_2 rfl (lv_at hl 1 rfl) ?_
  refine cVv (rest := [.ref (ad 0)]) hx hb hml hts hown hK hE hI (cM_isVehicle G ad S uv) kM_123 ⟨Nat.le_of_ble_eq_true rfl, Nat.le_of_ble_eq_true rfl⟩ rfl rfl (kk := 4) (ii := 0) rfl rfl rfl hl.1 rfl (Nat.le_of_ble_eq_true rfl) dX4_turn_3 ⟨Nat.zero_le _, Nat.zero_le _⟩ (fun H locs hI => ?_)
  refine xb_ne (tgt := 13) hx hb dX4_turn_6 (by decide) (fun c1 => ?_) (fun c1 => ?_)
  · refine lv_aload_n hx hb dX4_turn_13 rfl (lv_at hl 0 rfl) ?_
    refine gM_60 hx hb hts hown hK hI dX4_turn_14 ?_
    refine lv_iload_n hx hb dX4_turn_17 rfl (lv_at hl 1 rfl) ?_
    refine lM_20 hx hb hK hI (isVehicle_in hN c1) dX4_turn_18 ?_
    refine lv_iconst (v := 2) hx hb dX4_turn_19 (by decide) ?_
    refine lv_icmp_ne (tgt := 27) hx hb dX4_turn_20 (by decide) (fun c2 => ?_) (fun c2 => ?_)
    · refine lv_iconst (v := 2) hx hb dX4_turn_27 (by decide) ?_
      obtain ⟨S3, eS3⟩ : ∃ z : MS, z = mset S 29 0 2 := ⟨_, rfl⟩
      refine cVv (rest := []) hx hb hml hts hown hK hE hI (cM_fails2 G ad S) kM_101 ⟨Nat.le_of_ble_eq_true rfl, Nat.le_of_ble_eq_true rfl⟩ rfl rfl (kk := 4) (ii := 0) rfl rfl rfl hl.1 rfl (Nat.le_of_ble_eq_true rfl) dX4_turn_28 ⟨Nat.zero_le _, Nat.zero_le _⟩ (fun H locs hI => ?_)
      rw [← eS3] at hI
      refine lv_if_eq (tgt := 36) hx hb dX4_turn_31 (by decide) (fun h => absurd h (by decide)) (fun _ => ?_)
      refine lv_iconst (v := 0) hx hb dX4_turn_34 (by decide) ?_
      have HE : M_turn S uv = (0, S3) := by subst eS3; exact (if_pos c1).trans ((if_neg c2))
      exact rt_z hx hb hr hlocks (by decide) hI hA hQ ⟨by rw [HE], by rw [HE]⟩ (Nat.zero_le _) (Nat.zero_le _) dX4_turn_35
    · refine lv_iconst (v := 0) hx hb dX4_turn_23 (by decide) ?_
      refine lv_goto (tgt := 28) hx hb dX4_turn_24 (by decide) ?_
      obtain ⟨S4, eS4⟩ : ∃ z : MS, z = mset S 29 0 0 := ⟨_, rfl⟩
      refine cVv (rest := []) hx hb hml hts hown hK hE hI (cM_fails0 G ad S) kM_101 ⟨Nat.le_of_ble_eq_true rfl, Nat.le_of_ble_eq_true rfl⟩ rfl rfl (kk := 4) (ii := 0) rfl rfl rfl hl.1 rfl (Nat.le_of_ble_eq_true rfl) dX4_turn_28 ⟨Nat.zero_le _, Nat.zero_le _⟩ (fun H locs hI => ?_)
      rw [← eS4] at hI
      refine lv_if_eq (tgt := 36) hx hb dX4_turn_31 (by decide) (fun _ => ?_) (fun h => absurd h (by decide))
      refine lv_aload_n hx hb dX4_turn_36 rfl (lv_at hl 0 rfl) ?_
      refine gM_66 hx hb hts hown hK hI dX4_turn_37 ?_
      refine lv_iload_n hx hb dX4_turn_40 rfl (lv_at hl 1 rfl) ?_
      refine lv_aload_n hx hb dX4_turn_41 rfl (lv_at hl 0 rfl) ?_
      refine gM_66 hx hb hts hown hK hI dX4_turn_42 ?_
      refine lv_iload_n hx hb dX4_turn_45 rfl (lv_at hl 1 rfl) ?_
      refine lM_22 hx hb hK hI (isVehicle_in hN c1) dX4_turn_46 ?_
      have hJ5 : W p G.1 e ({ frames := 2, cells := 0, slots := 0, locals := 43 }) s m args below meth c H locs 0 0 Q (F0 m 55 ls [.int (bI ((S4.1 22 uv.toNatClampNeg) = 0)), .int uv, .ref (ad 22)]) := by
        obtain ⟨S6, eS6⟩ : ∃ z : MS, z = mset S4 22 uv.toNatClampNeg (bI ((S4.1 22 uv.toNatClampNeg) = 0)) := ⟨_, rfl⟩
        refine sM_22 hx hb hK hI (isVehicle_in hN c1) bI_nar eS6 dX4_turn_55 (fun H locs hI => ?_)
        refine lv_aload_n hx hb dX4_turn_56 rfl (lv_at hl 0 rfl) ?_
        refine lv_iload_n hx hb dX4_turn_57 rfl (lv_at hl 1 rfl) ?_
        refine cVv (rest := []) hx hb hml hts hown hK hE hI (cM_isThere G ad S6 uv (isVehicle_in hN c1)) kM_137 ⟨Nat.le_of_ble_eq_true rfl, Nat.le_of_ble_eq_true rfl⟩ rfl rfl (kk := 4) (ii := 0) rfl rfl rfl hl.1 rfl (Nat.le_of_ble_eq_true rfl) dX4_turn_58 ⟨Nat.zero_le _, Nat.zero_le _⟩ (fun H locs hI => ?_)
        have hJ8 : ∀ (S7 : MS) (H : Heap) (locs : List Loc), (S7 = if M_isThere S6 uv then (M_arrives S6 uv) else S6) → (fI G.2.2.1 A s.heap (mW G.2.2.2 ad S7) H locs) → W p G.1 e ({ frames := 2, cells := 0, slots := 0, locals := 43 }) s m args below meth c H locs 0 0 Q (F0 m 69 ls []) := by
          intro S7 H locs eS7 hI
          refine lv_aload_n hx hb dX4_turn_69 rfl (lv_at hl 0 rfl) ?_
          refine gM_66 hx hb hts hown hK hI dX4_turn_70 ?_
          refine lv_iload_n hx hb dX4_turn_73 rfl (lv_at hl 1 rfl) ?_
          refine lM_22 hx hb hK hI (isVehicle_in hN c1) dX4_turn_74 ?_
          have HE : M_turn S uv = (S7.1 22 uv.toNatClampNeg, S7) := by subst eS7 eS6 eS4; exact (if_pos c1).trans ((if_pos c2))
          exact rt_z hx hb hr hlocks (by subst eS7 eS6 eS4; first | (rw [M_arrives_k _ _ (by decide) (by decide) (by decide) (by decide) (by decide), mset_s]; exact bI_narrow) | (rw [mset_s]; exact bI_narrow) | (split <;> first | (rw [M_arrives_k _ _ (by decide) (by decide) (by decide) (by decide) (by decide), mset_s]; exact bI_narrow) | (rw [mset_s]; exact bI_narrow))) hI hA hQ ⟨by rw [HE], by rw [HE]⟩ (Nat.zero_le _) (Nat.zero_le _) dX4_turn_75
        refine xb_eq (tgt := 69) hx hb dX4_turn_61 (by decide) (fun c9 => ?_) (fun c9 => ?_)
        · exact hJ8 S6 _ _ (by exact (if_neg c9).symm) hI
        · refine lv_aload_n hx hb dX4_turn_64 rfl (lv_at hl 0 rfl) ?_
          refine lv_iload_n hx hb dX4_turn_65 rfl (lv_at hl 1 rfl) ?_
          obtain ⟨S10, eS10⟩ : ∃ z : MS, z = M_arrives S6 uv := ⟨_, rfl⟩
          refine cV0 (rest := []) hx hb hml hts hown hK hE hI (cM_arrives G ad S6 uv (isVehicle_in hN c1) (GI_set (GI_set hG (by decide) (by decide) eS4) (by decide) (by decide) eS6)) kM_140 ⟨Nat.le_of_ble_eq_true rfl, Nat.le_of_ble_eq_true rfl⟩ rfl rfl (kk := 4) (ii := 0) rfl rfl rfl hl.1 rfl (Nat.le_of_ble_eq_true rfl) dX4_turn_66 ⟨Nat.zero_le _, Nat.zero_le _⟩ (fun H locs hI => ?_)
          rw [← eS10] at hI
          exact hJ8 S10 _ _ (by subst eS10; exact (if_pos c9).symm) hI
      refine lv_if_ne (tgt := 54) hx hb dX4_turn_47 (by decide) (fun c11 => ?_) (fun c11 => ?_)
      · refine lv_iconst (v := 0) hx hb dX4_turn_54 (by decide) ?_
        have eb12 : (0 : Int32) = bI ((S4.1 22 uv.toNatClampNeg) = 0) := (bI_f c11).symm
        rw [eb12]
        exact hJ5
      · refine lv_iconst (v := 1) hx hb dX4_turn_50 (by decide) ?_
        refine lv_goto (tgt := 55) hx hb dX4_turn_51 (by decide) ?_
        have eb13 : (1 : Int32) = bI ((S4.1 22 uv.toNatClampNeg) = 0) := (bI_t c11).symm
        rw [eb13]
        exact hJ5
  · refine lv_iconst (v := 1) hx hb dX4_turn_9 (by decide) ?_
    refine lv_goto (tgt := 28) hx hb dX4_turn_10 (by decide) ?_
    obtain ⟨S14, eS14⟩ : ∃ z : MS, z = mset S 29 0 1 := ⟨_, rfl⟩
    refine cVv (rest := []) hx hb hml hts hown hK hE hI (cM_fails1 G ad S) kM_101 ⟨Nat.le_of_ble_eq_true rfl, Nat.le_of_ble_eq_true rfl⟩ rfl rfl (kk := 4) (ii := 0) rfl rfl rfl hl.1 rfl (Nat.le_of_ble_eq_true rfl) dX4_turn_28 ⟨Nat.zero_le _, Nat.zero_le _⟩ (fun H locs hI => ?_)
    rw [← eS14] at hI
    refine lv_if_eq (tgt := 36) hx hb dX4_turn_31 (by decide) (fun h => absurd h (by decide)) (fun _ => ?_)
    refine lv_iconst (v := 0) hx hb dX4_turn_34 (by decide) ?_
    have HE : M_turn S uv = (0, S14) := by subst eS14; exact (if_neg c1)
    exact rt_z hx hb hr hlocks (by decide) hI hA hQ ⟨by rw [HE], by rw [HE]⟩ (Nat.zero_le _) (Nat.zero_le _) dX4_turn_35

def M_freezes (S : MS) (up : Int32) : MS :=
  let x1 := if (S.1 9 up.toNatClampNeg) ≤ (2 * (S.1 1 0)) then (S.1 9 up.toNatClampNeg) else (2 * (S.1 1 0))
  let S3 := mset S 9 up.toNatClampNeg ((S.1 9 up.toNatClampNeg) - x1)
  let S4 := mset S3 8 up.toNatClampNeg ((S3.1 8 up.toNatClampNeg) + x1)
  let S5 := if (S4.1 9 up.toNatClampNeg) = 0 then (mset S4 7 up.toNatClampNeg ((S4.1 7 up.toNatClampNeg) + (if 0 ≤ (((400 * (S4.1 1 0)) / ((((S4.1 7 up.toNatClampNeg) + (S4.1 8 up.toNatClampNeg)) + (4 * (S4.1 10 up.toNatClampNeg))) + 50)) - (if (S4.1 4 up.toNatClampNeg) = 1 then 2 else 0)) then (((400 * (S4.1 1 0)) / ((((S4.1 7 up.toNatClampNeg) + (S4.1 8 up.toNatClampNeg)) + (4 * (S4.1 10 up.toNatClampNeg))) + 50)) - (if (S4.1 4 up.toNatClampNeg) = 1 then 2 else 0)) else 0))) else S4
  let S7 := if (S5.1 1 0) < 40 then (if (S5.1 1 0) < 10 then S5 else (mset S5 11 up.toNatClampNeg (bI ((S5.1 11 up.toNatClampNeg) = 2)))) else (mset S5 11 up.toNatClampNeg (if (S5.1 11 up.toNatClampNeg) = 0 then 1 else (S5.1 11 up.toNatClampNeg)))
  S7
set_option maxHeartbeats 4000000 in
set_option maxRecDepth 100000 in
theorem cM_freezes (G : GX) (ad : Nat → Nat) (S : MS) (up : Int32) (hp : vp_in up 10) (hden : ¬ (((S.1 7 up.toNatClampNeg + (S.1 8 up.toNatClampNeg + (if S.1 9 up.toNatClampNeg ≤ 2 * S.1 1 0 then S.1 9 up.toNatClampNeg else 2 * S.1 1 0))) + 4 * S.1 10 up.toNatClampNeg) + 50 = 0)) : FC G yX4_freezes cX4_freezes 4 none ({ frames := 0, cells := 0, slots := 0, locals := 0 }) [.ref (ad 0), .int up] (mW G.2.2.2 ad S) (p0 (mW G.2.2.2 ad (M_freezes S up))) := by
  refine FC.go (lv := [(0, .ref (ad 0)), (1, .int up)]) (by decide) (Nat.le_of_ble_eq_true rfl) rfl (fun p e s m args below meth c A H locs ls Q hx hb hr hts hown hml hlocks hnm hK hE hI hA hl hQ => ?_)
  have hown : s.vm.findClass RX4 = some m.cls := hown
  refine lv_iconst (v := 2) hx hb dX4_freezes_0 (by decide) ?_
  refine lv_aload_n hx hb dX4_freezes_1 rfl (lv_at hl 0 rfl) ?_
  refine gM_106 hx hb hts hown hK hI dX4_freezes_2 ?_
  refine lv_imul hx hb dX4_freezes_5 ?_
  refine lv_aload_n hx hb dX4_freezes_6 rfl (lv_at hl 0 rfl) ?_
  refine gM_29 hx hb hts hown hK hI dX4_freezes_7 ?_
  refine lv_iload_n hx hb dX4_freezes_10 rfl (lv_at hl 1 rfl) ?_
  refine lM_9 hx hb hK hI hp dX4_freezes_11 ?_
  have hJ2 : ∀ (x1 : Int32), (x1 = if (S.1 9 up.toNatClampNeg) ≤ (2 * (S.1 1 0)) then (S.1 9 up.toNatClampNeg) else (2 * (S.1 1 0))) → W p G.1 e ({ frames := 0, cells := 0, slots := 0, locals := 0 }) s m args below meth c H locs 0 0 Q (F0 m 30 ls [.int x1]) := by
    intro x1 ex1
    refine lv_istore_n (lv' := [(2, .int x1), (0, .ref (ad 0)), (1, .int up)]) hx hb dX4_freezes_30 rfl hl (by decide) rfl (fun ls hl => ?_)
    refine lv_aload_n hx hb dX4_freezes_31 rfl (lv_at hl 1 rfl) ?_
    refine gM_29 hx hb hts hown hK hI dX4_freezes_32 ?_
    refine lv_iload_n hx hb dX4_freezes_35 rfl (lv_at hl 2 rfl) ?_
    refine lv_dup2_11 hx hb dX4_freezes_36 rfl rfl ?_
    refine lM_9 hx hb hK hI hp dX4_freezes_37 ?_
    refine lv_iload_n hx hb dX4_freezes_38 rfl (lv_at hl 0 rfl) ?_
    refine lv_isub hx hb dX4_freezes_39 ?_
    obtain ⟨S3, eS3⟩ : ∃ z : MS, z = mset S 9 up.toNatClampNeg ((S.1 9 up.toNatClampNeg) - x1) := ⟨_, rfl⟩
    refine sM_9 hx hb hK hI hp eS3 dX4_freezes_40 (fun H locs hI => ?_)
    refine lv_aload_n hx hb dX4_freezes_41 rfl (lv_at hl 1 rfl) ?_
    refine gM_26 hx hb hts hown hK hI dX4_freezes_42 ?_
    refine lv_iload_n hx hb dX4_freezes_45 rfl (lv_at hl 2 rfl) ?_
    refine lv_dup2_11 hx hb dX4_freezes_46 rfl rfl ?_
    refine lM_8 hx hb hK hI hp dX4_freezes_47 ?_
    refine lv_iload_n hx hb dX4_freezes_48 rfl (lv_at hl 0 rfl) ?_
    refine lv_iadd hx hb dX4_freezes_49 ?_
    obtain ⟨S4, eS4⟩ : ∃ z : MS, z = mset S3 8 up.toNatClampNeg ((S3.1 8 up.toNatClampNeg) + x1) := ⟨_, rfl⟩
    refine sM_8 hx hb hK hI hp eS4 dX4_freezes_50 (fun H locs hI => ?_)
    refine lv_aload_n hx hb dX4_freezes_51 rfl (lv_at hl 1 rfl) ?_
    refine gM_29 hx hb hts hown hK hI dX4_freezes_52 ?_
    refine lv_iload_n hx hb dX4_freezes_55 rfl (lv_at hl 2 rfl) ?_
    refine lM_9 hx hb hK hI hp dX4_freezes_56 ?_
    have hJ6 : ∀ (S5 : MS) (H : Heap) (locs : List Loc) (ls : Array Slot), (S5 = if (S4.1 9 up.toNatClampNeg) = 0 then (mset S4 7 up.toNatClampNeg ((S4.1 7 up.toNatClampNeg) + (if 0 ≤ (((400 * (S4.1 1 0)) / ((((S4.1 7 up.toNatClampNeg) + (S4.1 8 up.toNatClampNeg)) + (4 * (S4.1 10 up.toNatClampNeg))) + 50)) - (if (S4.1 4 up.toNatClampNeg) = 1 then 2 else 0)) then (((400 * (S4.1 1 0)) / ((((S4.1 7 up.toNatClampNeg) + (S4.1 8 up.toNatClampNeg)) + (4 * (S4.1 10 up.toNatClampNeg))) + 50)) - (if (S4.1 4 up.toNatClampNeg) = 1 then 2 else 0)) else 0))) else S4) → (fI G.2.2.1 A s.heap (mW G.2.2.2 ad S5) H locs) → (lv_has ls 4 [(2, .int x1), (0, .ref (ad 0)), (1, .int up)]) → W p G.1 e ({ frames := 0, cells := 0, slots := 0, locals := 0 }) s m args below meth c H locs 0 0 Q (F0 m 131 ls []) := by
      intro S5 H locs ls eS5 hI hl
      refine lv_aload_n hx hb dX4_freezes_131 rfl (lv_at hl 1 rfl) ?_
      refine gM_106 hx hb hts hown hK hI dX4_freezes_132 ?_
      refine lv_bipush (v := 40) hx hb dX4_freezes_135 (by decide) ?_
      have hJ8 : ∀ (S7 : MS) (H : Heap) (locs : List Loc), (S7 = if (S5.1 1 0) < 40 then (if (S5.1 1 0) < 10 then S5 else (mset S5 11 up.toNatClampNeg (bI ((S5.1 11 up.toNatClampNeg) = 2)))) else (mset S5 11 up.toNatClampNeg (if (S5.1 11 up.toNatClampNeg) = 0 then 1 else (S5.1 11 up.toNatClampNeg)))) → (fI G.2.2.1 A s.heap (mW G.2.2.2 ad S7) H locs) → W p G.1 e ({ frames := 0, cells := 0, slots := 0, locals := 0 }) s m args below meth c H locs 0 0 Q (F0 m 198 ls []) := by
        intro S7 H locs eS7 hI
        have HE : M_freezes S up = S7 := by subst eS7 eS5 eS4 eS3 ex1; exact rfl
        exact rt_v hx hb hr hlocks hI hA hQ ⟨rfl, by rw [HE]⟩ (Nat.zero_le _) (Nat.zero_le _) dX4_freezes_198
      refine lv_icmp_lt (tgt := 168) hx hb dX4_freezes_137 (by decide) (fun c9 => ?_) (fun c9 => ?_)
      · refine lv_aload_n hx hb dX4_freezes_168 rfl (lv_at hl 1 rfl) ?_
        refine gM_106 hx hb hts hown hK hI dX4_freezes_169 ?_
        refine lv_bipush (v := 10) hx hb dX4_freezes_172 (by decide) ?_
        refine lv_icmp_lt (tgt := 198) hx hb dX4_freezes_174 (by decide) (fun c10 => ?_) (fun c10 => ?_)
        · exact hJ8 S5 _ _ (by exact ((if_pos c9).trans (if_pos c10)).symm) hI
        · refine lv_aload_n hx hb dX4_freezes_177 rfl (lv_at hl 1 rfl) ?_
          refine gM_35 hx hb hts hown hK hI dX4_freezes_178 ?_
          refine lv_iload_n hx hb dX4_freezes_181 rfl (lv_at hl 2 rfl) ?_
          refine lv_aload_n hx hb dX4_freezes_182 rfl (lv_at hl 1 rfl) ?_
          refine gM_35 hx hb hts hown hK hI dX4_freezes_183 ?_
          refine lv_iload_n hx hb dX4_freezes_186 rfl (lv_at hl 2 rfl) ?_
          refine lM_11 hx hb hK hI hp dX4_freezes_187 ?_
          refine lv_iconst (v := 2) hx hb dX4_freezes_188 (by decide) ?_
          have hJ11 : W p G.1 e ({ frames := 0, cells := 0, slots := 0, locals := 0 }) s m args below meth c H locs 0 0 Q (F0 m 197 ls [.int (bI ((S5.1 11 up.toNatClampNeg) = 2)), .int up, .ref (ad 11)]) := by
            obtain ⟨S12, eS12⟩ : ∃ z : MS, z = mset S5 11 up.toNatClampNeg (bI ((S5.1 11 up.toNatClampNeg) = 2)) := ⟨_, rfl⟩
            refine sM_11 hx hb hK hI hp eS12 dX4_freezes_197 (fun H locs hI => ?_)
            exact hJ8 S12 _ _ (by subst eS12; exact ((if_pos c9).trans (if_neg c10)).symm) hI
          refine lv_icmp_ne (tgt := 196) hx hb dX4_freezes_189 (by decide) (fun c13 => ?_) (fun c13 => ?_)
          · refine lv_iconst (v := 0) hx hb dX4_freezes_196 (by decide) ?_
            have eb14 : (0 : Int32) = bI ((S5.1 11 up.toNatClampNeg) = 2) := (bI_f c13).symm
            rw [eb14]
            exact hJ11
          · refine lv_iconst (v := 1) hx hb dX4_freezes_192 (by decide) ?_
            refine lv_goto (tgt := 197) hx hb dX4_freezes_193 (by decide) ?_
            have eb15 : (1 : Int32) = bI ((S5.1 11 up.toNatClampNeg) = 2) := (bI_t c13).symm
            rw [eb15]
            exact hJ11
      · refine lv_aload_n hx hb dX4_freezes_140 rfl (lv_at hl 1 rfl) ?_
        refine gM_35 hx hb hts hown hK hI dX4_freezes_141 ?_
        refine lv_iload_n hx hb dX4_freezes_144 rfl (lv_at hl 2 rfl) ?_
        refine lv_aload_n hx hb dX4_freezes_145 rfl (lv_at hl 1 rfl) ?_
        refine gM_35 hx hb hts hown hK hI dX4_freezes_146 ?_
        refine lv_iload_n hx hb dX4_freezes_149 rfl (lv_at hl 2 rfl) ?_
        refine lM_11 hx hb hK hI hp dX4_freezes_150 ?_
        have hJ17 : ∀ (x16 : Int32), (x16 = if (S5.1 11 up.toNatClampNeg) = 0 then 1 else (S5.1 11 up.toNatClampNeg)) → W p G.1 e ({ frames := 0, cells := 0, slots := 0, locals := 0 }) s m args below meth c H locs 0 0 Q (F0 m 164 ls [.int x16, .int up, .ref (ad 11)]) := by
          intro x16 ex16
          obtain ⟨S18, eS18⟩ : ∃ z : MS, z = mset S5 11 up.toNatClampNeg x16 := ⟨_, rfl⟩
          refine sM_11 hx hb hK hI hp eS18 dX4_freezes_164 (fun H locs hI => ?_)
          refine lv_goto (tgt := 198) hx hb dX4_freezes_165 (by decide) ?_
          exact hJ8 S18 _ _ (by subst eS18 ex16; exact (if_neg c9).symm) hI
        refine lv_if_ne (tgt := 158) hx hb dX4_freezes_151 (by decide) (fun c19 => ?_) (fun c19 => ?_)
        · refine lv_aload_n hx hb dX4_freezes_158 rfl (lv_at hl 1 rfl) ?_
          refine gM_35 hx hb hts hown hK hI dX4_freezes_159 ?_
          refine lv_iload_n hx hb dX4_freezes_162 rfl (lv_at hl 2 rfl) ?_
          refine lM_11 hx hb hK hI hp dX4_freezes_163 ?_
          exact hJ17 (S5.1 11 up.toNatClampNeg) (by exact (if_neg c19).symm)
        · refine lv_iconst (v := 1) hx hb dX4_freezes_154 (by decide) ?_
          refine lv_goto (tgt := 164) hx hb dX4_freezes_155 (by decide) ?_
          exact hJ17 1 (by exact (if_pos c19).symm)
    refine lv_if_ne (tgt := 131) hx hb dX4_freezes_57 (by decide) (fun c20 => ?_) (fun c20 => ?_)
    · exact hJ6 S4 _ _ _ (by exact (if_neg c20).symm) hI (lv_sub hl [0, 1, 2] rfl)
    · refine lv_sipush (v := 400) hx hb dX4_freezes_60 (by decide) ?_
      refine lv_aload_n hx hb dX4_freezes_63 rfl (lv_at hl 1 rfl) ?_
      refine gM_106 hx hb hts hown hK hI dX4_freezes_64 ?_
      refine lv_imul hx hb dX4_freezes_67 ?_
      refine lv_aload_n hx hb dX4_freezes_68 rfl (lv_at hl 1 rfl) ?_
      refine gM_23 hx hb hts hown hK hI dX4_freezes_69 ?_
      refine lv_iload_n hx hb dX4_freezes_72 rfl (lv_at hl 2 rfl) ?_
      refine lM_7 hx hb hK hI hp dX4_freezes_73 ?_
      refine lv_aload_n hx hb dX4_freezes_74 rfl (lv_at hl 1 rfl) ?_
      refine gM_26 hx hb hts hown hK hI dX4_freezes_75 ?_
      refine lv_iload_n hx hb dX4_freezes_78 rfl (lv_at hl 2 rfl) ?_
      refine lM_8 hx hb hK hI hp dX4_freezes_79 ?_
      refine lv_iadd hx hb dX4_freezes_80 ?_
      refine lv_iconst (v := 4) hx hb dX4_freezes_81 (by decide) ?_
      refine lv_aload_n hx hb dX4_freezes_82 rfl (lv_at hl 1 rfl) ?_
      refine gM_32 hx hb hts hown hK hI dX4_freezes_83 ?_
      refine lv_iload_n hx hb dX4_freezes_86 rfl (lv_at hl 2 rfl) ?_
      refine lM_10 hx hb hK hI hp dX4_freezes_87 ?_
      refine lv_imul hx hb dX4_freezes_88 ?_
      refine lv_iadd hx hb dX4_freezes_89 ?_
      refine lv_bipush (v := 50) hx hb dX4_freezes_90 (by decide) ?_
      refine lv_iadd hx hb dX4_freezes_92 ?_
      refine lv_idiv hx hb dX4_freezes_93 (fz_den eS3 eS4 (by rw [ex1]; exact hden)) ?_
      refine lv_istore_n (lv' := [(3, .int ((400 * (S4.1 1 0)) / ((((S4.1 7 up.toNatClampNeg) + (S4.1 8 up.toNatClampNeg)) + (4 * (S4.1 10 up.toNatClampNeg))) + 50))), (2, .int x1), (0, .ref (ad 0)), (1, .int up)]) hx hb dX4_freezes_94 rfl hl (by decide) rfl (fun ls hl => ?_)
      refine lv_iload_n hx hb dX4_freezes_95 rfl (lv_at hl 0 rfl) ?_
      refine lv_aload_n hx hb dX4_freezes_96 rfl (lv_at hl 2 rfl) ?_
      refine gM_13 hx hb hts hown hK hI dX4_freezes_97 ?_
      refine lv_iload_n hx hb dX4_freezes_100 rfl (lv_at hl 3 rfl) ?_
      refine lM_4 hx hb hK hI hp dX4_freezes_101 ?_
      refine lv_iconst (v := 1) hx hb dX4_freezes_102 (by decide) ?_
      have hJ22 : ∀ (x21 : Int32), (x21 = if (S4.1 4 up.toNatClampNeg) = 1 then 2 else 0) → W p G.1 e ({ frames := 0, cells := 0, slots := 0, locals := 0 }) s m args below meth c H locs 0 0 Q (F0 m 111 ls [.int x21, .int ((400 * (S4.1 1 0)) / ((((S4.1 7 up.toNatClampNeg) + (S4.1 8 up.toNatClampNeg)) + (4 * (S4.1 10 up.toNatClampNeg))) + 50))]) := by
        intro x21 ex21
        refine lv_isub hx hb dX4_freezes_111 ?_
        refine lv_istore_n (lv' := [(3, .int (((400 * (S4.1 1 0)) / ((((S4.1 7 up.toNatClampNeg) + (S4.1 8 up.toNatClampNeg)) + (4 * (S4.1 10 up.toNatClampNeg))) + 50)) - x21)), (2, .int x1), (0, .ref (ad 0)), (1, .int up)]) hx hb dX4_freezes_112 rfl hl (by decide) rfl (fun ls hl => ?_)
        refine lv_aload_n hx hb dX4_freezes_113 rfl (lv_at hl 2 rfl) ?_
        refine gM_23 hx hb hts hown hK hI dX4_freezes_114 ?_
        refine lv_iload_n hx hb dX4_freezes_117 rfl (lv_at hl 3 rfl) ?_
        refine lv_dup2_11 hx hb dX4_freezes_118 rfl rfl ?_
        refine lM_7 hx hb hK hI hp dX4_freezes_119 ?_
        refine lv_iload_n hx hb dX4_freezes_120 rfl (lv_at hl 0 rfl) ?_
        have hJ24 : ∀ (x23 : Int32), (x23 = if 0 ≤ (((400 * (S4.1 1 0)) / ((((S4.1 7 up.toNatClampNeg) + (S4.1 8 up.toNatClampNeg)) + (4 * (S4.1 10 up.toNatClampNeg))) + 50)) - x21) then (((400 * (S4.1 1 0)) / ((((S4.1 7 up.toNatClampNeg) + (S4.1 8 up.toNatClampNeg)) + (4 * (S4.1 10 up.toNatClampNeg))) + 50)) - x21) else 0) → W p G.1 e ({ frames := 0, cells := 0, slots := 0, locals := 0 }) s m args below meth c H locs 0 0 Q (F0 m 129 ls [.int x23, .int (S4.1 7 up.toNatClampNeg), .int up, .ref (ad 7)]) := by
          intro x23 ex23
          refine lv_iadd hx hb dX4_freezes_129 ?_
          obtain ⟨S25, eS25⟩ : ∃ z : MS, z = mset S4 7 up.toNatClampNeg ((S4.1 7 up.toNatClampNeg) + x23) := ⟨_, rfl⟩
          refine sM_7 hx hb hK hI hp eS25 dX4_freezes_130 (fun H locs hI => ?_)
          exact hJ6 S25 _ _ _ (by subst eS25 ex23 ex21; exact (if_pos c20).symm) hI (lv_sub hl [1, 2, 3] rfl)
        refine lv_if_ge (tgt := 128) hx hb dX4_freezes_121 (by decide) (fun c26 => ?_) (fun c26 => ?_)
        · refine lv_iload_n hx hb dX4_freezes_128 rfl (lv_at hl 0 rfl) ?_
          exact hJ24 (((400 * (S4.1 1 0)) / ((((S4.1 7 up.toNatClampNeg) + (S4.1 8 up.toNatClampNeg)) + (4 * (S4.1 10 up.toNatClampNeg))) + 50)) - x21) (by exact (if_pos c26).symm)
        · refine lv_iconst (v := 0) hx hb dX4_freezes_124 (by decide) ?_
          refine lv_goto (tgt := 129) hx hb dX4_freezes_125 (by decide) ?_
          exact hJ24 0 (by exact (if_neg c26).symm)
      refine lv_icmp_ne (tgt := 110) hx hb dX4_freezes_103 (by decide) (fun c27 => ?_) (fun c27 => ?_)
      · refine lv_iconst (v := 0) hx hb dX4_freezes_110 (by decide) ?_
        exact hJ22 0 (by exact (if_neg c27).symm)
      · refine lv_iconst (v := 2) hx hb dX4_freezes_106 (by decide) ?_
        refine lv_goto (tgt := 111) hx hb dX4_freezes_107 (by decide) ?_
        exact hJ22 2 (by exact (if_pos c27).symm)
  refine lv_icmp_ge (tgt := 24) hx hb dX4_freezes_12 (by decide) (fun c28 => ?_) (fun c28 => ?_)
  · refine lv_aload_n hx hb dX4_freezes_24 rfl (lv_at hl 0 rfl) ?_
    refine gM_29 hx hb hts hown hK hI dX4_freezes_25 ?_
    refine lv_iload_n hx hb dX4_freezes_28 rfl (lv_at hl 1 rfl) ?_
    refine lM_9 hx hb hK hI hp dX4_freezes_29 ?_
    exact hJ2 (S.1 9 up.toNatClampNeg) (by exact (if_pos c28).symm)
  · refine lv_iconst (v := 2) hx hb dX4_freezes_15 (by decide) ?_
    refine lv_aload_n hx hb dX4_freezes_16 rfl (lv_at hl 0 rfl) ?_
    refine gM_106 hx hb hts hown hK hI dX4_freezes_17 ?_
    refine lv_imul hx hb dX4_freezes_20 ?_
    refine lv_goto (tgt := 30) hx hb dX4_freezes_21 (by decide) ?_
    exact hJ2 (2 * (S.1 1 0)) (by exact (if_neg c28).symm)

def M_thaws (S : MS) (up : Int32) : MS :=
  let x1 := if (S.1 10 up.toNatClampNeg) ≤ ((-6) * (S.1 1 0)) then (S.1 10 up.toNatClampNeg) else ((-6) * (S.1 1 0))
  let S3 := mset S 10 up.toNatClampNeg ((S.1 10 up.toNatClampNeg) - x1)
  let x4 := if (S3.1 8 up.toNatClampNeg) ≤ (((-6) * (S.1 1 0)) - x1) then (S3.1 8 up.toNatClampNeg) else (((-6) * (S.1 1 0)) - x1)
  let S6 := mset S3 8 up.toNatClampNeg ((S3.1 8 up.toNatClampNeg) - x4)
  let x7 := if (S6.1 7 up.toNatClampNeg) ≤ ((((-6) * (S.1 1 0)) - x1) - x4) then (S6.1 7 up.toNatClampNeg) else ((((-6) * (S.1 1 0)) - x1) - x4)
  let S9 := mset S6 7 up.toNatClampNeg ((S6.1 7 up.toNatClampNeg) - x7)
  if 0 ≤ (Op.cmpValue (FP.dcmp (FP.dsub ((S9.2 up.toNatClampNeg).1) (FP.dadd (FP.i2d x7) (FP.dmul (4602678819172646912 : UInt64) (FP.i2d x4)))) FP.dconst0) CmpOp.g) then
    let S11 := mkset S9 up.toNatClampNeg ⟨FP.dsub ((S9.2 up.toNatClampNeg).1) (FP.dadd (FP.i2d x7) (FP.dmul (4602678819172646912 : UInt64) (FP.i2d x4))), nn_less (S9.2 up.toNatClampNeg).2 _ _⟩
    let x12 := if (S11.1 11 up.toNatClampNeg) = 1 then 2 else (S11.1 11 up.toNatClampNeg)
    let S14 := mset S11 11 up.toNatClampNeg x12
    S14
  else
    let S16 := mkset S9 up.toNatClampNeg ⟨FP.dconst0, nn_0⟩
    let x17 := if (S16.1 11 up.toNatClampNeg) = 1 then 2 else (S16.1 11 up.toNatClampNeg)
    let S19 := mset S16 11 up.toNatClampNeg x17
    S19
set_option maxHeartbeats 4000000 in
set_option maxRecDepth 100000 in
theorem cM_thaws (G : GX) (ad : Nat → Nat) (S : MS) (up : Int32) (hp : vp_in up 10) : FC G yX4_thaws cX4_thaws 8 none ({ frames := 0, cells := 0, slots := 0, locals := 0 }) [.ref (ad 0), .int up] (mW G.2.2.2 ad S) (p0 (mW G.2.2.2 ad (M_thaws S up))) := by
  refine FC.go (lv := [(0, .ref (ad 0)), (1, .int up)]) (by decide) (Nat.le_of_ble_eq_true rfl) rfl (fun p e s m args below meth c A H locs ls Q hx hb hr hts hown hml hlocks hnm hK hE hI hA hl hQ => ?_)
  have hown : s.vm.findClass RX4 = some m.cls := hown
  refine lv_bipush (v := -6) hx hb dX4_thaws_0 (by decide) ?_
  refine lv_aload_n hx hb dX4_thaws_2 rfl (lv_at hl 0 rfl) ?_
  refine gM_106 hx hb hts hown hK hI dX4_thaws_3 ?_
  refine lv_imul hx hb dX4_thaws_6 ?_
  refine lv_istore_n (lv' := [(2, .int ((-6) * (S.1 1 0))), (0, .ref (ad 0)), (1, .int up)]) hx hb dX4_thaws_7 rfl hl (by decide) rfl (fun ls hl => ?_)
  refine lv_iload_n hx hb dX4_thaws_8 rfl (lv_at hl 0 rfl) ?_
  refine lv_aload_n hx hb dX4_thaws_9 rfl (lv_at hl 1 rfl) ?_
  refine gM_32 hx hb hts hown hK hI dX4_thaws_10 ?_
  refine lv_iload_n hx hb dX4_thaws_13 rfl (lv_at hl 2 rfl) ?_
  refine lM_10 hx hb hK hI hp dX4_thaws_14 ?_
  have hJ2 : ∀ (x1 : Int32), (x1 = if (S.1 10 up.toNatClampNeg) ≤ ((-6) * (S.1 1 0)) then (S.1 10 up.toNatClampNeg) else ((-6) * (S.1 1 0))) → W p G.1 e ({ frames := 0, cells := 0, slots := 0, locals := 0 }) s m args below meth c H locs 0 0 Q (F0 m 28 ls [.int x1]) := by
    intro x1 ex1
    refine lv_istore_n (lv' := [(3, .int x1), (2, .int ((-6) * (S.1 1 0))), (0, .ref (ad 0)), (1, .int up)]) hx hb dX4_thaws_28 rfl hl (by decide) rfl (fun ls hl => ?_)
    refine lv_aload_n hx hb dX4_thaws_29 rfl (lv_at hl 2 rfl) ?_
    refine gM_32 hx hb hts hown hK hI dX4_thaws_30 ?_
    refine lv_iload_n hx hb dX4_thaws_33 rfl (lv_at hl 3 rfl) ?_
    refine lv_dup2_11 hx hb dX4_thaws_34 rfl rfl ?_
    refine lM_10 hx hb hK hI hp dX4_thaws_35 ?_
    refine lv_iload_n hx hb dX4_thaws_36 rfl (lv_at hl 0 rfl) ?_
    refine lv_isub hx hb dX4_thaws_37 ?_
    obtain ⟨S3, eS3⟩ : ∃ z : MS, z = mset S 10 up.toNatClampNeg ((S.1 10 up.toNatClampNeg) - x1) := ⟨_, rfl⟩
    refine sM_10 hx hb hK hI hp eS3 dX4_thaws_38 (fun H locs hI => ?_)
    refine lv_iload_n hx hb dX4_thaws_39 rfl (lv_at hl 1 rfl) ?_
    refine lv_iload_n hx hb dX4_thaws_40 rfl (lv_at hl 0 rfl) ?_
    refine lv_isub hx hb dX4_thaws_41 ?_
    refine lv_istore_n (lv' := [(2, .int (((-6) * (S.1 1 0)) - x1)), (3, .int x1), (0, .ref (ad 0)), (1, .int up)]) hx hb dX4_thaws_42 rfl hl (by decide) rfl (fun ls hl => ?_)
    refine lv_iload_n hx hb dX4_thaws_43 rfl (lv_at hl 0 rfl) ?_
    refine lv_aload_n hx hb dX4_thaws_44 rfl (lv_at hl 2 rfl) ?_
    refine gM_26 hx hb hts hown hK hI dX4_thaws_45 ?_
    refine lv_iload_n hx hb dX4_thaws_48 rfl (lv_at hl 3 rfl) ?_
    refine lM_8 hx hb hK hI hp dX4_thaws_49 ?_
    have hJ5 : ∀ (x4 : Int32), (x4 = if (S3.1 8 up.toNatClampNeg) ≤ (((-6) * (S.1 1 0)) - x1) then (S3.1 8 up.toNatClampNeg) else (((-6) * (S.1 1 0)) - x1)) → W p G.1 e ({ frames := 0, cells := 0, slots := 0, locals := 0 }) s m args below meth c H locs 0 0 Q (F0 m 63 ls [.int x4]) := by
      intro x4 ex4
      refine lv_istore (lv' := [(4, .int x4), (2, .int (((-6) * (S.1 1 0)) - x1)), (3, .int x1), (0, .ref (ad 0)), (1, .int up)]) hx hb dX4_thaws_63 hl (by decide) rfl (fun ls hl => ?_)
      refine lv_aload_n hx hb dX4_thaws_65 rfl (lv_at hl 3 rfl) ?_
      refine gM_26 hx hb hts hown hK hI dX4_thaws_66 ?_
      refine lv_iload_n hx hb dX4_thaws_69 rfl (lv_at hl 4 rfl) ?_
      refine lv_dup2_11 hx hb dX4_thaws_70 rfl rfl ?_
      refine lM_8 hx hb hK hI hp dX4_thaws_71 ?_
      refine lv_iload hx hb dX4_thaws_72 (lv_at hl 0 rfl) ?_
      refine lv_isub hx hb dX4_thaws_74 ?_
      obtain ⟨S6, eS6⟩ : ∃ z : MS, z = mset S3 8 up.toNatClampNeg ((S3.1 8 up.toNatClampNeg) - x4) := ⟨_, rfl⟩
      refine sM_8 hx hb hK hI hp eS6 dX4_thaws_75 (fun H locs hI => ?_)
      refine lv_iload_n hx hb dX4_thaws_76 rfl (lv_at hl 1 rfl) ?_
      refine lv_iload hx hb dX4_thaws_77 (lv_at hl 0 rfl) ?_
      refine lv_isub hx hb dX4_thaws_79 ?_
      refine lv_istore_n (lv' := [(2, .int ((((-6) * (S.1 1 0)) - x1) - x4)), (4, .int x4), (3, .int x1), (0, .ref (ad 0)), (1, .int up)]) hx hb dX4_thaws_80 rfl hl (by decide) rfl (fun ls hl => ?_)
      refine lv_iload_n hx hb dX4_thaws_81 rfl (lv_at hl 0 rfl) ?_
      refine lv_aload_n hx hb dX4_thaws_82 rfl (lv_at hl 3 rfl) ?_
      refine gM_23 hx hb hts hown hK hI dX4_thaws_83 ?_
      refine lv_iload_n hx hb dX4_thaws_86 rfl (lv_at hl 4 rfl) ?_
      refine lM_7 hx hb hK hI hp dX4_thaws_87 ?_
      have hJ8 : ∀ (x7 : Int32), (x7 = if (S6.1 7 up.toNatClampNeg) ≤ ((((-6) * (S.1 1 0)) - x1) - x4) then (S6.1 7 up.toNatClampNeg) else ((((-6) * (S.1 1 0)) - x1) - x4)) → W p G.1 e ({ frames := 0, cells := 0, slots := 0, locals := 0 }) s m args below meth c H locs 0 0 Q (F0 m 101 ls [.int x7]) := by
        intro x7 ex7
        refine lv_istore (lv' := [(5, .int x7), (2, .int ((((-6) * (S.1 1 0)) - x1) - x4)), (4, .int x4), (3, .int x1), (0, .ref (ad 0)), (1, .int up)]) hx hb dX4_thaws_101 hl (by decide) rfl (fun ls hl => ?_)
        refine lv_aload_n hx hb dX4_thaws_103 rfl (lv_at hl 4 rfl) ?_
        refine gM_23 hx hb hts hown hK hI dX4_thaws_104 ?_
        refine lv_iload_n hx hb dX4_thaws_107 rfl (lv_at hl 5 rfl) ?_
        refine lv_dup2_11 hx hb dX4_thaws_108 rfl rfl ?_
        refine lM_7 hx hb hK hI hp dX4_thaws_109 ?_
        refine lv_iload hx hb dX4_thaws_110 (lv_at hl 0 rfl) ?_
        refine lv_isub hx hb dX4_thaws_112 ?_
        obtain ⟨S9, eS9⟩ : ∃ z : MS, z = mset S6 7 up.toNatClampNeg ((S6.1 7 up.toNatClampNeg) - x7) := ⟨_, rfl⟩
        refine sM_7 hx hb hK hI hp eS9 dX4_thaws_113 (fun H locs hI => ?_)
        refine lv_aload_n hx hb dX4_thaws_114 rfl (lv_at hl 4 rfl) ?_
        refine gM_44 hx hb hts hown hK hI dX4_thaws_115 ?_
        refine lv_iload_n hx hb dX4_thaws_118 rfl (lv_at hl 5 rfl) ?_
        refine lM_14 hx hb hK hI hp dX4_thaws_119 ?_
        refine lv_iload hx hb dX4_thaws_120 (lv_at hl 0 rfl) ?_
        refine lv_i2d hx hb dX4_thaws_122 ?_
        refine lv_ldc2d (v := 4602678819172646912) hx hb hown (hts _ q898) dX4_thaws_123 ?_
        refine lv_iload hx hb dX4_thaws_126 (lv_at hl 2 rfl) ?_
        refine lv_i2d hx hb dX4_thaws_128 ?_
        refine lv_dmul hx hb dX4_thaws_129 (nn_half _) ?_
        refine lv_dadd hx hb dX4_thaws_130 (nn_thick _ _) ?_
        refine lv_dsub hx hb dX4_thaws_131 (nn_less (S9.2 up.toNatClampNeg).2 _ _) ?_
        refine lv_dstore (lv' := [(6, .double (FP.dsub ((S9.2 up.toNatClampNeg).1) (FP.dadd (FP.i2d x7) (FP.dmul (4602678819172646912 : UInt64) (FP.i2d x4))))), (5, .int x7), (2, .int ((((-6) * (S.1 1 0)) - x1) - x4)), (4, .int x4), (3, .int x1), (0, .ref (ad 0)), (1, .int up)]) hx hb dX4_thaws_132 hl (by decide) rfl (fun ls hl => ?_)
        refine lv_aload_n hx hb dX4_thaws_134 rfl (lv_at hl 5 rfl) ?_
        refine gM_44 hx hb hts hown hK hI dX4_thaws_135 ?_
        refine lv_iload_n hx hb dX4_thaws_138 rfl (lv_at hl 6 rfl) ?_
        refine lv_dload hx hb dX4_thaws_139 (lv_at hl 0 rfl) ?_
        refine lv_dconst0 hx hb dX4_thaws_141 ?_
        refine lv_dcmp hx hb dX4_thaws_142 ?_
        refine lv_if_ge (tgt := 150) hx hb dX4_thaws_143 (by decide) (fun c10 => ?_) (fun c10 => ?_)
        · refine lv_dload hx hb dX4_thaws_150 (lv_at hl 0 rfl) ?_
          obtain ⟨S11, eS11⟩ : ∃ z : MS, z = mkset S9 up.toNatClampNeg ⟨FP.dsub ((S9.2 up.toNatClampNeg).1) (FP.dadd (FP.i2d x7) (FP.dmul (4602678819172646912 : UInt64) (FP.i2d x4))), nn_less (S9.2 up.toNatClampNeg).2 _ _⟩ := ⟨_, rfl⟩
          refine sM_14 (x := ⟨FP.dsub ((S9.2 up.toNatClampNeg).1) (FP.dadd (FP.i2d x7) (FP.dmul (4602678819172646912 : UInt64) (FP.i2d x4))), nn_less (S9.2 up.toNatClampNeg).2 _ _⟩) hx hb hK hI hp eS11 dX4_thaws_152 (fun H locs hI => ?_)
          refine lv_aload_n hx hb dX4_thaws_153 rfl (lv_at hl 5 rfl) ?_
          refine gM_35 hx hb hts hown hK hI dX4_thaws_154 ?_
          refine lv_iload_n hx hb dX4_thaws_157 rfl (lv_at hl 6 rfl) ?_
          refine lv_aload_n hx hb dX4_thaws_158 rfl (lv_at hl 5 rfl) ?_
          refine gM_35 hx hb hts hown hK hI dX4_thaws_159 ?_
          refine lv_iload_n hx hb dX4_thaws_162 rfl (lv_at hl 6 rfl) ?_
          refine lM_11 hx hb hK hI hp dX4_thaws_163 ?_
          refine lv_iconst (v := 1) hx hb dX4_thaws_164 (by decide) ?_
          have hJ13 : ∀ (x12 : Int32), (x12 = if (S11.1 11 up.toNatClampNeg) = 1 then 2 else (S11.1 11 up.toNatClampNeg)) → W p G.1 e ({ frames := 0, cells := 0, slots := 0, locals := 0 }) s m args below meth c H locs 0 0 Q (F0 m 178 ls [.int x12, .int up, .ref (ad 11)]) := by
            intro x12 ex12
            obtain ⟨S14, eS14⟩ : ∃ z : MS, z = mset S11 11 up.toNatClampNeg x12 := ⟨_, rfl⟩
            refine sM_11 hx hb hK hI hp eS14 dX4_thaws_178 (fun H locs hI => ?_)
            have HE : M_thaws S up = S14 := by subst eS14 ex12 eS11 eS9 ex7 eS6 ex4 eS3 ex1; exact (if_pos c10)
            exact rt_v hx hb hr hlocks hI hA hQ ⟨rfl, by rw [HE]⟩ (Nat.zero_le _) (Nat.zero_le _) dX4_thaws_179
          refine lv_icmp_ne (tgt := 172) hx hb dX4_thaws_165 (by decide) (fun c15 => ?_) (fun c15 => ?_)
          · refine lv_aload_n hx hb dX4_thaws_172 rfl (lv_at hl 5 rfl) ?_
            refine gM_35 hx hb hts hown hK hI dX4_thaws_173 ?_
            refine lv_iload_n hx hb dX4_thaws_176 rfl (lv_at hl 6 rfl) ?_
            refine lM_11 hx hb hK hI hp dX4_thaws_177 ?_
            exact hJ13 (S11.1 11 up.toNatClampNeg) (by exact (if_neg c15).symm)
          · refine lv_iconst (v := 2) hx hb dX4_thaws_168 (by decide) ?_
            refine lv_goto (tgt := 178) hx hb dX4_thaws_169 (by decide) ?_
            exact hJ13 2 (by exact (if_pos c15).symm)
        · refine lv_dconst0 hx hb dX4_thaws_146 ?_
          refine lv_goto (tgt := 152) hx hb dX4_thaws_147 (by decide) ?_
          obtain ⟨S16, eS16⟩ : ∃ z : MS, z = mkset S9 up.toNatClampNeg ⟨FP.dconst0, nn_0⟩ := ⟨_, rfl⟩
          refine sM_14 (x := ⟨FP.dconst0, nn_0⟩) hx hb hK hI hp eS16 dX4_thaws_152 (fun H locs hI => ?_)
          refine lv_aload_n hx hb dX4_thaws_153 rfl (lv_at hl 5 rfl) ?_
          refine gM_35 hx hb hts hown hK hI dX4_thaws_154 ?_
          refine lv_iload_n hx hb dX4_thaws_157 rfl (lv_at hl 6 rfl) ?_
          refine lv_aload_n hx hb dX4_thaws_158 rfl (lv_at hl 5 rfl) ?_
          refine gM_35 hx hb hts hown hK hI dX4_thaws_159 ?_
          refine lv_iload_n hx hb dX4_thaws_162 rfl (lv_at hl 6 rfl) ?_
          refine lM_11 hx hb hK hI hp dX4_thaws_163 ?_
          refine lv_iconst (v := 1) hx hb dX4_thaws_164 (by decide) ?_
          have hJ18 : ∀ (x17 : Int32), (x17 = if (S16.1 11 up.toNatClampNeg) = 1 then 2 else (S16.1 11 up.toNatClampNeg)) → W p G.1 e ({ frames := 0, cells := 0, slots := 0, locals := 0 }) s m args below meth c H locs 0 0 Q (F0 m 178 ls [.int x17, .int up, .ref (ad 11)]) := by
            intro x17 ex17
            obtain ⟨S19, eS19⟩ : ∃ z : MS, z = mset S16 11 up.toNatClampNeg x17 := ⟨_, rfl⟩
            refine sM_11 hx hb hK hI hp eS19 dX4_thaws_178 (fun H locs hI => ?_)
            have HE : M_thaws S up = S19 := by subst eS19 ex17 eS16 eS9 ex7 eS6 ex4 eS3 ex1; exact (if_neg c10)
            exact rt_v hx hb hr hlocks hI hA hQ ⟨rfl, by rw [HE]⟩ (Nat.zero_le _) (Nat.zero_le _) dX4_thaws_179
          refine lv_icmp_ne (tgt := 172) hx hb dX4_thaws_165 (by decide) (fun c20 => ?_) (fun c20 => ?_)
          · refine lv_aload_n hx hb dX4_thaws_172 rfl (lv_at hl 5 rfl) ?_
            refine gM_35 hx hb hts hown hK hI dX4_thaws_173 ?_
            refine lv_iload_n hx hb dX4_thaws_176 rfl (lv_at hl 6 rfl) ?_
            refine lM_11 hx hb hK hI hp dX4_thaws_177 ?_
            exact hJ18 (S16.1 11 up.toNatClampNeg) (by exact (if_neg c20).symm)
          · refine lv_iconst (v := 2) hx hb dX4_thaws_168 (by decide) ?_
            refine lv_goto (tgt := 178) hx hb dX4_thaws_169 (by decide) ?_
            exact hJ18 2 (by exact (if_pos c20).symm)
      refine lv_icmp_ge (tgt := 95) hx hb dX4_thaws_88 (by decide) (fun c21 => ?_) (fun c21 => ?_)
      · refine lv_aload_n hx hb dX4_thaws_95 rfl (lv_at hl 3 rfl) ?_
        refine gM_23 hx hb hts hown hK hI dX4_thaws_96 ?_
        refine lv_iload_n hx hb dX4_thaws_99 rfl (lv_at hl 4 rfl) ?_
        refine lM_7 hx hb hK hI hp dX4_thaws_100 ?_
        exact hJ8 (S6.1 7 up.toNatClampNeg) (by exact (if_pos c21).symm)
      · refine lv_iload_n hx hb dX4_thaws_91 rfl (lv_at hl 0 rfl) ?_
        refine lv_goto (tgt := 101) hx hb dX4_thaws_92 (by decide) ?_
        exact hJ8 ((((-6) * (S.1 1 0)) - x1) - x4) (by exact (if_neg c21).symm)
    refine lv_icmp_ge (tgt := 57) hx hb dX4_thaws_50 (by decide) (fun c22 => ?_) (fun c22 => ?_)
    · refine lv_aload_n hx hb dX4_thaws_57 rfl (lv_at hl 2 rfl) ?_
      refine gM_26 hx hb hts hown hK hI dX4_thaws_58 ?_
      refine lv_iload_n hx hb dX4_thaws_61 rfl (lv_at hl 3 rfl) ?_
      refine lM_8 hx hb hK hI hp dX4_thaws_62 ?_
      exact hJ5 (S3.1 8 up.toNatClampNeg) (by exact (if_pos c22).symm)
    · refine lv_iload_n hx hb dX4_thaws_53 rfl (lv_at hl 0 rfl) ?_
      refine lv_goto (tgt := 63) hx hb dX4_thaws_54 (by decide) ?_
      exact hJ5 (((-6) * (S.1 1 0)) - x1) (by exact (if_neg c22).symm)
  refine lv_icmp_ge (tgt := 22) hx hb dX4_thaws_15 (by decide) (fun c23 => ?_) (fun c23 => ?_)
  · refine lv_aload_n hx hb dX4_thaws_22 rfl (lv_at hl 1 rfl) ?_
    refine gM_32 hx hb hts hown hK hI dX4_thaws_23 ?_
    refine lv_iload_n hx hb dX4_thaws_26 rfl (lv_at hl 2 rfl) ?_
    refine lM_10 hx hb hK hI hp dX4_thaws_27 ?_
    exact hJ2 (S.1 10 up.toNatClampNeg) (by exact (if_pos c23).symm)
  · refine lv_iload_n hx hb dX4_thaws_18 rfl (lv_at hl 0 rfl) ?_
    refine lv_goto (tgt := 28) hx hb dX4_thaws_19 (by decide) ?_
    exact hJ2 ((-6) * (S.1 1 0)) (by exact (if_neg c23).symm)

def M_thickness (S : MS) (up : Int32) (ub : Int32) : UInt64 × MS :=
  if M_isPiece S up then
    let S3 := mset S 29 0 0
    let x4 := if ub = 0 then (M_thick S3 up) else ((S3.2 up.toNatClampNeg).1)
    (x4, S3)
  else
    let S2 := mset S 29 0 1
    (FP.dconst0, S2)
set_option maxHeartbeats 4000000 in
set_option maxRecDepth 100000 in
theorem cM_thickness (G : GX) (ad : Nat → Nat) (S : MS) (up : Int32) (ub : Int32) {np nv : Nat} (hN : MNn S np nv) : FC G yX4_thickness cX4_thickness 3 (some .double) ({ frames := 2, cells := 0, slots := 0, locals := 43 }) [.ref (ad 0), .int up, .int ub] (mW G.2.2.2 ad S) (pv (.double (M_thickness S up ub).1) (mW G.2.2.2 ad (M_thickness S up ub).2)) := by
  refine FC.go (lv := [(0, .ref (ad 0)), (1, .int up), (2, .int ub)]) (by decide) (Nat.le_of_ble_eq_true rfl) rfl (fun p e s m args below meth c A H locs ls Q hx hb hr hts hown hml hlocks hnm hK hE hI hA hl hQ => ?_)
  have hown : s.vm.findClass RX4 = some m.cls := hown
  refine lv_aload_n hx hb dX4_thickness_0 rfl (lv_at hl 0 rfl) ?_
  refine lv_aload_n hx hb dX4_thickness_1 rfl (lv_at hl 0 rfl) ?_
  refine lv_iload_n hx hb dX4_thickness_2 rfl (lv_at hl 1 rfl) ?_
  refine cVv (rest := [.ref (ad 0)]) hx hb hml hts hown hK hE hI (cM_isPiece G ad S up) kM_109 ⟨Nat.le_of_ble_eq_true rfl, Nat.le_of_ble_eq_true rfl⟩ rfl rfl (kk := 4) (ii := 0) rfl rfl rfl hl.1 rfl (Nat.le_of_ble_eq_true rfl) dX4_thickness_3 ⟨Nat.zero_le _, Nat.zero_le _⟩ (fun H locs hI => ?_)
  refine xb_eq (tgt := 13) hx hb dX4_thickness_6 (by decide) (fun c1 => ?_) (fun c1 => ?_)
  · refine lv_iconst (v := 1) hx hb dX4_thickness_13 (by decide) ?_
    obtain ⟨S2, eS2⟩ : ∃ z : MS, z = mset S 29 0 1 := ⟨_, rfl⟩
    refine cVv (rest := []) hx hb hml hts hown hK hE hI (cM_fails1 G ad S) kM_101 ⟨Nat.le_of_ble_eq_true rfl, Nat.le_of_ble_eq_true rfl⟩ rfl rfl (kk := 4) (ii := 0) rfl rfl rfl hl.1 rfl (Nat.le_of_ble_eq_true rfl) dX4_thickness_14 ⟨Nat.zero_le _, Nat.zero_le _⟩ (fun H locs hI => ?_)
    rw [← eS2] at hI
    refine lv_if_eq (tgt := 24) hx hb dX4_thickness_17 (by decide) (fun h => absurd h (by decide)) (fun _ => ?_)
    refine lv_dconst0 hx hb dX4_thickness_20 ?_
    refine lv_goto (tgt := 42) hx hb dX4_thickness_21 (by decide) ?_
    have HE : M_thickness S up ub = (FP.dconst0, S2) := by subst eS2; exact (if_neg c1)
    exact rt_d hx hb hr hlocks hI hA hQ ⟨by rw [HE], by rw [HE]⟩ (Nat.zero_le _) (Nat.zero_le _) dX4_thickness_42
  · refine lv_iconst (v := 0) hx hb dX4_thickness_9 (by decide) ?_
    refine lv_goto (tgt := 14) hx hb dX4_thickness_10 (by decide) ?_
    obtain ⟨S3, eS3⟩ : ∃ z : MS, z = mset S 29 0 0 := ⟨_, rfl⟩
    refine cVv (rest := []) hx hb hml hts hown hK hE hI (cM_fails0 G ad S) kM_101 ⟨Nat.le_of_ble_eq_true rfl, Nat.le_of_ble_eq_true rfl⟩ rfl rfl (kk := 4) (ii := 0) rfl rfl rfl hl.1 rfl (Nat.le_of_ble_eq_true rfl) dX4_thickness_14 ⟨Nat.zero_le _, Nat.zero_le _⟩ (fun H locs hI => ?_)
    rw [← eS3] at hI
    refine lv_if_eq (tgt := 24) hx hb dX4_thickness_17 (by decide) (fun _ => ?_) (fun h => absurd h (by decide))
    refine lv_iload_n hx hb dX4_thickness_24 rfl (lv_at hl 2 rfl) ?_
    have hJ5 : ∀ (x4 : UInt64) (H : Heap) (locs : List Loc), (x4 = if ub = 0 then (M_thick S3 up) else ((S3.2 up.toNatClampNeg).1)) → (fI G.2.2.1 A s.heap (mW G.2.2.2 ad S3) H locs) → W p G.1 e ({ frames := 2, cells := 0, slots := 0, locals := 43 }) s m args below meth c H locs 0 0 Q (F0 m 42 ls [.double x4]) := by
      intro x4 H locs ex4 hI
      have HE : M_thickness S up ub = (x4, S3) := by subst ex4 eS3; exact (if_pos c1)
      exact rt_d hx hb hr hlocks hI hA hQ ⟨by rw [HE], by rw [HE]⟩ (Nat.zero_le _) (Nat.zero_le _) dX4_thickness_42
    refine lv_if_eq (tgt := 37) hx hb dX4_thickness_25 (by decide) (fun c6 => ?_) (fun c6 => ?_)
    · refine lv_aload_n hx hb dX4_thickness_37 rfl (lv_at hl 0 rfl) ?_
      refine lv_iload_n hx hb dX4_thickness_38 rfl (lv_at hl 1 rfl) ?_
      refine cVv (rest := []) hx hb hml hts hown hK hE hI (cM_thick G ad S3 up (isPiece_in hN c1)) kM_117 ⟨Nat.le_of_ble_eq_true rfl, Nat.le_of_ble_eq_true rfl⟩ rfl rfl (kk := 4) (ii := 0) rfl rfl rfl hl.1 rfl (Nat.le_of_ble_eq_true rfl) dX4_thickness_39 ⟨Nat.zero_le _, Nat.zero_le _⟩ (fun H locs hI => ?_)
      exact hJ5 (M_thick S3 up) _ _ (by exact (if_pos c6).symm) hI
    · refine lv_aload_n hx hb dX4_thickness_28 rfl (lv_at hl 0 rfl) ?_
      refine gM_44 hx hb hts hown hK hI dX4_thickness_29 ?_
      refine lv_iload_n hx hb dX4_thickness_32 rfl (lv_at hl 1 rfl) ?_
      refine lM_14 hx hb hK hI (isPiece_in hN c1) dX4_thickness_33 ?_
      refine lv_goto (tgt := 42) hx hb dX4_thickness_34 (by decide) ?_
      exact hJ5 ((S3.2 up.toNatClampNeg).1) _ _ (by exact (if_neg c6).symm) hI

def M_told (S : MS) (up : Int32) (uk : Int32) : Int32 × MS :=
  if M_isPiece S up then
    if M_isIn S uk 0 7 then
      let S4 := mset S 29 0 0
      if uk = 0 then
        (S4.1 7 up.toNatClampNeg, S4)
      else
        if uk = 1 then
          (S4.1 8 up.toNatClampNeg, S4)
        else
          if uk = 2 then
            (S4.1 9 up.toNatClampNeg, S4)
          else
            if uk = 3 then
              (S4.1 10 up.toNatClampNeg, S4)
            else
              if uk = 4 then
                (S4.1 11 up.toNatClampNeg, S4)
              else
                if uk = 5 then
                  (S4.1 12 up.toNatClampNeg, S4)
                else
                  if uk = 6 then
                    (S4.1 13 up.toNatClampNeg, S4)
                  else
                    (M_many S4 up, S4)
    else
      let S3 := mset S 29 0 2
      (0, S3)
  else
    let S12 := mset S 29 0 1
    (0, S12)
set_option maxHeartbeats 4000000 in
set_option maxRecDepth 100000 in
theorem cM_told (G : GX) (ad : Nat → Nat) (S : MS) (up : Int32) (uk : Int32) {np nv : Nat} (hN : MNn S np nv) : FC G yX4_told cX4_told 3 (some .int) ({ frames := 2, cells := 0, slots := 0, locals := 43 }) [.ref (ad 0), .int up, .int uk] (mW G.2.2.2 ad S) (pv (.int (M_told S up uk).1) (mW G.2.2.2 ad (M_told S up uk).2)) := by
  refine FC.go (lv := [(0, .ref (ad 0)), (1, .int up), (2, .int uk)]) (by decide) (Nat.le_of_ble_eq_true rfl) rfl (fun p e s m args below meth c A H locs ls Q hx hb hr hts hown hml hlocks hnm hK hE hI hA hl hQ => ?_)
  have hown : s.vm.findClass RX4 = some m.cls := hown
  refine lv_aload_n hx hb dX4_told_0 rfl (lv_at hl 0 rfl) ?_
  refine lv_aload_n hx hb dX4_told_1 rfl (lv_at hl 0 rfl) ?_
  refine lv_iload_n hx hb dX4_told_2 rfl (lv_at hl 1 rfl) ?_
  refine cVv (rest := [.ref (ad 0)]) hx hb hml hts hown hK hE hI (cM_isPiece G ad S up) kM_109 ⟨Nat.le_of_ble_eq_true rfl, Nat.le_of_ble_eq_true rfl⟩ rfl rfl (kk := 4) (ii := 0) rfl rfl rfl hl.1 rfl (Nat.le_of_ble_eq_true rfl) dX4_told_3 ⟨Nat.zero_le _, Nat.zero_le _⟩ (fun H locs hI => ?_)
  refine xb_ne (tgt := 13) hx hb dX4_told_6 (by decide) (fun c1 => ?_) (fun c1 => ?_)
  · refine lv_iload_n hx hb dX4_told_13 rfl (lv_at hl 2 rfl) ?_
    refine lv_iconst (v := 0) hx hb dX4_told_14 (by decide) ?_
    refine lv_bipush (v := 7) hx hb dX4_told_15 (by decide) ?_
    refine cSv (rest := [.ref (ad 0)]) hx hb hml hts hown hK hE hI (cM_isIn G ad S uk 0 7) kM_94 ⟨Nat.le_of_ble_eq_true rfl, Nat.le_of_ble_eq_true rfl⟩ rfl rfl hl.1 rfl (Nat.le_of_ble_eq_true rfl) dX4_told_17 ⟨Nat.zero_le _, Nat.zero_le _⟩ (fun H locs hI => ?_)
    refine xb_eq (tgt := 27) hx hb dX4_told_20 (by decide) (fun c2 => ?_) (fun c2 => ?_)
    · refine lv_iconst (v := 2) hx hb dX4_told_27 (by decide) ?_
      obtain ⟨S3, eS3⟩ : ∃ z : MS, z = mset S 29 0 2 := ⟨_, rfl⟩
      refine cVv (rest := []) hx hb hml hts hown hK hE hI (cM_fails2 G ad S) kM_101 ⟨Nat.le_of_ble_eq_true rfl, Nat.le_of_ble_eq_true rfl⟩ rfl rfl (kk := 4) (ii := 0) rfl rfl rfl hl.1 rfl (Nat.le_of_ble_eq_true rfl) dX4_told_28 ⟨Nat.zero_le _, Nat.zero_le _⟩ (fun H locs hI => ?_)
      rw [← eS3] at hI
      refine lv_if_eq (tgt := 36) hx hb dX4_told_31 (by decide) (fun h => absurd h (by decide)) (fun _ => ?_)
      refine lv_iconst (v := 0) hx hb dX4_told_34 (by decide) ?_
      have HE : M_told S up uk = (0, S3) := by subst eS3; exact (if_pos c1).trans ((if_neg c2))
      exact rt_i hx hb hr hlocks hI hA hQ ⟨by rw [HE], by rw [HE]⟩ (Nat.zero_le _) (Nat.zero_le _) dX4_told_35
    · refine lv_iconst (v := 0) hx hb dX4_told_23 (by decide) ?_
      refine lv_goto (tgt := 28) hx hb dX4_told_24 (by decide) ?_
      obtain ⟨S4, eS4⟩ : ∃ z : MS, z = mset S 29 0 0 := ⟨_, rfl⟩
      refine cVv (rest := []) hx hb hml hts hown hK hE hI (cM_fails0 G ad S) kM_101 ⟨Nat.le_of_ble_eq_true rfl, Nat.le_of_ble_eq_true rfl⟩ rfl rfl (kk := 4) (ii := 0) rfl rfl rfl hl.1 rfl (Nat.le_of_ble_eq_true rfl) dX4_told_28 ⟨Nat.zero_le _, Nat.zero_le _⟩ (fun H locs hI => ?_)
      rw [← eS4] at hI
      refine lv_if_eq (tgt := 36) hx hb dX4_told_31 (by decide) (fun _ => ?_) (fun h => absurd h (by decide))
      refine lv_iload_n hx hb dX4_told_36 rfl (lv_at hl 2 rfl) ?_
      by_cases c5 : uk = 0
      · refine lv_tableIn (off := 43) (tgt := 80) hx hb dX4_told_37 (by rw [c5]; decide) (by rw [c5]; decide) (by rw [c5]; rfl) (by decide) ?_
        refine lv_aload_n hx hb dX4_told_80 rfl (lv_at hl 0 rfl) ?_
        refine gM_23 hx hb hts hown hK hI dX4_told_81 ?_
        refine lv_iload_n hx hb dX4_told_84 rfl (lv_at hl 1 rfl) ?_
        refine lM_7 hx hb hK hI (isPiece_in hN c1) dX4_told_85 ?_
        have HE : M_told S up uk = (S4.1 7 up.toNatClampNeg, S4) := by subst eS4; exact (if_pos c1).trans ((if_pos c2).trans ((if_pos c5)))
        exact rt_i hx hb hr hlocks hI hA hQ ⟨by rw [HE], by rw [HE]⟩ (Nat.zero_le _) (Nat.zero_le _) dX4_told_86
      by_cases c6 : uk = 1
      · refine lv_tableIn (off := 50) (tgt := 87) hx hb dX4_told_37 (by rw [c6]; decide) (by rw [c6]; decide) (by rw [c6]; rfl) (by decide) ?_
        refine lv_aload_n hx hb dX4_told_87 rfl (lv_at hl 0 rfl) ?_
        refine gM_26 hx hb hts hown hK hI dX4_told_88 ?_
        refine lv_iload_n hx hb dX4_told_91 rfl (lv_at hl 1 rfl) ?_
        refine lM_8 hx hb hK hI (isPiece_in hN c1) dX4_told_92 ?_
        have HE : M_told S up uk = (S4.1 8 up.toNatClampNeg, S4) := by subst eS4; exact (if_pos c1).trans ((if_pos c2).trans ((if_neg c5).trans ((if_pos c6))))
        exact rt_i hx hb hr hlocks hI hA hQ ⟨by rw [HE], by rw [HE]⟩ (Nat.zero_le _) (Nat.zero_le _) dX4_told_93
      by_cases c7 : uk = 2
      · refine lv_tableIn (off := 57) (tgt := 94) hx hb dX4_told_37 (by rw [c7]; decide) (by rw [c7]; decide) (by rw [c7]; rfl) (by decide) ?_
        refine lv_aload_n hx hb dX4_told_94 rfl (lv_at hl 0 rfl) ?_
        refine gM_29 hx hb hts hown hK hI dX4_told_95 ?_
        refine lv_iload_n hx hb dX4_told_98 rfl (lv_at hl 1 rfl) ?_
        refine lM_9 hx hb hK hI (isPiece_in hN c1) dX4_told_99 ?_
        have HE : M_told S up uk = (S4.1 9 up.toNatClampNeg, S4) := by subst eS4; exact (if_pos c1).trans ((if_pos c2).trans ((if_neg c5).trans ((if_neg c6).trans ((if_pos c7)))))
        exact rt_i hx hb hr hlocks hI hA hQ ⟨by rw [HE], by rw [HE]⟩ (Nat.zero_le _) (Nat.zero_le _) dX4_told_100
      by_cases c8 : uk = 3
      · refine lv_tableIn (off := 64) (tgt := 101) hx hb dX4_told_37 (by rw [c8]; decide) (by rw [c8]; decide) (by rw [c8]; rfl) (by decide) ?_
        refine lv_aload_n hx hb dX4_told_101 rfl (lv_at hl 0 rfl) ?_
        refine gM_32 hx hb hts hown hK hI dX4_told_102 ?_
        refine lv_iload_n hx hb dX4_told_105 rfl (lv_at hl 1 rfl) ?_
        refine lM_10 hx hb hK hI (isPiece_in hN c1) dX4_told_106 ?_
        have HE : M_told S up uk = (S4.1 10 up.toNatClampNeg, S4) := by subst eS4; exact (if_pos c1).trans ((if_pos c2).trans ((if_neg c5).trans ((if_neg c6).trans ((if_neg c7).trans ((if_pos c8))))))
        exact rt_i hx hb hr hlocks hI hA hQ ⟨by rw [HE], by rw [HE]⟩ (Nat.zero_le _) (Nat.zero_le _) dX4_told_107
      by_cases c9 : uk = 4
      · refine lv_tableIn (off := 71) (tgt := 108) hx hb dX4_told_37 (by rw [c9]; decide) (by rw [c9]; decide) (by rw [c9]; rfl) (by decide) ?_
        refine lv_aload_n hx hb dX4_told_108 rfl (lv_at hl 0 rfl) ?_
        refine gM_35 hx hb hts hown hK hI dX4_told_109 ?_
        refine lv_iload_n hx hb dX4_told_112 rfl (lv_at hl 1 rfl) ?_
        refine lM_11 hx hb hK hI (isPiece_in hN c1) dX4_told_113 ?_
        have HE : M_told S up uk = (S4.1 11 up.toNatClampNeg, S4) := by subst eS4; exact (if_pos c1).trans ((if_pos c2).trans ((if_neg c5).trans ((if_neg c6).trans ((if_neg c7).trans ((if_neg c8).trans ((if_pos c9)))))))
        exact rt_i hx hb hr hlocks hI hA hQ ⟨by rw [HE], by rw [HE]⟩ (Nat.zero_le _) (Nat.zero_le _) dX4_told_114
      by_cases c10 : uk = 5
      · refine lv_tableIn (off := 78) (tgt := 115) hx hb dX4_told_37 (by rw [c10]; decide) (by rw [c10]; decide) (by rw [c10]; rfl) (by decide) ?_
        refine lv_aload_n hx hb dX4_told_115 rfl (lv_at hl 0 rfl) ?_
        refine gM_38 hx hb hts hown hK hI dX4_told_116 ?_
        refine lv_iload_n hx hb dX4_told_119 rfl (lv_at hl 1 rfl) ?_
        refine lM_12 hx hb hK hI (isPiece_in hN c1) dX4_told_120 ?_
        have HE : M_told S up uk = (S4.1 12 up.toNatClampNeg, S4) := by subst eS4; exact (if_pos c1).trans ((if_pos c2).trans ((if_neg c5).trans ((if_neg c6).trans ((if_neg c7).trans ((if_neg c8).trans ((if_neg c9).trans ((if_pos c10))))))))
        exact rt_i hx hb hr hlocks hI hA hQ ⟨by rw [HE], by rw [HE]⟩ (Nat.zero_le _) (Nat.zero_le _) dX4_told_121
      by_cases c11 : uk = 6
      · refine lv_tableIn (off := 85) (tgt := 122) hx hb dX4_told_37 (by rw [c11]; decide) (by rw [c11]; decide) (by rw [c11]; rfl) (by decide) ?_
        refine lv_aload_n hx hb dX4_told_122 rfl (lv_at hl 0 rfl) ?_
        refine gM_41 hx hb hts hown hK hI dX4_told_123 ?_
        refine lv_iload_n hx hb dX4_told_126 rfl (lv_at hl 1 rfl) ?_
        refine lM_13 hx hb hK hI (isPiece_in hN c1) dX4_told_127 ?_
        have HE : M_told S up uk = (S4.1 13 up.toNatClampNeg, S4) := by subst eS4; exact (if_pos c1).trans ((if_pos c2).trans ((if_neg c5).trans ((if_neg c6).trans ((if_neg c7).trans ((if_neg c8).trans ((if_neg c9).trans ((if_neg c10).trans ((if_pos c11)))))))))
        exact rt_i hx hb hr hlocks hI hA hQ ⟨by rw [HE], by rw [HE]⟩ (Nat.zero_le _) (Nat.zero_le _) dX4_told_128
      refine lv_tableOut (tgt := 129) hx hb dX4_told_37 (sw_out7 c5 c6 c7 c8 c9 c10 c11) (by decide) ?_
      refine lv_aload_n hx hb dX4_told_129 rfl (lv_at hl 0 rfl) ?_
      refine lv_iload_n hx hb dX4_told_130 rfl (lv_at hl 1 rfl) ?_
      refine cVv (rest := []) hx hb hml hts hown hK hE hI (cM_many G ad S4 up (MNn_set hN (by decide) (by decide) eS4)) kM_200 ⟨Nat.le_of_ble_eq_true rfl, Nat.le_of_ble_eq_true rfl⟩ rfl rfl (kk := 4) (ii := 0) rfl rfl rfl hl.1 rfl (Nat.le_of_ble_eq_true rfl) dX4_told_131 ⟨Nat.zero_le _, Nat.zero_le _⟩ (fun H locs hI => ?_)
      have HE : M_told S up uk = (M_many S4 up, S4) := by subst eS4; exact (if_pos c1).trans ((if_pos c2).trans ((if_neg c5).trans ((if_neg c6).trans ((if_neg c7).trans ((if_neg c8).trans ((if_neg c9).trans ((if_neg c10).trans ((if_neg c11)))))))))
      exact rt_i hx hb hr hlocks hI hA hQ ⟨by rw [HE], by rw [HE]⟩ (Nat.zero_le _) (Nat.zero_le _) dX4_told_134
  · refine lv_iconst (v := 1) hx hb dX4_told_9 (by decide) ?_
    refine lv_goto (tgt := 28) hx hb dX4_told_10 (by decide) ?_
    obtain ⟨S12, eS12⟩ : ∃ z : MS, z = mset S 29 0 1 := ⟨_, rfl⟩
    refine cVv (rest := []) hx hb hml hts hown hK hE hI (cM_fails1 G ad S) kM_101 ⟨Nat.le_of_ble_eq_true rfl, Nat.le_of_ble_eq_true rfl⟩ rfl rfl (kk := 4) (ii := 0) rfl rfl rfl hl.1 rfl (Nat.le_of_ble_eq_true rfl) dX4_told_28 ⟨Nat.zero_le _, Nat.zero_le _⟩ (fun H locs hI => ?_)
    rw [← eS12] at hI
    refine lv_if_eq (tgt := 36) hx hb dX4_told_31 (by decide) (fun h => absurd h (by decide)) (fun _ => ?_)
    refine lv_iconst (v := 0) hx hb dX4_told_34 (by decide) ?_
    have HE : M_told S up uk = (0, S12) := by subst eS12; exact (if_neg c1)
    exact rt_i hx hb hr hlocks hI hA hQ ⟨by rw [HE], by rw [HE]⟩ (Nat.zero_le _) (Nat.zero_le _) dX4_told_35

def M_ofVehicle (S : MS) (uv : Int32) (uk : Int32) : Int32 × MS :=
  if M_isVehicle S uv then
    if M_isIn S uk 0 6 then
      let S4 := mset S 29 0 0
      if uk = 0 then
        (S4.1 20 uv.toNatClampNeg, S4)
      else
        if uk = 1 then
          (M_weight S4 uv, S4)
        else
          if uk = 2 then
            (S4.1 24 uv.toNatClampNeg, S4)
          else
            if uk = 3 then
              (S4.1 25 uv.toNatClampNeg, S4)
            else
              if uk = 4 then
                (S4.1 21 uv.toNatClampNeg, S4)
              else
                if uk = 5 then
                  (bI (¬ ((S4.1 22 uv.toNatClampNeg) = 0)), S4)
                else
                  let x15 := if (S4.1 20 uv.toNatClampNeg) = 1 then (S4.1 23 uv.toNatClampNeg) else (-1)
                  (x15, S4)
    else
      let S3 := mset S 29 0 2
      (0, S3)
  else
    let S18 := mset S 29 0 1
    (0, S18)
set_option maxHeartbeats 4000000 in
set_option maxRecDepth 100000 in
theorem cM_ofVehicle (G : GX) (ad : Nat → Nat) (S : MS) (uv : Int32) (uk : Int32) {np nv : Nat} (hN : MNn S np nv) : FC G yX4_ofVehicle cX4_ofVehicle 3 (some .int) ({ frames := 2, cells := 0, slots := 0, locals := 43 }) [.ref (ad 0), .int uv, .int uk] (mW G.2.2.2 ad S) (pv (.int (M_ofVehicle S uv uk).1) (mW G.2.2.2 ad (M_ofVehicle S uv uk).2)) := by
  refine FC.go (lv := [(0, .ref (ad 0)), (1, .int uv), (2, .int uk)]) (by decide) (Nat.le_of_ble_eq_true rfl) rfl (fun p e s m args below meth c A H locs ls Q hx hb hr hts hown hml hlocks hnm hK hE hI hA hl hQ => ?_)
  have hown : s.vm.findClass RX4 = some m.cls := hown
  refine lv_aload_n hx hb dX4_ofVehicle_0 rfl (lv_at hl 0 rfl) ?_
  refine lv_aload_n hx hb dX4_ofVehicle_1 rfl (lv_at hl 0 rfl) ?_
  refine lv_iload_n hx hb dX4_ofVehicle_2 rfl (lv_at hl 1 rfl) ?_
  refine cVv (rest := [.ref (ad 0)]) hx hb hml hts hown hK hE hI (cM_isVehicle G ad S uv) kM_123 ⟨Nat.le_of_ble_eq_true rfl, Nat.le_of_ble_eq_true rfl⟩ rfl rfl (kk := 4) (ii := 0) rfl rfl rfl hl.1 rfl (Nat.le_of_ble_eq_true rfl) dX4_ofVehicle_3 ⟨Nat.zero_le _, Nat.zero_le _⟩ (fun H locs hI => ?_)
  refine xb_ne (tgt := 13) hx hb dX4_ofVehicle_6 (by decide) (fun c1 => ?_) (fun c1 => ?_)
  · refine lv_iload_n hx hb dX4_ofVehicle_13 rfl (lv_at hl 2 rfl) ?_
    refine lv_iconst (v := 0) hx hb dX4_ofVehicle_14 (by decide) ?_
    refine lv_bipush (v := 6) hx hb dX4_ofVehicle_15 (by decide) ?_
    refine cSv (rest := [.ref (ad 0)]) hx hb hml hts hown hK hE hI (cM_isIn G ad S uk 0 6) kM_94 ⟨Nat.le_of_ble_eq_true rfl, Nat.le_of_ble_eq_true rfl⟩ rfl rfl hl.1 rfl (Nat.le_of_ble_eq_true rfl) dX4_ofVehicle_17 ⟨Nat.zero_le _, Nat.zero_le _⟩ (fun H locs hI => ?_)
    refine xb_eq (tgt := 27) hx hb dX4_ofVehicle_20 (by decide) (fun c2 => ?_) (fun c2 => ?_)
    · refine lv_iconst (v := 2) hx hb dX4_ofVehicle_27 (by decide) ?_
      obtain ⟨S3, eS3⟩ : ∃ z : MS, z = mset S 29 0 2 := ⟨_, rfl⟩
      refine cVv (rest := []) hx hb hml hts hown hK hE hI (cM_fails2 G ad S) kM_101 ⟨Nat.le_of_ble_eq_true rfl, Nat.le_of_ble_eq_true rfl⟩ rfl rfl (kk := 4) (ii := 0) rfl rfl rfl hl.1 rfl (Nat.le_of_ble_eq_true rfl) dX4_ofVehicle_28 ⟨Nat.zero_le _, Nat.zero_le _⟩ (fun H locs hI => ?_)
      rw [← eS3] at hI
      refine lv_if_eq (tgt := 36) hx hb dX4_ofVehicle_31 (by decide) (fun h => absurd h (by decide)) (fun _ => ?_)
      refine lv_iconst (v := 0) hx hb dX4_ofVehicle_34 (by decide) ?_
      have HE : M_ofVehicle S uv uk = (0, S3) := by subst eS3; exact (if_pos c1).trans ((if_neg c2))
      exact rt_i hx hb hr hlocks hI hA hQ ⟨by rw [HE], by rw [HE]⟩ (Nat.zero_le _) (Nat.zero_le _) dX4_ofVehicle_35
    · refine lv_iconst (v := 0) hx hb dX4_ofVehicle_23 (by decide) ?_
      refine lv_goto (tgt := 28) hx hb dX4_ofVehicle_24 (by decide) ?_
      obtain ⟨S4, eS4⟩ : ∃ z : MS, z = mset S 29 0 0 := ⟨_, rfl⟩
      refine cVv (rest := []) hx hb hml hts hown hK hE hI (cM_fails0 G ad S) kM_101 ⟨Nat.le_of_ble_eq_true rfl, Nat.le_of_ble_eq_true rfl⟩ rfl rfl (kk := 4) (ii := 0) rfl rfl rfl hl.1 rfl (Nat.le_of_ble_eq_true rfl) dX4_ofVehicle_28 ⟨Nat.zero_le _, Nat.zero_le _⟩ (fun H locs hI => ?_)
      rw [← eS4] at hI
      refine lv_if_eq (tgt := 36) hx hb dX4_ofVehicle_31 (by decide) (fun _ => ?_) (fun h => absurd h (by decide))
      refine lv_iload_n hx hb dX4_ofVehicle_36 rfl (lv_at hl 2 rfl) ?_
      by_cases c5 : uk = 0
      · refine lv_tableIn (off := 39) (tgt := 76) hx hb dX4_ofVehicle_37 (by rw [c5]; decide) (by rw [c5]; decide) (by rw [c5]; rfl) (by decide) ?_
        refine lv_aload_n hx hb dX4_ofVehicle_76 rfl (lv_at hl 0 rfl) ?_
        refine gM_60 hx hb hts hown hK hI dX4_ofVehicle_77 ?_
        refine lv_iload_n hx hb dX4_ofVehicle_80 rfl (lv_at hl 1 rfl) ?_
        refine lM_20 hx hb hK hI (isVehicle_in hN c1) dX4_ofVehicle_81 ?_
        have HE : M_ofVehicle S uv uk = (S4.1 20 uv.toNatClampNeg, S4) := by subst eS4; exact (if_pos c1).trans ((if_pos c2).trans ((if_pos c5)))
        exact rt_i hx hb hr hlocks hI hA hQ ⟨by rw [HE], by rw [HE]⟩ (Nat.zero_le _) (Nat.zero_le _) dX4_ofVehicle_82
      by_cases c6 : uk = 1
      · refine lv_tableIn (off := 46) (tgt := 83) hx hb dX4_ofVehicle_37 (by rw [c6]; decide) (by rw [c6]; decide) (by rw [c6]; rfl) (by decide) ?_
        refine lv_aload_n hx hb dX4_ofVehicle_83 rfl (lv_at hl 0 rfl) ?_
        refine lv_iload_n hx hb dX4_ofVehicle_84 rfl (lv_at hl 1 rfl) ?_
        refine cVv (rest := []) hx hb hml hts hown hK hE hI (cM_weight G ad S4 uv (isVehicle_in hN c1)) kM_129 ⟨Nat.le_of_ble_eq_true rfl, Nat.le_of_ble_eq_true rfl⟩ rfl rfl (kk := 4) (ii := 0) rfl rfl rfl hl.1 rfl (Nat.le_of_ble_eq_true rfl) dX4_ofVehicle_85 ⟨Nat.zero_le _, Nat.zero_le _⟩ (fun H locs hI => ?_)
        have HE : M_ofVehicle S uv uk = (M_weight S4 uv, S4) := by subst eS4; exact (if_pos c1).trans ((if_pos c2).trans ((if_neg c5).trans ((if_pos c6))))
        exact rt_i hx hb hr hlocks hI hA hQ ⟨by rw [HE], by rw [HE]⟩ (Nat.zero_le _) (Nat.zero_le _) dX4_ofVehicle_88
      by_cases c7 : uk = 2
      · refine lv_tableIn (off := 52) (tgt := 89) hx hb dX4_ofVehicle_37 (by rw [c7]; decide) (by rw [c7]; decide) (by rw [c7]; rfl) (by decide) ?_
        refine lv_aload_n hx hb dX4_ofVehicle_89 rfl (lv_at hl 0 rfl) ?_
        refine gM_73 hx hb hts hown hK hI dX4_ofVehicle_90 ?_
        refine lv_iload_n hx hb dX4_ofVehicle_93 rfl (lv_at hl 1 rfl) ?_
        refine lM_24 hx hb hK hI (isVehicle_in hN c1) dX4_ofVehicle_94 ?_
        have HE : M_ofVehicle S uv uk = (S4.1 24 uv.toNatClampNeg, S4) := by subst eS4; exact (if_pos c1).trans ((if_pos c2).trans ((if_neg c5).trans ((if_neg c6).trans ((if_pos c7)))))
        exact rt_i hx hb hr hlocks hI hA hQ ⟨by rw [HE], by rw [HE]⟩ (Nat.zero_le _) (Nat.zero_le _) dX4_ofVehicle_95
      by_cases c8 : uk = 3
      · refine lv_tableIn (off := 59) (tgt := 96) hx hb dX4_ofVehicle_37 (by rw [c8]; decide) (by rw [c8]; decide) (by rw [c8]; rfl) (by decide) ?_
        refine lv_aload_n hx hb dX4_ofVehicle_96 rfl (lv_at hl 0 rfl) ?_
        refine gM_76 hx hb hts hown hK hI dX4_ofVehicle_97 ?_
        refine lv_iload_n hx hb dX4_ofVehicle_100 rfl (lv_at hl 1 rfl) ?_
        refine lM_25 hx hb hK hI (isVehicle_in hN c1) dX4_ofVehicle_101 ?_
        have HE : M_ofVehicle S uv uk = (S4.1 25 uv.toNatClampNeg, S4) := by subst eS4; exact (if_pos c1).trans ((if_pos c2).trans ((if_neg c5).trans ((if_neg c6).trans ((if_neg c7).trans ((if_pos c8))))))
        exact rt_i hx hb hr hlocks hI hA hQ ⟨by rw [HE], by rw [HE]⟩ (Nat.zero_le _) (Nat.zero_le _) dX4_ofVehicle_102
      by_cases c9 : uk = 4
      · refine lv_tableIn (off := 66) (tgt := 103) hx hb dX4_ofVehicle_37 (by rw [c9]; decide) (by rw [c9]; decide) (by rw [c9]; rfl) (by decide) ?_
        refine lv_aload_n hx hb dX4_ofVehicle_103 rfl (lv_at hl 0 rfl) ?_
        refine gM_63 hx hb hts hown hK hI dX4_ofVehicle_104 ?_
        refine lv_iload_n hx hb dX4_ofVehicle_107 rfl (lv_at hl 1 rfl) ?_
        refine lM_21 hx hb hK hI (isVehicle_in hN c1) dX4_ofVehicle_108 ?_
        have HE : M_ofVehicle S uv uk = (S4.1 21 uv.toNatClampNeg, S4) := by subst eS4; exact (if_pos c1).trans ((if_pos c2).trans ((if_neg c5).trans ((if_neg c6).trans ((if_neg c7).trans ((if_neg c8).trans ((if_pos c9)))))))
        exact rt_i hx hb hr hlocks hI hA hQ ⟨by rw [HE], by rw [HE]⟩ (Nat.zero_le _) (Nat.zero_le _) dX4_ofVehicle_109
      by_cases c10 : uk = 5
      · refine lv_tableIn (off := 73) (tgt := 110) hx hb dX4_ofVehicle_37 (by rw [c10]; decide) (by rw [c10]; decide) (by rw [c10]; rfl) (by decide) ?_
        refine lv_aload_n hx hb dX4_ofVehicle_110 rfl (lv_at hl 0 rfl) ?_
        refine gM_66 hx hb hts hown hK hI dX4_ofVehicle_111 ?_
        refine lv_iload_n hx hb dX4_ofVehicle_114 rfl (lv_at hl 1 rfl) ?_
        refine lM_22 hx hb hK hI (isVehicle_in hN c1) dX4_ofVehicle_115 ?_
        have hJ11 : W p G.1 e ({ frames := 2, cells := 0, slots := 0, locals := 43 }) s m args below meth c H locs 0 0 Q (F0 m 124 ls [.int (bI (¬ ((S4.1 22 uv.toNatClampNeg) = 0)))]) := by
          have HE : M_ofVehicle S uv uk = (bI (¬ ((S4.1 22 uv.toNatClampNeg) = 0)), S4) := by subst eS4; exact (if_pos c1).trans ((if_pos c2).trans ((if_neg c5).trans ((if_neg c6).trans ((if_neg c7).trans ((if_neg c8).trans ((if_neg c9).trans ((if_pos c10))))))))
          exact rt_i hx hb hr hlocks hI hA hQ ⟨by rw [HE], by rw [HE]⟩ (Nat.zero_le _) (Nat.zero_le _) dX4_ofVehicle_124
        refine lv_if_eq (tgt := 123) hx hb dX4_ofVehicle_116 (by decide) (fun c12 => ?_) (fun c12 => ?_)
        · refine lv_iconst (v := 0) hx hb dX4_ofVehicle_123 (by decide) ?_
          have eb13 : (0 : Int32) = bI (¬ ((S4.1 22 uv.toNatClampNeg) = 0)) := (bI_f (fun k => k c12)).symm
          rw [eb13]
          exact hJ11
        · refine lv_iconst (v := 1) hx hb dX4_ofVehicle_119 (by decide) ?_
          refine lv_goto (tgt := 124) hx hb dX4_ofVehicle_120 (by decide) ?_
          have eb14 : (1 : Int32) = bI (¬ ((S4.1 22 uv.toNatClampNeg) = 0)) := (bI_t c12).symm
          rw [eb14]
          exact hJ11
      refine lv_tableOut (tgt := 125) hx hb dX4_ofVehicle_37 (sw_out6 c5 c6 c7 c8 c9 c10) (by decide) ?_
      refine lv_aload_n hx hb dX4_ofVehicle_125 rfl (lv_at hl 0 rfl) ?_
      refine gM_60 hx hb hts hown hK hI dX4_ofVehicle_126 ?_
      refine lv_iload_n hx hb dX4_ofVehicle_129 rfl (lv_at hl 1 rfl) ?_
      refine lM_20 hx hb hK hI (isVehicle_in hN c1) dX4_ofVehicle_130 ?_
      refine lv_iconst (v := 1) hx hb dX4_ofVehicle_131 (by decide) ?_
      have hJ16 : ∀ (x15 : Int32), (x15 = if (S4.1 20 uv.toNatClampNeg) = 1 then (S4.1 23 uv.toNatClampNeg) else (-1)) → W p G.1 e ({ frames := 2, cells := 0, slots := 0, locals := 43 }) s m args below meth c H locs 0 0 Q (F0 m 145 ls [.int x15]) := by
        intro x15 ex15
        have HE : M_ofVehicle S uv uk = (x15, S4) := by subst ex15 eS4; exact (if_pos c1).trans ((if_pos c2).trans ((if_neg c5).trans ((if_neg c6).trans ((if_neg c7).trans ((if_neg c8).trans ((if_neg c9).trans ((if_neg c10))))))))
        exact rt_i hx hb hr hlocks hI hA hQ ⟨by rw [HE], by rw [HE]⟩ (Nat.zero_le _) (Nat.zero_le _) dX4_ofVehicle_145
      refine lv_icmp_ne (tgt := 144) hx hb dX4_ofVehicle_132 (by decide) (fun c17 => ?_) (fun c17 => ?_)
      · refine lv_iconst (v := (-1)) hx hb dX4_ofVehicle_144 (by decide) ?_
        exact hJ16 (-1) (by exact (if_neg c17).symm)
      · refine lv_aload_n hx hb dX4_ofVehicle_135 rfl (lv_at hl 0 rfl) ?_
        refine gM_70 hx hb hts hown hK hI dX4_ofVehicle_136 ?_
        refine lv_iload_n hx hb dX4_ofVehicle_139 rfl (lv_at hl 1 rfl) ?_
        refine lM_23 hx hb hK hI (isVehicle_in hN c1) dX4_ofVehicle_140 ?_
        refine lv_goto (tgt := 145) hx hb dX4_ofVehicle_141 (by decide) ?_
        exact hJ16 (S4.1 23 uv.toNatClampNeg) (by exact (if_pos c17).symm)
  · refine lv_iconst (v := 1) hx hb dX4_ofVehicle_9 (by decide) ?_
    refine lv_goto (tgt := 28) hx hb dX4_ofVehicle_10 (by decide) ?_
    obtain ⟨S18, eS18⟩ : ∃ z : MS, z = mset S 29 0 1 := ⟨_, rfl⟩
    refine cVv (rest := []) hx hb hml hts hown hK hE hI (cM_fails1 G ad S) kM_101 ⟨Nat.le_of_ble_eq_true rfl, Nat.le_of_ble_eq_true rfl⟩ rfl rfl (kk := 4) (ii := 0) rfl rfl rfl hl.1 rfl (Nat.le_of_ble_eq_true rfl) dX4_ofVehicle_28 ⟨Nat.zero_le _, Nat.zero_le _⟩ (fun H locs hI => ?_)
    rw [← eS18] at hI
    refine lv_if_eq (tgt := 36) hx hb dX4_ofVehicle_31 (by decide) (fun h => absurd h (by decide)) (fun _ => ?_)
    refine lv_iconst (v := 0) hx hb dX4_ofVehicle_34 (by decide) ?_
    have HE : M_ofVehicle S uv uk = (0, S18) := by subst eS18; exact (if_neg c1)
    exact rt_i hx hb hr hlocks hI hA hQ ⟨by rw [HE], by rw [HE]⟩ (Nat.zero_le _) (Nat.zero_le _) dX4_ofVehicle_35

def M_kilos (S : MS) (ug : Int32) (uk : Int32) : Int32 × MS :=
  if M_isGoods S ug then
    if M_isIn S uk 0 4 then
      let S4 := mset S 29 0 0
      let x5 := if uk = 0 then (S4.1 26 ug.toNatClampNeg) else (if uk = 1 then (S4.1 27 ug.toNatClampNeg) else (if uk = 4 then (M_missing S4 ug) else (M_carried S4 ug (bI (uk = 3)))))
      (x5, S4)
    else
      let S3 := mset S 29 0 2
      (0, S3)
  else
    let S14 := mset S 29 0 1
    (0, S14)
set_option maxHeartbeats 4000000 in
set_option maxRecDepth 100000 in
theorem cM_kilos (G : GX) (ad : Nat → Nat) (S : MS) (ug : Int32) (uk : Int32) {np nv : Nat} (hN : MNn S np nv) : FC G yX4_kilos cX4_kilos 3 (some .int) ({ frames := 2, cells := 0, slots := 0, locals := 42 }) [.ref (ad 0), .int ug, .int uk] (mW G.2.2.2 ad S) (pv (.int (M_kilos S ug uk).1) (mW G.2.2.2 ad (M_kilos S ug uk).2)) := by
  refine FC.go (lv := [(0, .ref (ad 0)), (1, .int ug), (2, .int uk)]) (by decide) (Nat.le_of_ble_eq_true rfl) rfl (fun p e s m args below meth c A H locs ls Q hx hb hr hts hown hml hlocks hnm hK hE hI hA hl hQ => ?_)
  have hown : s.vm.findClass RX4 = some m.cls := hown
  refine lv_aload_n hx hb dX4_kilos_0 rfl (lv_at hl 0 rfl) ?_
  refine lv_iload_n hx hb dX4_kilos_1 rfl (lv_at hl 1 rfl) ?_
  refine cSv (rest := [.ref (ad 0)]) hx hb hml hts hown hK hE hI (cM_isGoods G ad S ug) kM_126 ⟨Nat.le_of_ble_eq_true rfl, Nat.le_of_ble_eq_true rfl⟩ rfl rfl hl.1 rfl (Nat.le_of_ble_eq_true rfl) dX4_kilos_2 ⟨Nat.zero_le _, Nat.zero_le _⟩ (fun H locs hI => ?_)
  refine xb_ne (tgt := 12) hx hb dX4_kilos_5 (by decide) (fun c1 => ?_) (fun c1 => ?_)
  · refine lv_iload_n hx hb dX4_kilos_12 rfl (lv_at hl 2 rfl) ?_
    refine lv_iconst (v := 0) hx hb dX4_kilos_13 (by decide) ?_
    refine lv_iconst (v := 4) hx hb dX4_kilos_14 (by decide) ?_
    refine cSv (rest := [.ref (ad 0)]) hx hb hml hts hown hK hE hI (cM_isIn G ad S uk 0 4) kM_94 ⟨Nat.le_of_ble_eq_true rfl, Nat.le_of_ble_eq_true rfl⟩ rfl rfl hl.1 rfl (Nat.le_of_ble_eq_true rfl) dX4_kilos_15 ⟨Nat.zero_le _, Nat.zero_le _⟩ (fun H locs hI => ?_)
    refine xb_eq (tgt := 25) hx hb dX4_kilos_18 (by decide) (fun c2 => ?_) (fun c2 => ?_)
    · refine lv_iconst (v := 2) hx hb dX4_kilos_25 (by decide) ?_
      obtain ⟨S3, eS3⟩ : ∃ z : MS, z = mset S 29 0 2 := ⟨_, rfl⟩
      refine cVv (rest := []) hx hb hml hts hown hK hE hI (cM_fails2 G ad S) kM_101 ⟨Nat.le_of_ble_eq_true rfl, Nat.le_of_ble_eq_true rfl⟩ rfl rfl (kk := 4) (ii := 0) rfl rfl rfl hl.1 rfl (Nat.le_of_ble_eq_true rfl) dX4_kilos_26 ⟨Nat.zero_le _, Nat.zero_le _⟩ (fun H locs hI => ?_)
      rw [← eS3] at hI
      refine lv_if_eq (tgt := 34) hx hb dX4_kilos_29 (by decide) (fun h => absurd h (by decide)) (fun _ => ?_)
      refine lv_iconst (v := 0) hx hb dX4_kilos_32 (by decide) ?_
      have HE : M_kilos S ug uk = (0, S3) := by subst eS3; exact (if_pos c1).trans ((if_neg c2))
      exact rt_i hx hb hr hlocks hI hA hQ ⟨by rw [HE], by rw [HE]⟩ (Nat.zero_le _) (Nat.zero_le _) dX4_kilos_33
    · refine lv_iconst (v := 0) hx hb dX4_kilos_21 (by decide) ?_
      refine lv_goto (tgt := 26) hx hb dX4_kilos_22 (by decide) ?_
      obtain ⟨S4, eS4⟩ : ∃ z : MS, z = mset S 29 0 0 := ⟨_, rfl⟩
      refine cVv (rest := []) hx hb hml hts hown hK hE hI (cM_fails0 G ad S) kM_101 ⟨Nat.le_of_ble_eq_true rfl, Nat.le_of_ble_eq_true rfl⟩ rfl rfl (kk := 4) (ii := 0) rfl rfl rfl hl.1 rfl (Nat.le_of_ble_eq_true rfl) dX4_kilos_26 ⟨Nat.zero_le _, Nat.zero_le _⟩ (fun H locs hI => ?_)
      rw [← eS4] at hI
      refine lv_if_eq (tgt := 34) hx hb dX4_kilos_29 (by decide) (fun _ => ?_) (fun h => absurd h (by decide))
      refine lv_iload_n hx hb dX4_kilos_34 rfl (lv_at hl 2 rfl) ?_
      have hJ6 : ∀ (x5 : Int32) (H : Heap) (locs : List Loc), (x5 = if uk = 0 then (S4.1 26 ug.toNatClampNeg) else (if uk = 1 then (S4.1 27 ug.toNatClampNeg) else (if uk = 4 then (M_missing S4 ug) else (M_carried S4 ug (bI (uk = 3)))))) → (fI G.2.2.1 A s.heap (mW G.2.2.2 ad S4) H locs) → W p G.1 e ({ frames := 2, cells := 0, slots := 0, locals := 42 }) s m args below meth c H locs 0 0 Q (F0 m 89 ls [.int x5]) := by
        intro x5 H locs ex5 hI
        have HE : M_kilos S ug uk = (x5, S4) := by subst ex5 eS4; exact (if_pos c1).trans ((if_pos c2))
        exact rt_i hx hb hr hlocks hI hA hQ ⟨by rw [HE], by rw [HE]⟩ (Nat.zero_le _) (Nat.zero_le _) dX4_kilos_89
      refine lv_if_ne (tgt := 47) hx hb dX4_kilos_35 (by decide) (fun c7 => ?_) (fun c7 => ?_)
      · refine lv_iload_n hx hb dX4_kilos_47 rfl (lv_at hl 2 rfl) ?_
        refine lv_iconst (v := 1) hx hb dX4_kilos_48 (by decide) ?_
        refine lv_icmp_ne (tgt := 61) hx hb dX4_kilos_49 (by decide) (fun c8 => ?_) (fun c8 => ?_)
        · refine lv_iload_n hx hb dX4_kilos_61 rfl (lv_at hl 2 rfl) ?_
          refine lv_iconst (v := 4) hx hb dX4_kilos_62 (by decide) ?_
          refine lv_icmp_ne (tgt := 74) hx hb dX4_kilos_63 (by decide) (fun c9 => ?_) (fun c9 => ?_)
          · refine lv_aload_n hx hb dX4_kilos_74 rfl (lv_at hl 0 rfl) ?_
            refine lv_iload_n hx hb dX4_kilos_75 rfl (lv_at hl 1 rfl) ?_
            refine lv_iload_n hx hb dX4_kilos_76 rfl (lv_at hl 2 rfl) ?_
            refine lv_iconst (v := 3) hx hb dX4_kilos_77 (by decide) ?_
            have hJ10 : W p G.1 e ({ frames := 2, cells := 0, slots := 0, locals := 42 }) s m args below meth c H locs 0 0 Q (F0 m 86 ls [.int (bI (uk = 3)), .int ug, .ref (ad 0)]) := by
              refine cVv (rest := []) hx hb hml hts hown hK hE hI (cM_carried G ad S4 ug (bI (uk = 3)) (MNn_set hN (by decide) (by decide) eS4)) kM_209 ⟨Nat.le_of_ble_eq_true rfl, Nat.le_of_ble_eq_true rfl⟩ rfl rfl (kk := 4) (ii := 0) rfl rfl rfl hl.1 rfl (Nat.le_of_ble_eq_true rfl) dX4_kilos_86 ⟨Nat.zero_le _, Nat.zero_le _⟩ (fun H locs hI => ?_)
              exact hJ6 (M_carried S4 ug (bI (uk = 3))) _ _ (by exact ((if_neg c7).trans ((if_neg c8).trans (if_neg c9))).symm) hI
            refine lv_icmp_ne (tgt := 85) hx hb dX4_kilos_78 (by decide) (fun c11 => ?_) (fun c11 => ?_)
            · refine lv_iconst (v := 0) hx hb dX4_kilos_85 (by decide) ?_
              have eb12 : (0 : Int32) = bI (uk = 3) := (bI_f c11).symm
              rw [eb12]
              exact hJ10
            · refine lv_iconst (v := 1) hx hb dX4_kilos_81 (by decide) ?_
              refine lv_goto (tgt := 86) hx hb dX4_kilos_82 (by decide) ?_
              have eb13 : (1 : Int32) = bI (uk = 3) := (bI_t c11).symm
              rw [eb13]
              exact hJ10
          · refine lv_aload_n hx hb dX4_kilos_66 rfl (lv_at hl 0 rfl) ?_
            refine lv_iload_n hx hb dX4_kilos_67 rfl (lv_at hl 1 rfl) ?_
            refine cVv (rest := []) hx hb hml hts hown hK hE hI (cM_missing G ad S4 ug (isGoods_in c1)) kM_206 ⟨Nat.le_of_ble_eq_true rfl, Nat.le_of_ble_eq_true rfl⟩ rfl rfl (kk := 4) (ii := 0) rfl rfl rfl hl.1 rfl (Nat.le_of_ble_eq_true rfl) dX4_kilos_68 ⟨Nat.zero_le _, Nat.zero_le _⟩ (fun H locs hI => ?_)
            refine lv_goto (tgt := 89) hx hb dX4_kilos_71 (by decide) ?_
            exact hJ6 (M_missing S4 ug) _ _ (by exact ((if_neg c7).trans ((if_neg c8).trans (if_pos c9))).symm) hI
        · refine lv_aload_n hx hb dX4_kilos_52 rfl (lv_at hl 0 rfl) ?_
          refine gM_82 hx hb hts hown hK hI dX4_kilos_53 ?_
          refine lv_iload_n hx hb dX4_kilos_56 rfl (lv_at hl 1 rfl) ?_
          refine lM_27 hx hb hK hI (isGoods_in c1) dX4_kilos_57 ?_
          refine lv_goto (tgt := 89) hx hb dX4_kilos_58 (by decide) ?_
          exact hJ6 (S4.1 27 ug.toNatClampNeg) _ _ (by exact ((if_neg c7).trans (if_pos c8)).symm) hI
      · refine lv_aload_n hx hb dX4_kilos_38 rfl (lv_at hl 0 rfl) ?_
        refine gM_79 hx hb hts hown hK hI dX4_kilos_39 ?_
        refine lv_iload_n hx hb dX4_kilos_42 rfl (lv_at hl 1 rfl) ?_
        refine lM_26 hx hb hK hI (isGoods_in c1) dX4_kilos_43 ?_
        refine lv_goto (tgt := 89) hx hb dX4_kilos_44 (by decide) ?_
        exact hJ6 (S4.1 26 ug.toNatClampNeg) _ _ (by exact (if_pos c7).symm) hI
  · refine lv_iconst (v := 1) hx hb dX4_kilos_8 (by decide) ?_
    refine lv_goto (tgt := 26) hx hb dX4_kilos_9 (by decide) ?_
    obtain ⟨S14, eS14⟩ : ∃ z : MS, z = mset S 29 0 1 := ⟨_, rfl⟩
    refine cVv (rest := []) hx hb hml hts hown hK hE hI (cM_fails1 G ad S) kM_101 ⟨Nat.le_of_ble_eq_true rfl, Nat.le_of_ble_eq_true rfl⟩ rfl rfl (kk := 4) (ii := 0) rfl rfl rfl hl.1 rfl (Nat.le_of_ble_eq_true rfl) dX4_kilos_26 ⟨Nat.zero_le _, Nat.zero_le _⟩ (fun H locs hI => ?_)
    rw [← eS14] at hI
    refine lv_if_eq (tgt := 34) hx hb dX4_kilos_29 (by decide) (fun h => absurd h (by decide)) (fun _ => ?_)
    refine lv_iconst (v := 0) hx hb dX4_kilos_32 (by decide) ?_
    have HE : M_kilos S ug uk = (0, S14) := by subst eS14; exact (if_neg c1)
    exact rt_i hx hb hr hlocks hI hA hQ ⟨by rw [HE], by rw [HE]⟩ (Nat.zero_le _) (Nat.zero_le _) dX4_kilos_33
end
