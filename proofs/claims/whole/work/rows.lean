section
-- ===== PART A: goes FIRST, ahead of the names: the tables' words, and 'selects' of the private methods out of them =====
/-- a private method of a class that the tables say can be made, by its rows of tables_1 -/
def lw_okq (q : MethodName × Nat) : Prop := (q.1.cls ≠ "java/lang/invoke/MethodHandle" ∧ q.1.cls ≠ "java/lang/invoke/VarHandle") ∧ Cond.instantiable q.1.cls q.2 ∈ tables_1 ∧ Cond.privateMethod q.1 ∈ tables_1 ∧ Cond.instanceMethod q.1 ∈ tables_1
theorem lw_p0 : lw_okq (⟨"HumWire", "thinkLine", "(ZZ)I"⟩, 12) := ⟨⟨by decide +kernel, by decide +kernel⟩, List.mem_of_getElem? (i := 18) (by decide +kernel), List.mem_of_getElem? (i := 445) (by decide +kernel), List.mem_of_getElem? (i := 446) (by decide +kernel)⟩
theorem lw_p1 : lw_okq (⟨"HumWire", "thinkDay", "(I)I"⟩, 12) := ⟨⟨by decide +kernel, by decide +kernel⟩, List.mem_of_getElem? (i := 18) (by decide +kernel), List.mem_of_getElem? (i := 454) (by decide +kernel), List.mem_of_getElem? (i := 455) (by decide +kernel)⟩
theorem lw_p2 : lw_okq (⟨"HumWire", "tonesOn", "(LHumWire$Sheet;I)I"⟩, 12) := ⟨⟨by decide +kernel, by decide +kernel⟩, List.mem_of_getElem? (i := 18) (by decide +kernel), List.mem_of_getElem? (i := 491) (by decide +kernel), List.mem_of_getElem? (i := 492) (by decide +kernel)⟩
theorem lw_p3 : lw_okq (⟨"HumWire", "putBytes", "(I)V"⟩, 12) := ⟨⟨by decide +kernel, by decide +kernel⟩, List.mem_of_getElem? (i := 18) (by decide +kernel), List.mem_of_getElem? (i := 509) (by decide +kernel), List.mem_of_getElem? (i := 510) (by decide +kernel)⟩
theorem lw_p4 : lw_okq (⟨"HumWire$Reader", "step", "()V"⟩, 7) := ⟨⟨by decide +kernel, by decide +kernel⟩, List.mem_of_getElem? (i := 146) (by decide +kernel), List.mem_of_getElem? (i := 526) (by decide +kernel), List.mem_of_getElem? (i := 527) (by decide +kernel)⟩
theorem lw_p5 : lw_okq (⟨"HumWire$Reader", "sortAt", "(I)I"⟩, 7) := ⟨⟨by decide +kernel, by decide +kernel⟩, List.mem_of_getElem? (i := 146) (by decide +kernel), List.mem_of_getElem? (i := 530) (by decide +kernel), List.mem_of_getElem? (i := 531) (by decide +kernel)⟩
theorem lw_p6 : lw_okq (⟨"HumWire$Reader", "keyHere", "()I"⟩, 7) := ⟨⟨by decide +kernel, by decide +kernel⟩, List.mem_of_getElem? (i := 146) (by decide +kernel), List.mem_of_getElem? (i := 534) (by decide +kernel), List.mem_of_getElem? (i := 535) (by decide +kernel)⟩
theorem lw_p7 : lw_okq (⟨"HumWire$Reader", "isWord", "(Ljava/lang/String;)Z"⟩, 7) := ⟨⟨by decide +kernel, by decide +kernel⟩, List.mem_of_getElem? (i := 146) (by decide +kernel), List.mem_of_getElem? (i := 539) (by decide +kernel), List.mem_of_getElem? (i := 540) (by decide +kernel)⟩
theorem lw_p8 : lw_okq (⟨"HumWire$Reader", "readOr", "(II)Z"⟩, 7) := ⟨⟨by decide +kernel, by decide +kernel⟩, List.mem_of_getElem? (i := 146) (by decide +kernel), List.mem_of_getElem? (i := 598) (by decide +kernel), List.mem_of_getElem? (i := 599) (by decide +kernel)⟩
theorem lw_p9 : lw_okq (⟨"HumWire$Reader", "readAnd", "(II)Z"⟩, 7) := ⟨⟨by decide +kernel, by decide +kernel⟩, List.mem_of_getElem? (i := 146) (by decide +kernel), List.mem_of_getElem? (i := 602) (by decide +kernel), List.mem_of_getElem? (i := 603) (by decide +kernel)⟩
theorem lw_p10 : lw_okq (⟨"HumWire$Reader", "readTest", "(II)Z"⟩, 7) := ⟨⟨by decide +kernel, by decide +kernel⟩, List.mem_of_getElem? (i := 146) (by decide +kernel), List.mem_of_getElem? (i := 606) (by decide +kernel), List.mem_of_getElem? (i := 607) (by decide +kernel)⟩
theorem lw_p11 : lw_okq (⟨"HumWire$Reader", "readSum", "(II)Z"⟩, 7) := ⟨⟨by decide +kernel, by decide +kernel⟩, List.mem_of_getElem? (i := 146) (by decide +kernel), List.mem_of_getElem? (i := 610) (by decide +kernel), List.mem_of_getElem? (i := 611) (by decide +kernel)⟩
theorem lw_p12 : lw_okq (⟨"HumWire$Reader", "readTerm", "(II)Z"⟩, 7) := ⟨⟨by decide +kernel, by decide +kernel⟩, List.mem_of_getElem? (i := 146) (by decide +kernel), List.mem_of_getElem? (i := 614) (by decide +kernel), List.mem_of_getElem? (i := 615) (by decide +kernel)⟩
theorem lw_p13 : lw_okq (⟨"HumWire$Reader", "readPiece", "(II)Z"⟩, 7) := ⟨⟨by decide +kernel, by decide +kernel⟩, List.mem_of_getElem? (i := 146) (by decide +kernel), List.mem_of_getElem? (i := 618) (by decide +kernel), List.mem_of_getElem? (i := 619) (by decide +kernel)⟩
theorem lw_p14 : lw_okq (⟨"HumWire$Reader", "readNumber", "()Z"⟩, 7) := ⟨⟨by decide +kernel, by decide +kernel⟩, List.mem_of_getElem? (i := 146) (by decide +kernel), List.mem_of_getElem? (i := 622) (by decide +kernel), List.mem_of_getElem? (i := 623) (by decide +kernel)⟩
theorem lw_p15 : lw_okq (⟨"HumWire$Law", "put", "(I)V"⟩, 4) := ⟨⟨by decide +kernel, by decide +kernel⟩, List.mem_of_getElem? (i := 70) (by decide +kernel), List.mem_of_getElem? (i := 630) (by decide +kernel), List.mem_of_getElem? (i := 631) (by decide +kernel)⟩
def lw_privs_1 : List (MethodName × Nat) := [(⟨"HumWire", "thinkLine", "(ZZ)I"⟩, 12), (⟨"HumWire", "thinkDay", "(I)I"⟩, 12), (⟨"HumWire", "tonesOn", "(LHumWire$Sheet;I)I"⟩, 12), (⟨"HumWire", "putBytes", "(I)V"⟩, 12), (⟨"HumWire$Reader", "step", "()V"⟩, 7), (⟨"HumWire$Reader", "sortAt", "(I)I"⟩, 7), (⟨"HumWire$Reader", "keyHere", "()I"⟩, 7), (⟨"HumWire$Reader", "isWord", "(Ljava/lang/String;)Z"⟩, 7), (⟨"HumWire$Reader", "readOr", "(II)Z"⟩, 7), (⟨"HumWire$Reader", "readAnd", "(II)Z"⟩, 7), (⟨"HumWire$Reader", "readTest", "(II)Z"⟩, 7), (⟨"HumWire$Reader", "readSum", "(II)Z"⟩, 7), (⟨"HumWire$Reader", "readTerm", "(II)Z"⟩, 7), (⟨"HumWire$Reader", "readPiece", "(II)Z"⟩, 7), (⟨"HumWire$Reader", "readNumber", "()Z"⟩, 7), (⟨"HumWire$Law", "put", "(I)V"⟩, 4)]
theorem lw_r1 : ∀ q ∈ lw_privs_1, lw_okq q := List.forall_mem_cons.mpr ⟨lw_p0, List.forall_mem_cons.mpr ⟨lw_p1, List.forall_mem_cons.mpr ⟨lw_p2, List.forall_mem_cons.mpr ⟨lw_p3, List.forall_mem_cons.mpr ⟨lw_p4, List.forall_mem_cons.mpr ⟨lw_p5, List.forall_mem_cons.mpr ⟨lw_p6, List.forall_mem_cons.mpr ⟨lw_p7, List.forall_mem_cons.mpr ⟨lw_p8, List.forall_mem_cons.mpr ⟨lw_p9, List.forall_mem_cons.mpr ⟨lw_p10, List.forall_mem_cons.mpr ⟨lw_p11, List.forall_mem_cons.mpr ⟨lw_p12, List.forall_mem_cons.mpr ⟨lw_p13, List.forall_mem_cons.mpr ⟨lw_p14, List.forall_mem_cons.mpr ⟨lw_p15, fun _ h => absurd h List.not_mem_nil⟩⟩⟩⟩⟩⟩⟩⟩⟩⟩⟩⟩⟩⟩⟩⟩
theorem lw_p16 : lw_okq (⟨"HumWire$Reader", "readName", "()Z"⟩, 7) := ⟨⟨by decide +kernel, by decide +kernel⟩, List.mem_of_getElem? (i := 146) (by decide +kernel), List.mem_of_getElem? (i := 634) (by decide +kernel), List.mem_of_getElem? (i := 635) (by decide +kernel)⟩
theorem lw_p17 : lw_okq (⟨"HumWire$Reader", "byteHere", "()I"⟩, 7) := ⟨⟨by decide +kernel, by decide +kernel⟩, List.mem_of_getElem? (i := 146) (by decide +kernel), List.mem_of_getElem? (i := 641) (by decide +kernel), List.mem_of_getElem? (i := 642) (by decide +kernel)⟩
theorem lw_p18 : lw_okq (⟨"HumWire$Reader", "isSign", "(C)Z"⟩, 7) := ⟨⟨by decide +kernel, by decide +kernel⟩, List.mem_of_getElem? (i := 146) (by decide +kernel), List.mem_of_getElem? (i := 700) (by decide +kernel), List.mem_of_getElem? (i := 701) (by decide +kernel)⟩
theorem lw_p19 : lw_okq (⟨"HumWire", "hoursToldRight", "(II)I"⟩, 12) := ⟨⟨by decide +kernel, by decide +kernel⟩, List.mem_of_getElem? (i := 18) (by decide +kernel), List.mem_of_getElem? (i := 792) (by decide +kernel), List.mem_of_getElem? (i := 793) (by decide +kernel)⟩
theorem lw_p20 : lw_okq (⟨"HumWireModel", "isWire", "(I)Z"⟩, 37) := ⟨⟨by decide +kernel, by decide +kernel⟩, List.mem_of_getElem? (i := 818) (by decide +kernel), List.mem_of_getElem? (i := 954) (by decide +kernel), List.mem_of_getElem? (i := 955) (by decide +kernel)⟩
theorem lw_p21 : lw_okq (⟨"HumWireModel", "of", "(II)I"⟩, 37) := ⟨⟨by decide +kernel, by decide +kernel⟩, List.mem_of_getElem? (i := 818) (by decide +kernel), List.mem_of_getElem? (i := 958) (by decide +kernel), List.mem_of_getElem? (i := 959) (by decide +kernel)⟩
theorem lw_p22 : lw_okq (⟨"HumWireModel", "loseOf", "(I)I"⟩, 37) := ⟨⟨by decide +kernel, by decide +kernel⟩, List.mem_of_getElem? (i := 818) (by decide +kernel), List.mem_of_getElem? (i := 962) (by decide +kernel), List.mem_of_getElem? (i := 963) (by decide +kernel)⟩
theorem lw_p23 : lw_okq (⟨"HumWireModel", "worthOf", "(I)I"⟩, 37) := ⟨⟨by decide +kernel, by decide +kernel⟩, List.mem_of_getElem? (i := 818) (by decide +kernel), List.mem_of_getElem? (i := 966) (by decide +kernel), List.mem_of_getElem? (i := 967) (by decide +kernel)⟩
theorem lw_p24 : lw_okq (⟨"HumWireModel", "becomes", "(II)I"⟩, 37) := ⟨⟨by decide +kernel, by decide +kernel⟩, List.mem_of_getElem? (i := 818) (by decide +kernel), List.mem_of_getElem? (i := 982) (by decide +kernel), List.mem_of_getElem? (i := 983) (by decide +kernel)⟩
theorem lw_p25 : lw_okq (⟨"HumWireModel", "draw", "()I"⟩, 37) := ⟨⟨by decide +kernel, by decide +kernel⟩, List.mem_of_getElem? (i := 818) (by decide +kernel), List.mem_of_getElem? (i := 1012) (by decide +kernel), List.mem_of_getElem? (i := 1013) (by decide +kernel)⟩
theorem lw_p26 : lw_okq (⟨"HumWireModel", "airOf", "(II)I"⟩, 37) := ⟨⟨by decide +kernel, by decide +kernel⟩, List.mem_of_getElem? (i := 818) (by decide +kernel), List.mem_of_getElem? (i := 1028) (by decide +kernel), List.mem_of_getElem? (i := 1029) (by decide +kernel)⟩
theorem lw_p27 : lw_okq (⟨"HumWireModel", "eddyOf", "(II)I"⟩, 37) := ⟨⟨by decide +kernel, by decide +kernel⟩, List.mem_of_getElem? (i := 818) (by decide +kernel), List.mem_of_getElem? (i := 1032) (by decide +kernel), List.mem_of_getElem? (i := 1033) (by decide +kernel)⟩
theorem lw_p28 : lw_okq (⟨"HumWireModel", "offOf", "(II)I"⟩, 37) := ⟨⟨by decide +kernel, by decide +kernel⟩, List.mem_of_getElem? (i := 818) (by decide +kernel), List.mem_of_getElem? (i := 1036) (by decide +kernel), List.mem_of_getElem? (i := 1037) (by decide +kernel)⟩
theorem lw_p29 : lw_okq (⟨"HumWireModel", "bandOf", "(II)I"⟩, 37) := ⟨⟨by decide +kernel, by decide +kernel⟩, List.mem_of_getElem? (i := 818) (by decide +kernel), List.mem_of_getElem? (i := 1040) (by decide +kernel), List.mem_of_getElem? (i := 1041) (by decide +kernel)⟩
theorem lw_p30 : lw_okq (⟨"HumWireModel", "counts", "(I)I"⟩, 37) := ⟨⟨by decide +kernel, by decide +kernel⟩, List.mem_of_getElem? (i := 818) (by decide +kernel), List.mem_of_getElem? (i := 1044) (by decide +kernel), List.mem_of_getElem? (i := 1045) (by decide +kernel)⟩
theorem lw_p31 : lw_okq (⟨"HumWireModel", "worksOut", "(I)I"⟩, 37) := ⟨⟨by decide +kernel, by decide +kernel⟩, List.mem_of_getElem? (i := 818) (by decide +kernel), List.mem_of_getElem? (i := 1048) (by decide +kernel), List.mem_of_getElem? (i := 1049) (by decide +kernel)⟩
def lw_privs_2 : List (MethodName × Nat) := [(⟨"HumWire$Reader", "readName", "()Z"⟩, 7), (⟨"HumWire$Reader", "byteHere", "()I"⟩, 7), (⟨"HumWire$Reader", "isSign", "(C)Z"⟩, 7), (⟨"HumWire", "hoursToldRight", "(II)I"⟩, 12), (⟨"HumWireModel", "isWire", "(I)Z"⟩, 37), (⟨"HumWireModel", "of", "(II)I"⟩, 37), (⟨"HumWireModel", "loseOf", "(I)I"⟩, 37), (⟨"HumWireModel", "worthOf", "(I)I"⟩, 37), (⟨"HumWireModel", "becomes", "(II)I"⟩, 37), (⟨"HumWireModel", "draw", "()I"⟩, 37), (⟨"HumWireModel", "airOf", "(II)I"⟩, 37), (⟨"HumWireModel", "eddyOf", "(II)I"⟩, 37), (⟨"HumWireModel", "offOf", "(II)I"⟩, 37), (⟨"HumWireModel", "bandOf", "(II)I"⟩, 37), (⟨"HumWireModel", "counts", "(I)I"⟩, 37), (⟨"HumWireModel", "worksOut", "(I)I"⟩, 37)]
theorem lw_r2 : ∀ q ∈ lw_privs_2, lw_okq q := List.forall_mem_cons.mpr ⟨lw_p16, List.forall_mem_cons.mpr ⟨lw_p17, List.forall_mem_cons.mpr ⟨lw_p18, List.forall_mem_cons.mpr ⟨lw_p19, List.forall_mem_cons.mpr ⟨lw_p20, List.forall_mem_cons.mpr ⟨lw_p21, List.forall_mem_cons.mpr ⟨lw_p22, List.forall_mem_cons.mpr ⟨lw_p23, List.forall_mem_cons.mpr ⟨lw_p24, List.forall_mem_cons.mpr ⟨lw_p25, List.forall_mem_cons.mpr ⟨lw_p26, List.forall_mem_cons.mpr ⟨lw_p27, List.forall_mem_cons.mpr ⟨lw_p28, List.forall_mem_cons.mpr ⟨lw_p29, List.forall_mem_cons.mpr ⟨lw_p30, List.forall_mem_cons.mpr ⟨lw_p31, fun _ h => absurd h List.not_mem_nil⟩⟩⟩⟩⟩⟩⟩⟩⟩⟩⟩⟩⟩⟩⟩⟩
theorem lw_p32 : lw_okq (⟨"HumWireModel", "growsOf", "(II)I"⟩, 37) := ⟨⟨by decide +kernel, by decide +kernel⟩, List.mem_of_getElem? (i := 818) (by decide +kernel), List.mem_of_getElem? (i := 1055) (by decide +kernel), List.mem_of_getElem? (i := 1056) (by decide +kernel)⟩
theorem lw_p33 : lw_okq (⟨"HumWireModel", "isHeldBy", "(II)Z"⟩, 37) := ⟨⟨by decide +kernel, by decide +kernel⟩, List.mem_of_getElem? (i := 818) (by decide +kernel), List.mem_of_getElem? (i := 1059) (by decide +kernel), List.mem_of_getElem? (i := 1060) (by decide +kernel)⟩
theorem lw_p34 : lw_okq (⟨"HumWireModel", "ticks", "(II)I"⟩, 37) := ⟨⟨by decide +kernel, by decide +kernel⟩, List.mem_of_getElem? (i := 818) (by decide +kernel), List.mem_of_getElem? (i := 1067) (by decide +kernel), List.mem_of_getElem? (i := 1068) (by decide +kernel)⟩
theorem lw_p35 : lw_okq (⟨"HumWireModel", "anHour", "()V"⟩, 37) := ⟨⟨by decide +kernel, by decide +kernel⟩, List.mem_of_getElem? (i := 818) (by decide +kernel), List.mem_of_getElem? (i := 1075) (by decide +kernel), List.mem_of_getElem? (i := 1076) (by decide +kernel)⟩
theorem lw_p36 : lw_okq (⟨"HumWireModel", "thinks", "(I)V"⟩, 37) := ⟨⟨by decide +kernel, by decide +kernel⟩, List.mem_of_getElem? (i := 818) (by decide +kernel), List.mem_of_getElem? (i := 1083) (by decide +kernel), List.mem_of_getElem? (i := 1084) (by decide +kernel)⟩
theorem lw_p37 : lw_okq (⟨"HumWireModel", "putsBack", "(I)V"⟩, 37) := ⟨⟨by decide +kernel, by decide +kernel⟩, List.mem_of_getElem? (i := 818) (by decide +kernel), List.mem_of_getElem? (i := 1088) (by decide +kernel), List.mem_of_getElem? (i := 1089) (by decide +kernel)⟩
theorem lw_p38 : lw_okq (⟨"HumWireModel", "findDay", "(I)V"⟩, 37) := ⟨⟨by decide +kernel, by decide +kernel⟩, List.mem_of_getElem? (i := 818) (by decide +kernel), List.mem_of_getElem? (i := 1096) (by decide +kernel), List.mem_of_getElem? (i := 1097) (by decide +kernel)⟩
theorem lw_p39 : lw_okq (⟨"HumWireModel", "go", "()V"⟩, 37) := ⟨⟨by decide +kernel, by decide +kernel⟩, List.mem_of_getElem? (i := 818) (by decide +kernel), List.mem_of_getElem? (i := 1129) (by decide +kernel), List.mem_of_getElem? (i := 1130) (by decide +kernel)⟩
theorem lw_p40 : lw_okq (⟨"HumWireModel", "isLetter", "(I)Z"⟩, 37) := ⟨⟨by decide +kernel, by decide +kernel⟩, List.mem_of_getElem? (i := 818) (by decide +kernel), List.mem_of_getElem? (i := 1133) (by decide +kernel), List.mem_of_getElem? (i := 1134) (by decide +kernel)⟩
theorem lw_p41 : lw_okq (⟨"HumWireModel", "isFigure", "(I)Z"⟩, 37) := ⟨⟨by decide +kernel, by decide +kernel⟩, List.mem_of_getElem? (i := 818) (by decide +kernel), List.mem_of_getElem? (i := 1137) (by decide +kernel), List.mem_of_getElem? (i := 1138) (by decide +kernel)⟩
theorem lw_p42 : lw_okq (⟨"HumWireModel", "takesKey", "()Z"⟩, 37) := ⟨⟨by decide +kernel, by decide +kernel⟩, List.mem_of_getElem? (i := 818) (by decide +kernel), List.mem_of_getElem? (i := 1141) (by decide +kernel), List.mem_of_getElem? (i := 1142) (by decide +kernel)⟩
theorem lw_p43 : lw_okq (⟨"HumWireModel", "takesE", "()Z"⟩, 37) := ⟨⟨by decide +kernel, by decide +kernel⟩, List.mem_of_getElem? (i := 818) (by decide +kernel), List.mem_of_getElem? (i := 1145) (by decide +kernel), List.mem_of_getElem? (i := 1146) (by decide +kernel)⟩
theorem lw_p44 : lw_okq (⟨"HumWireModel", "takesPart", "()Z"⟩, 37) := ⟨⟨by decide +kernel, by decide +kernel⟩, List.mem_of_getElem? (i := 818) (by decide +kernel), List.mem_of_getElem? (i := 1149) (by decide +kernel), List.mem_of_getElem? (i := 1150) (by decide +kernel)⟩
theorem lw_p45 : lw_okq (⟨"HumWireModel", "nameOf", "(I)I"⟩, 37) := ⟨⟨by decide +kernel, by decide +kernel⟩, List.mem_of_getElem? (i := 818) (by decide +kernel), List.mem_of_getElem? (i := 1153) (by decide +kernel), List.mem_of_getElem? (i := 1154) (by decide +kernel)⟩
theorem lw_p46 : lw_okq (⟨"HumWireModel", "settle", "(I)V"⟩, 37) := ⟨⟨by decide +kernel, by decide +kernel⟩, List.mem_of_getElem? (i := 818) (by decide +kernel), List.mem_of_getElem? (i := 1157) (by decide +kernel), List.mem_of_getElem? (i := 1158) (by decide +kernel)⟩
theorem lw_p47 : lw_okq (⟨"HumWireModel", "notsOpen", "()I"⟩, 37) := ⟨⟨by decide +kernel, by decide +kernel⟩, List.mem_of_getElem? (i := 818) (by decide +kernel), List.mem_of_getElem? (i := 1164) (by decide +kernel), List.mem_of_getElem? (i := 1165) (by decide +kernel)⟩
def lw_privs_3 : List (MethodName × Nat) := [(⟨"HumWireModel", "growsOf", "(II)I"⟩, 37), (⟨"HumWireModel", "isHeldBy", "(II)Z"⟩, 37), (⟨"HumWireModel", "ticks", "(II)I"⟩, 37), (⟨"HumWireModel", "anHour", "()V"⟩, 37), (⟨"HumWireModel", "thinks", "(I)V"⟩, 37), (⟨"HumWireModel", "putsBack", "(I)V"⟩, 37), (⟨"HumWireModel", "findDay", "(I)V"⟩, 37), (⟨"HumWireModel", "go", "()V"⟩, 37), (⟨"HumWireModel", "isLetter", "(I)Z"⟩, 37), (⟨"HumWireModel", "isFigure", "(I)Z"⟩, 37), (⟨"HumWireModel", "takesKey", "()Z"⟩, 37), (⟨"HumWireModel", "takesE", "()Z"⟩, 37), (⟨"HumWireModel", "takesPart", "()Z"⟩, 37), (⟨"HumWireModel", "nameOf", "(I)I"⟩, 37), (⟨"HumWireModel", "settle", "(I)V"⟩, 37), (⟨"HumWireModel", "notsOpen", "()I"⟩, 37)]
theorem lw_r3 : ∀ q ∈ lw_privs_3, lw_okq q := List.forall_mem_cons.mpr ⟨lw_p32, List.forall_mem_cons.mpr ⟨lw_p33, List.forall_mem_cons.mpr ⟨lw_p34, List.forall_mem_cons.mpr ⟨lw_p35, List.forall_mem_cons.mpr ⟨lw_p36, List.forall_mem_cons.mpr ⟨lw_p37, List.forall_mem_cons.mpr ⟨lw_p38, List.forall_mem_cons.mpr ⟨lw_p39, List.forall_mem_cons.mpr ⟨lw_p40, List.forall_mem_cons.mpr ⟨lw_p41, List.forall_mem_cons.mpr ⟨lw_p42, List.forall_mem_cons.mpr ⟨lw_p43, List.forall_mem_cons.mpr ⟨lw_p44, List.forall_mem_cons.mpr ⟨lw_p45, List.forall_mem_cons.mpr ⟨lw_p46, List.forall_mem_cons.mpr ⟨lw_p47, fun _ h => absurd h List.not_mem_nil⟩⟩⟩⟩⟩⟩⟩⟩⟩⟩⟩⟩⟩⟩⟩⟩
theorem lw_p48 : lw_okq (⟨"HumWireModel", "signHere", "()I"⟩, 37) := ⟨⟨by decide +kernel, by decide +kernel⟩, List.mem_of_getElem? (i := 818) (by decide +kernel), List.mem_of_getElem? (i := 1168) (by decide +kernel), List.mem_of_getElem? (i := 1169) (by decide +kernel)⟩
theorem lw_p49 : lw_okq (⟨"HumWireModel", "rightHours", "(III)I"⟩, 37) := ⟨⟨by decide +kernel, by decide +kernel⟩, List.mem_of_getElem? (i := 818) (by decide +kernel), List.mem_of_getElem? (i := 1242) (by decide +kernel), List.mem_of_getElem? (i := 1243) (by decide +kernel)⟩
def lw_privs_4 : List (MethodName × Nat) := [(⟨"HumWireModel", "signHere", "()I"⟩, 37), (⟨"HumWireModel", "rightHours", "(III)I"⟩, 37)]
theorem lw_r4 : ∀ q ∈ lw_privs_4, lw_okq q := List.forall_mem_cons.mpr ⟨lw_p48, List.forall_mem_cons.mpr ⟨lw_p49, fun _ h => absurd h List.not_mem_nil⟩⟩
def lw_privs : List (MethodName × Nat) := lw_privs_1 ++ (lw_privs_2 ++ (lw_privs_3 ++ (lw_privs_4)))
def lw_tbl : List Cond := k2_sels lw_privs ++ tables_1
theorem lw_privs_ok : ∀ q ∈ lw_privs, lw_okq q := by
  show ∀ q ∈ lw_privs_1 ++ (lw_privs_2 ++ (lw_privs_3 ++ (lw_privs_4))), lw_okq q
  exact List.forall_mem_append.mpr ⟨lw_r1, List.forall_mem_append.mpr ⟨lw_r2, List.forall_mem_append.mpr ⟨lw_r3, lw_r4⟩⟩⟩
end
section
/-! ===== BEGIN words of one list among another's, by their places ===== -/
theorem goodIn_r {big : List Cond} (ws : List Cond) (ps : List Nat) (hp : ws = ps.filterMap (fun i => big[i]?)) (h : ws.all goodWord = true) : GoodIn big ws := by
  intro w hw
  have h1 := List.all_eq_true.mp h w hw
  rw [hp] at hw
  obtain ⟨i, -, hi⟩ := List.mem_filterMap.mp hw
  have hm : w ∈ big := by first | exact List.mem_of_getElem? hi | exact List.getElem?_mem hi
  exact ⟨hm, good_of_word h1⟩
theorem goodIn_app {big a b : List Cond} (ha : GoodIn big a) (hb : GoodIn big b) : GoodIn big (a ++ b) := fun w h => (List.mem_append.mp h).elim (ha w) (hb w)
theorem goodIn_ca {big a b : List Cond} {c : Cond} (ha : GoodIn big (c :: a)) (hb : GoodIn big b) : GoodIn big (c :: (a ++ b)) := fun w h => (List.mem_cons.mp h).elim (fun e => ha w (List.mem_cons.mpr (Or.inl e))) (fun h => (List.mem_append.mp h).elim (fun h => ha w (List.mem_cons.mpr (Or.inr h))) (hb w))
theorem goodIn_sub {big ws : List Cond} (hm : ∀ w ∈ ws, w ∈ big) (h : ws.all goodWord = true) : GoodIn big ws := fun w hw => ⟨hm w hw, good_of_word (List.all_eq_true.mp h w hw)⟩
/-! ===== END ===== -/

/-! ===== BEGIN printed: names, fields, word lists, decode rows ===== -/
def RX0 : String := "HumWire$Law"
def TX0 : u_T := fun k => match k with
  | 0 => ("HumWire$Law", "key", "I", false)
  | 1 => ("HumWire$Law", "leaves", "I", false)
  | 2 => ("HumWire$Law", "code", "[I", true)
  | _ => ("HumWire$Law", "size", "I", false)
def tyX0 : Nat → FieldType := fun k => match k with
  | 0 => .int
  | 1 => .int
  | 2 => .array .int
  | _ => .int
abbrev wsX00 : List Cond := u_ws RX0 TX0 4
theorem nmX0 : ∀ a, a < 4 → ∀ b, b < 4 → a ≠ b → (TX0 a).2.1 ≠ (TX0 b).2.1 := by decide +kernel
theorem tyX0_ok : ∀ k, k < 4 → parseFieldDescriptor (TX0 k).2.2.1 = some (tyX0 k) := by decide +kernel
abbrev cX0_init : ByteArray := prog_2_method_1_code
def yX0_init : MethodName := ⟨RX0, "<init>", "()V"⟩
abbrev cX0_begin : ByteArray := prog_2_method_2_code
def yX0_begin : MethodName := ⟨RX0, "begin", "(I)V"⟩
abbrev cX0_putLeaf : ByteArray := prog_2_method_3_code
def yX0_putLeaf : MethodName := ⟨RX0, "putLeaf", "(I)V"⟩
abbrev cX0_putSign : ByteArray := prog_2_method_4_code
def yX0_putSign : MethodName := ⟨RX0, "putSign", "(I)V"⟩
abbrev cX0_put : ByteArray := prog_2_method_5_code
def yX0_put : MethodName := ⟨RX0, "put", "(I)V"⟩
abbrev cX0_gives : ByteArray := prog_2_method_6_code
def yX0_gives : MethodName := ⟨RX0, "gives", "(III[I)I"⟩
abbrev cX0_joined : ByteArray := prog_2_method_7_code
def yX0_joined : MethodName := ⟨RX0, "joined", "(III)I"⟩
def RX1 : String := "HumWire$Reader"
def TX1 : u_T := fun k => match k with
  | 0 => ("HumWire$Reader", "bytes", "[B", false)
  | 1 => ("HumWire$Reader", "size", "I", false)
  | 2 => ("HumWire$Reader", "law", "LHumWire$Law;", false)
  | 3 => ("HumWire$Reader", "sort", "I", false)
  | 4 => ("HumWire$Reader", "needsBlank", "Z", false)
  | 5 => ("HumWire$Reader", "to", "I", false)
  | _ => ("HumWire$Reader", "from", "I", false)
def tyX1 : Nat → FieldType := fun k => match k with
  | 0 => .array .byte
  | 1 => .int
  | 2 => .object "HumWire$Law"
  | 3 => .int
  | 4 => .boolean
  | 5 => .int
  | _ => .int
abbrev wsX10 : List Cond := u_ws RX1 TX1 7
theorem nmX1 : ∀ a, a < 7 → ∀ b, b < 7 → a ≠ b → (TX1 a).2.1 ≠ (TX1 b).2.1 := by decide +kernel
theorem tyX1_ok : ∀ k, k < 7 → parseFieldDescriptor (TX1 k).2.2.1 = some (tyX1 k) := by decide +kernel
abbrev cX1_init : ByteArray := prog_3_method_1_code
def yX1_init : MethodName := ⟨RX1, "<init>", "(LHumWire$Law;)V"⟩
abbrev cX1_takesIn : ByteArray := prog_3_method_2_code
def yX1_takesIn : MethodName := ⟨RX1, "takesIn", "([BILHumWire$Law;)Z"⟩
abbrev cX1_step : ByteArray := prog_3_method_3_code
def yX1_step : MethodName := ⟨RX1, "step", "()V"⟩
abbrev cX1_sortAt : ByteArray := prog_3_method_4_code
def yX1_sortAt : MethodName := ⟨RX1, "sortAt", "(I)I"⟩
abbrev cX1_isSign : ByteArray := prog_3_method_5_code
def yX1_isSign : MethodName := ⟨RX1, "isSign", "(C)Z"⟩
abbrev cX1_byteHere : ByteArray := prog_3_method_6_code
def yX1_byteHere : MethodName := ⟨RX1, "byteHere", "()I"⟩
abbrev cX1_keyHere : ByteArray := prog_3_method_7_code
def yX1_keyHere : MethodName := ⟨RX1, "keyHere", "()I"⟩
abbrev cX1_isWord : ByteArray := prog_3_method_8_code
def yX1_isWord : MethodName := ⟨RX1, "isWord", "(Ljava/lang/String;)Z"⟩
abbrev cX1_readOr : ByteArray := prog_3_method_9_code
def yX1_readOr : MethodName := ⟨RX1, "readOr", "(II)Z"⟩
abbrev cX1_readAnd : ByteArray := prog_3_method_10_code
def yX1_readAnd : MethodName := ⟨RX1, "readAnd", "(II)Z"⟩
abbrev cX1_readTest : ByteArray := prog_3_method_11_code
def yX1_readTest : MethodName := ⟨RX1, "readTest", "(II)Z"⟩
abbrev cX1_readSum : ByteArray := prog_3_method_12_code
def yX1_readSum : MethodName := ⟨RX1, "readSum", "(II)Z"⟩
abbrev cX1_readTerm : ByteArray := prog_3_method_13_code
def yX1_readTerm : MethodName := ⟨RX1, "readTerm", "(II)Z"⟩
abbrev cX1_readPiece : ByteArray := prog_3_method_14_code
def yX1_readPiece : MethodName := ⟨RX1, "readPiece", "(II)Z"⟩
abbrev cX1_readNumber : ByteArray := prog_3_method_15_code
def yX1_readNumber : MethodName := ⟨RX1, "readNumber", "()Z"⟩
abbrev cX1_readName : ByteArray := prog_3_method_16_code
def yX1_readName : MethodName := ⟨RX1, "readName", "()Z"⟩
def RX2 : String := "HumWire$Scene"
def TX2 : u_T := fun k => match k with
  | 0 => ("HumWire$Scene", "laws", "[LHumWire$Law;", true)
  | 1 => ("HumWire$Scene", "stack", "[I", true)
  | 2 => ("HumWire$Scene", "winds", "[I", true)
  | 3 => ("HumWire$Scene", "wires", "[LHumWire$Wire;", true)
  | 4 => ("HumWire$Scene", "newest", "[I", true)
  | 5 => ("HumWire$Scene", "textCount", "I", false)
  | 6 => ("HumWire$Scene", "wireCount", "I", false)
  | 7 => ("HumWire$Scene", "hour", "I", false)
  | 8 => ("HumWire$Scene", "limit", "I", false)
  | _ => ("HumWire$Scene", "z", "I", false)
def tyX2 : Nat → FieldType := fun k => match k with
  | 0 => .array (.object "HumWire$Law")
  | 1 => .array .int
  | 2 => .array .int
  | 3 => .array (.object "HumWire$Wire")
  | 4 => .array .int
  | 5 => .int
  | 6 => .int
  | 7 => .int
  | 8 => .int
  | _ => .int
abbrev wsX20 : List Cond := u_ws RX2 TX2 10
theorem nmX2 : ∀ a, a < 10 → ∀ b, b < 10 → a ≠ b → (TX2 a).2.1 ≠ (TX2 b).2.1 := by decide +kernel
theorem tyX2_ok : ∀ k, k < 10 → parseFieldDescriptor (TX2 k).2.2.1 = some (tyX2 k) := by decide +kernel
abbrev cX2_init : ByteArray := prog_4_method_1_code
def yX2_init : MethodName := ⟨RX2, "<init>", "([LHumWire$Law;[I)V"⟩
abbrev cX2_become : ByteArray := prog_4_method_2_code
def yX2_become : MethodName := ⟨RX2, "become", "(LHumWire$Scene;)V"⟩
abbrev cX2_wireAt : ByteArray := prog_4_method_3_code
def yX2_wireAt : MethodName := ⟨RX2, "wireAt", "(I)LHumWire$Wire;"⟩
abbrev cX2_heldCount : ByteArray := prog_4_method_4_code
def yX2_heldCount : MethodName := ⟨RX2, "heldCount", "()I"⟩
abbrev cX2_windIn : ByteArray := prog_4_method_5_code
def yX2_windIn : MethodName := ⟨RX2, "windIn", "(I)I"⟩
abbrev cX2_drawWind : ByteArray := prog_4_method_6_code
def yX2_drawWind : MethodName := ⟨RX2, "drawWind", "(I)I"⟩
abbrev cX2_passHour : ByteArray := prog_4_method_7_code
def yX2_passHour : MethodName := ⟨RX2, "passHour", "()V"⟩
abbrev cX2_lawOf : ByteArray := prog_4_method_8_code
def yX2_lawOf : MethodName := ⟨RX2, "lawOf", "(I)LHumWire$Law;"⟩
abbrev cX2_bandOf : ByteArray := prog_4_method_9_code
def yX2_bandOf : MethodName := ⟨RX2, "bandOf", "(LHumWire$Wire;I)I"⟩
abbrev cX2_growth : ByteArray := prog_4_method_10_code
def yX2_growth : MethodName := ⟨RX2, "growth", "(LHumWire$Wire;I)I"⟩
abbrev cX2_tiring : ByteArray := prog_4_method_11_code
def yX2_tiring : MethodName := ⟨RX2, "tiring", "(LHumWire$Wire;)I"⟩
abbrev cX2_holds : ByteArray := prog_4_method_12_code
def yX2_holds : MethodName := ⟨RX2, "holds", "(LHumWire$Wire;I)Z"⟩
abbrev cX2_blowOn : ByteArray := prog_4_method_13_code
def yX2_blowOn : MethodName := ⟨RX2, "blowOn", "(LHumWire$Wire;I)I"⟩
def RX3 : String := "HumWire$Sheet"
def TX3 : u_T := fun k => match k with
  | 0 => ("HumWire$Sheet", "sort", "I", false)
  | 1 => ("HumWire$Sheet", "places", "I", false)
  | _ => ("HumWire$Sheet", "numbers", "[I", true)
def tyX3 : Nat → FieldType := fun k => match k with
  | 0 => .int
  | 1 => .int
  | _ => .array .int
abbrev wsX30 : List Cond := u_ws RX3 TX3 3
theorem nmX3 : ∀ a, a < 3 → ∀ b, b < 3 → a ≠ b → (TX3 a).2.1 ≠ (TX3 b).2.1 := by decide +kernel
theorem tyX3_ok : ∀ k, k < 3 → parseFieldDescriptor (TX3 k).2.2.1 = some (tyX3 k) := by decide +kernel
abbrev cX3_init : ByteArray := prog_5_method_1_code
def yX3_init : MethodName := ⟨RX3, "<init>", "()V"⟩
abbrev cX3_begin : ByteArray := prog_5_method_2_code
def yX3_begin : MethodName := ⟨RX3, "begin", "(II)V"⟩
abbrev cX3_become : ByteArray := prog_5_method_3_code
def yX3_become : MethodName := ⟨RX3, "become", "(LHumWire$Sheet;)V"⟩
abbrev cX3_isMissing : ByteArray := prog_5_method_4_code
def yX3_isMissing : MethodName := ⟨RX3, "isMissing", "()Z"⟩
abbrev cX3_hasPlace : ByteArray := prog_5_method_5_code
def yX3_hasPlace : MethodName := ⟨RX3, "hasPlace", "(I)Z"⟩
abbrev cX3_hasPlaces : ByteArray := prog_5_method_6_code
def yX3_hasPlaces : MethodName := ⟨RX3, "hasPlaces", "(II)Z"⟩
abbrev cX3_hasNumber : ByteArray := prog_5_method_7_code
def yX3_hasNumber : MethodName := ⟨RX3, "hasNumber", "(I)Z"⟩
def RX4 : String := "HumWire$Slot"
def TX4 : u_T := fun k => match k with
  | 0 => ("HumWire$Slot", "thing", "I", false)
  | 1 => ("HumWire$Slot", "number", "I", false)
  | 2 => ("HumWire$Slot", "wire", "LHumWire$Wire;", true)
  | _ => ("HumWire$Slot", "sheet", "LHumWire$Sheet;", true)
def tyX4 : Nat → FieldType := fun k => match k with
  | 0 => .int
  | 1 => .int
  | 2 => .object "HumWire$Wire"
  | _ => .object "HumWire$Sheet"
abbrev wsX40 : List Cond := u_ws RX4 TX4 4
theorem nmX4 : ∀ a, a < 4 → ∀ b, b < 4 → a ≠ b → (TX4 a).2.1 ≠ (TX4 b).2.1 := by decide +kernel
theorem tyX4_ok : ∀ k, k < 4 → parseFieldDescriptor (TX4 k).2.2.1 = some (tyX4 k) := by decide +kernel
abbrev cX4_init : ByteArray := prog_6_method_1_code
def yX4_init : MethodName := ⟨RX4, "<init>", "()V"⟩
abbrev cX4_findingFor : ByteArray := prog_6_method_2_code
def yX4_findingFor : MethodName := ⟨RX4, "findingFor", "(I)I"⟩
def RX5 : String := "HumWire$Wire"
def TX5 : u_T := fun k => match k with
  | 0 => ("HumWire$Wire", "kind", "I", false)
  | 1 => ("HumWire$Wire", "thick", "I", false)
  | 2 => ("HumWire$Wire", "own", "I", false)
  | 3 => ("HumWire$Wire", "loss", "I", false)
  | 4 => ("HumWire$Wire", "swing", "I", false)
  | 5 => ("HumWire$Wire", "held", "Z", false)
  | _ => ("HumWire$Wire", "tired", "I", false)
def tyX5 : Nat → FieldType := fun k => match k with
  | 0 => .int
  | 1 => .int
  | 2 => .int
  | 3 => .int
  | 4 => .int
  | 5 => .boolean
  | _ => .int
abbrev wsX50 : List Cond := u_ws RX5 TX5 7
theorem nmX5 : ∀ a, a < 7 → ∀ b, b < 7 → a ≠ b → (TX5 a).2.1 ≠ (TX5 b).2.1 := by decide +kernel
theorem tyX5_ok : ∀ k, k < 7 → parseFieldDescriptor (TX5 k).2.2.1 = some (tyX5 k) := by decide +kernel
abbrev cX5_init : ByteArray := prog_7_method_1_code
def yX5_init : MethodName := ⟨RX5, "<init>", "()V"⟩
abbrev cX5_begin : ByteArray := prog_7_method_2_code
def yX5_begin : MethodName := ⟨RX5, "begin", "(III)V"⟩
abbrev cX5_become : ByteArray := prog_7_method_3_code
def yX5_become : MethodName := ⟨RX5, "become", "(LHumWire$Wire;)V"⟩
abbrev cX5_change : ByteArray := prog_7_method_4_code
def yX5_change : MethodName := ⟨RX5, "change", "(II)I"⟩
abbrev cX5_air : ByteArray := prog_7_method_5_code
def yX5_air : MethodName := ⟨RX5, "air", "(I)I"⟩
abbrev cX5_eddy : ByteArray := prog_7_method_6_code
def yX5_eddy : MethodName := ⟨RX5, "eddy", "(I)I"⟩
abbrev cX5_off : ByteArray := prog_7_method_7_code
def yX5_off : MethodName := ⟨RX5, "off", "(I)I"⟩
abbrev cX5_bandOutOf : ByteArray := prog_7_method_8_code
def yX5_bandOutOf : MethodName := ⟨RX5, "bandOutOf", "(I)I"⟩
abbrev cX5_loses : ByteArray := prog_7_method_9_code
def yX5_loses : MethodName := ⟨RX5, "loses", "()I"⟩
abbrev cX5_worth : ByteArray := prog_7_method_10_code
def yX5_worth : MethodName := ⟨RX5, "worth", "()I"⟩
def RX6 : String := "HumWire"
def TX6 : u_T := fun k => match k with
  | 0 => ("HumWire", "laws", "[LHumWire$Law;", true)
  | 1 => ("HumWire", "now", "LHumWire$Scene;", true)
  | 2 => ("HumWire", "image", "LHumWire$Scene;", true)
  | 3 => ("HumWire", "imageKept", "Z", false)
  | 4 => ("HumWire", "thought", "LHumWire$Wire;", true)
  | 5 => ("HumWire", "tape", "[B", true)
  | 6 => ("HumWire", "tapeBytes", "I", false)
  | 7 => ("HumWire", "reader", "LHumWire$Reader;", true)
  | 8 => ("HumWire", "sheets", "[LHumWire$Sheet;", true)
  | 9 => ("HumWire", "slots", "[LHumWire$Slot;", true)
  | 10 => ("HumWire", "waiting", "[I", true)
  | _ => ("HumWire", "waitingCount", "I", false)
def tyX6 : Nat → FieldType := fun k => match k with
  | 0 => .array (.object "HumWire$Law")
  | 1 => .object "HumWire$Scene"
  | 2 => .object "HumWire$Scene"
  | 3 => .boolean
  | 4 => .object "HumWire$Wire"
  | 5 => .array .byte
  | 6 => .int
  | 7 => .object "HumWire$Reader"
  | 8 => .array (.object "HumWire$Sheet")
  | 9 => .array (.object "HumWire$Slot")
  | 10 => .array .int
  | _ => .int
abbrev wsX60 : List Cond := u_ws RX6 TX6 12
theorem nmX6 : ∀ a, a < 12 → ∀ b, b < 12 → a ≠ b → (TX6 a).2.1 ≠ (TX6 b).2.1 := by decide +kernel
theorem tyX6_ok : ∀ k, k < 12 → parseFieldDescriptor (TX6 k).2.2.1 = some (tyX6 k) := by decide +kernel
abbrev cX6_init : ByteArray := prog_1_method_1_code
def yX6_init : MethodName := ⟨RX6, "<init>", "()V"⟩
abbrev cX6_wire : ByteArray := prog_1_method_2_code
def yX6_wire : MethodName := ⟨RX6, "wire", "(III)I"⟩
abbrev cX6_told : ByteArray := prog_1_method_3_code
def yX6_told : MethodName := ⟨RX6, "told", "(II)I"⟩
abbrev cX6_as : ByteArray := prog_1_method_4_code
def yX6_as : MethodName := ⟨RX6, "as", "(II)I"⟩
abbrev cX6_turns : ByteArray := prog_1_method_5_code
def yX6_turns : MethodName := ⟨RX6, "turns", "(II)I"⟩
abbrev cX6_set : ByteArray := prog_1_method_6_code
def yX6_set : MethodName := ⟨RX6, "set", "(III)I"⟩
abbrev cX6_wind : ByteArray := prog_1_method_7_code
def yX6_wind : MethodName := ⟨RX6, "wind", "(II)I"⟩
abbrev cX6_windAt : ByteArray := prog_1_method_8_code
def yX6_windAt : MethodName := ⟨RX6, "windAt", "(I)I"⟩
abbrev cX6_limit : ByteArray := prog_1_method_9_code
def yX6_limit : MethodName := ⟨RX6, "limit", "(I)I"⟩
abbrev cX6_deal : ByteArray := prog_1_method_10_code
def yX6_deal : MethodName := ⟨RX6, "deal", "(II)I"⟩
abbrev cX6_seed : ByteArray := prog_1_method_11_code
def yX6_seed : MethodName := ⟨RX6, "seed", "(I)I"⟩
abbrev cX6_by : ByteArray := prog_1_method_12_code
def yX6_by : MethodName := ⟨RX6, "by", "(III)I"⟩
abbrev cX6_tick : ByteArray := prog_1_method_13_code
def yX6_tick : MethodName := ⟨RX6, "tick", "(II)I"⟩
abbrev cX6_run : ByteArray := prog_1_method_14_code
def yX6_run : MethodName := ⟨RX6, "run", "(I)I"⟩
abbrev cX6_line : ByteArray := prog_1_method_15_code
def yX6_line : MethodName := ⟨RX6, "line", "(II)I"⟩
abbrev cX6_day : ByteArray := prog_1_method_16_code
def yX6_day : MethodName := ⟨RX6, "day", "(II)I"⟩
abbrev cX6_life : ByteArray := prog_1_method_17_code
def yX6_life : MethodName := ⟨RX6, "life", "(II)I"⟩
abbrev cX6_harp : ByteArray := prog_1_method_18_code
def yX6_harp : MethodName := ⟨RX6, "harp", "(II)I"⟩
abbrev cX6_lumps : ByteArray := prog_1_method_19_code
def yX6_lumps : MethodName := ⟨RX6, "lumps", "(II)I"⟩
abbrev cX6_blown : ByteArray := prog_1_method_20_code
def yX6_blown : MethodName := ⟨RX6, "blown", "(III)I"⟩
abbrev cX6_heard : ByteArray := prog_1_method_21_code
def yX6_heard : MethodName := ⟨RX6, "heard", "(I)I"⟩
abbrev cX6_feed : ByteArray := prog_1_method_22_code
def yX6_feed : MethodName := ⟨RX6, "feed", "(III)I"⟩
abbrev cX6_trim : ByteArray := prog_1_method_23_code
def yX6_trim : MethodName := ⟨RX6, "trim", "(I)I"⟩
abbrev cX6_text : ByteArray := prog_1_method_24_code
def yX6_text : MethodName := ⟨RX6, "text", "()I"⟩
abbrev cX6_textTold : ByteArray := prog_1_method_25_code
def yX6_textTold : MethodName := ⟨RX6, "textTold", "(II)I"⟩
abbrev cX6_why : ByteArray := prog_1_method_26_code
def yX6_why : MethodName := ⟨RX6, "why", "(I)I"⟩
abbrev cX6_sheet : ByteArray := prog_1_method_27_code
def yX6_sheet : MethodName := ⟨RX6, "sheet", "(III)I"⟩
abbrev cX6_mark : ByteArray := prog_1_method_28_code
def yX6_mark : MethodName := ⟨RX6, "mark", "(III)I"⟩
abbrev cX6_pour : ByteArray := prog_1_method_29_code
def yX6_pour : MethodName := ⟨RX6, "pour", "(I)I"⟩
abbrev cX6_reads : ByteArray := prog_1_method_30_code
def yX6_reads : MethodName := ⟨RX6, "reads", "(II)I"⟩
abbrev cX6_copy : ByteArray := prog_1_method_31_code
def yX6_copy : MethodName := ⟨RX6, "copy", "(IIIII)I"⟩
abbrev cX6_lay : ByteArray := prog_1_method_32_code
def yX6_lay : MethodName := ⟨RX6, "lay", "(III)I"⟩
abbrev cX6_ask : ByteArray := prog_1_method_33_code
def yX6_ask : MethodName := ⟨RX6, "ask", "(II)I"⟩
abbrev cX6_item : ByteArray := prog_1_method_34_code
def yX6_item : MethodName := ⟨RX6, "item", "(II)I"⟩
abbrev cX6_rest : ByteArray := prog_1_method_35_code
def yX6_rest : MethodName := ⟨RX6, "rest", "(II)I"⟩
abbrev cX6_tell : ByteArray := prog_1_method_36_code
def yX6_tell : MethodName := ⟨RX6, "tell", "(I)I"⟩
abbrev cX6_check : ByteArray := prog_1_method_37_code
def yX6_check : MethodName := ⟨RX6, "check", "(II)I"⟩
abbrev cX6_keep : ByteArray := prog_1_method_38_code
def yX6_keep : MethodName := ⟨RX6, "keep", "()I"⟩
abbrev cX6_back : ByteArray := prog_1_method_39_code
def yX6_back : MethodName := ⟨RX6, "back", "()I"⟩
abbrev cX6_count : ByteArray := prog_1_method_40_code
def yX6_count : MethodName := ⟨RX6, "count", "(I)I"⟩
abbrev cX6_isWithin : ByteArray := prog_1_method_41_code
def yX6_isWithin : MethodName := ⟨RX6, "isWithin", "(III)Z"⟩
abbrev cX6_within : ByteArray := prog_1_method_42_code
def yX6_within : MethodName := ⟨RX6, "within", "(III)I"⟩
abbrev cX6_isKind : ByteArray := prog_1_method_43_code
def yX6_isKind : MethodName := ⟨RX6, "isKind", "(I)Z"⟩
abbrev cX6_isThick : ByteArray := prog_1_method_44_code
def yX6_isThick : MethodName := ⟨RX6, "isThick", "(I)Z"⟩
abbrev cX6_isOwn : ByteArray := prog_1_method_45_code
def yX6_isOwn : MethodName := ⟨RX6, "isOwn", "(I)Z"⟩
abbrev cX6_isHour : ByteArray := prog_1_method_46_code
def yX6_isHour : MethodName := ⟨RX6, "isHour", "(I)Z"⟩
abbrev cX6_isWind : ByteArray := prog_1_method_47_code
def yX6_isWind : MethodName := ⟨RX6, "isWind", "(I)Z"⟩
abbrev cX6_isSheet : ByteArray := prog_1_method_48_code
def yX6_isSheet : MethodName := ⟨RX6, "isSheet", "(I)Z"⟩
abbrev cX6_isSlot : ByteArray := prog_1_method_49_code
def yX6_isSlot : MethodName := ⟨RX6, "isSlot", "(I)Z"⟩
abbrev cX6_canBeSet : ByteArray := prog_1_method_50_code
def yX6_canBeSet : MethodName := ⟨RX6, "canBeSet", "(II)Z"⟩
abbrev cX6_isOfKind : ByteArray := prog_1_method_51_code
def yX6_isOfKind : MethodName := ⟨RX6, "isOfKind", "(II)Z"⟩
abbrev cX6_thinkLine : ByteArray := prog_1_method_52_code
def yX6_thinkLine : MethodName := ⟨RX6, "thinkLine", "(ZZ)I"⟩
abbrev cX6_thinkDay : ByteArray := prog_1_method_53_code
def yX6_thinkDay : MethodName := ⟨RX6, "thinkDay", "(I)I"⟩
abbrev cX6_tonesOn : ByteArray := prog_1_method_54_code
def yX6_tonesOn : MethodName := ⟨RX6, "tonesOn", "(LHumWire$Sheet;I)I"⟩
abbrev cX6_hoursToldRight : ByteArray := prog_1_method_55_code
def yX6_hoursToldRight : MethodName := ⟨RX6, "hoursToldRight", "(II)I"⟩
abbrev cX6_putBytes : ByteArray := prog_1_method_56_code
def yX6_putBytes : MethodName := ⟨RX6, "putBytes", "(I)V"⟩
def RX7 : String := "HumWireModel"
def TX7 : u_T := fun k => match k with
  | 0 => ("HumWireModel", "now", "[I", true)
  | 1 => ("HumWireModel", "image", "[I", true)
  | 2 => ("HumWireModel", "aside", "[I", true)
  | 3 => ("HumWireModel", "hasImage", "Z", false)
  | 4 => ("HumWireModel", "before", "[I", true)
  | 5 => ("HumWireModel", "heldMany", "I", false)
  | 6 => ("HumWireModel", "tiredThen", "I", false)
  | 7 => ("HumWireModel", "swingMost", "I", false)
  | 8 => ("HumWireModel", "tones", "[I", true)
  | 9 => ("HumWireModel", "tape", "[I", true)
  | 10 => ("HumWireModel", "taped", "I", false)
  | 11 => ("HumWireModel", "next", "I", false)
  | 12 => ("HumWireModel", "from", "I", false)
  | 13 => ("HumWireModel", "token", "I", false)
  | 14 => ("HumWireModel", "value", "I", false)
  | 15 => ("HumWireModel", "ended", "I", false)
  | 16 => ("HumWireModel", "key", "I", false)
  | 17 => ("HumWireModel", "keys", "[C", true)
  | 18 => ("HumWireModel", "keyAt", "[I", true)
  | 19 => ("HumWireModel", "code", "[I", true)
  | 20 => ("HumWireModel", "codes", "I", false)
  | 21 => ("HumWireModel", "atoms", "I", false)
  | 22 => ("HumWireModel", "waits", "[I", true)
  | 23 => ("HumWireModel", "held", "I", false)
  | 24 => ("HumWireModel", "tested", "[Z", true)
  | 25 => ("HumWireModel", "stack", "[I", true)
  | 26 => ("HumWireModel", "facts", "[I", true)
  | 27 => ("HumWireModel", "sorts", "[I", true)
  | 28 => ("HumWireModel", "sizes", "[I", true)
  | 29 => ("HumWireModel", "cells", "[I", true)
  | 30 => ("HumWireModel", "holds", "[I", true)
  | 31 => ("HumWireModel", "holdsA", "[I", true)
  | 32 => ("HumWireModel", "holdsB", "[I", true)
  | 33 => ("HumWireModel", "heldCells", "[I", true)
  | 34 => ("HumWireModel", "moved", "[I", true)
  | 35 => ("HumWireModel", "tells", "[I", true)
  | _ => ("HumWireModel", "waiting", "I", false)
def tyX7 : Nat → FieldType := fun k => match k with
  | 0 => .array .int
  | 1 => .array .int
  | 2 => .array .int
  | 3 => .boolean
  | 4 => .array .int
  | 5 => .int
  | 6 => .int
  | 7 => .int
  | 8 => .array .int
  | 9 => .array .int
  | 10 => .int
  | 11 => .int
  | 12 => .int
  | 13 => .int
  | 14 => .int
  | 15 => .int
  | 16 => .int
  | 17 => .array .char
  | 18 => .array .int
  | 19 => .array .int
  | 20 => .int
  | 21 => .int
  | 22 => .array .int
  | 23 => .int
  | 24 => .array .boolean
  | 25 => .array .int
  | 26 => .array .int
  | 27 => .array .int
  | 28 => .array .int
  | 29 => .array .int
  | 30 => .array .int
  | 31 => .array .int
  | 32 => .array .int
  | 33 => .array .int
  | 34 => .array .int
  | 35 => .array .int
  | _ => .int
abbrev wsX70 : List Cond := u_ws RX7 TX7 37
theorem nmX7 : ∀ a, a < 37 → ∀ b, b < 37 → a ≠ b → (TX7 a).2.1 ≠ (TX7 b).2.1 := by decide +kernel
theorem tyX7_ok : ∀ k, k < 37 → parseFieldDescriptor (TX7 k).2.2.1 = some (tyX7 k) := by decide +kernel
abbrev cX7_init : ByteArray := prog_9_method_1_code
def yX7_init : MethodName := ⟨RX7, "<init>", "()V"⟩
abbrev cX7_in : ByteArray := prog_9_method_2_code
def yX7_in : MethodName := ⟨RX7, "in", "(III)Z"⟩
abbrev cX7_within : ByteArray := prog_9_method_3_code
def yX7_within : MethodName := ⟨RX7, "within", "(III)I"⟩
abbrev cX7_copyAll : ByteArray := prog_9_method_4_code
def yX7_copyAll : MethodName := ⟨RX7, "copyAll", "([I[I)V"⟩
abbrev cX7_isWire : ByteArray := prog_9_method_5_code
def yX7_isWire : MethodName := ⟨RX7, "isWire", "(I)Z"⟩
abbrev cX7_isWind : ByteArray := prog_9_method_6_code
def yX7_isWind : MethodName := ⟨RX7, "isWind", "(I)Z"⟩
abbrev cX7_isHour : ByteArray := prog_9_method_7_code
def yX7_isHour : MethodName := ⟨RX7, "isHour", "(I)Z"⟩
abbrev cX7_of : ByteArray := prog_9_method_8_code
def yX7_of : MethodName := ⟨RX7, "of", "(II)I"⟩
abbrev cX7_becomes : ByteArray := prog_9_method_9_code
def yX7_becomes : MethodName := ⟨RX7, "becomes", "(II)I"⟩
abbrev cX7_isPart : ByteArray := prog_9_method_10_code
def yX7_isPart : MethodName := ⟨RX7, "isPart", "(II)Z"⟩
abbrev cX7_wire : ByteArray := prog_9_method_11_code
def yX7_wire : MethodName := ⟨RX7, "wire", "(III)I"⟩
abbrev cX7_loseOf : ByteArray := prog_9_method_12_code
def yX7_loseOf : MethodName := ⟨RX7, "loseOf", "(I)I"⟩
abbrev cX7_worthOf : ByteArray := prog_9_method_13_code
def yX7_worthOf : MethodName := ⟨RX7, "worthOf", "(I)I"⟩
abbrev cX7_told : ByteArray := prog_9_method_14_code
def yX7_told : MethodName := ⟨RX7, "told", "(II)I"⟩
abbrev cX7_isUnder : ByteArray := prog_9_method_15_code
def yX7_isUnder : MethodName := ⟨RX7, "isUnder", "(II)Z"⟩
abbrev cX7_as : ByteArray := prog_9_method_16_code
def yX7_as : MethodName := ⟨RX7, "as", "(II)I"⟩
abbrev cX7_turns : ByteArray := prog_9_method_17_code
def yX7_turns : MethodName := ⟨RX7, "turns", "(II)I"⟩
abbrev cX7_set : ByteArray := prog_9_method_18_code
def yX7_set : MethodName := ⟨RX7, "set", "(III)I"⟩
abbrev cX7_wind : ByteArray := prog_9_method_19_code
def yX7_wind : MethodName := ⟨RX7, "wind", "(II)I"⟩
abbrev cX7_windAt : ByteArray := prog_9_method_20_code
def yX7_windAt : MethodName := ⟨RX7, "windAt", "(I)I"⟩
abbrev cX7_limit : ByteArray := prog_9_method_21_code
def yX7_limit : MethodName := ⟨RX7, "limit", "(I)I"⟩
abbrev cX7_draw : ByteArray := prog_9_method_22_code
def yX7_draw : MethodName := ⟨RX7, "draw", "()I"⟩
abbrev cX7_deal : ByteArray := prog_9_method_23_code
def yX7_deal : MethodName := ⟨RX7, "deal", "(II)I"⟩
abbrev cX7_seed : ByteArray := prog_9_method_24_code
def yX7_seed : MethodName := ⟨RX7, "seed", "(I)I"⟩
abbrev cX7_airOf : ByteArray := prog_9_method_25_code
def yX7_airOf : MethodName := ⟨RX7, "airOf", "(II)I"⟩
abbrev cX7_eddyOf : ByteArray := prog_9_method_26_code
def yX7_eddyOf : MethodName := ⟨RX7, "eddyOf", "(II)I"⟩
abbrev cX7_offOf : ByteArray := prog_9_method_27_code
def yX7_offOf : MethodName := ⟨RX7, "offOf", "(II)I"⟩
abbrev cX7_bandOf : ByteArray := prog_9_method_28_code
def yX7_bandOf : MethodName := ⟨RX7, "bandOf", "(II)I"⟩
abbrev cX7_growsOf : ByteArray := prog_9_method_29_code
def yX7_growsOf : MethodName := ⟨RX7, "growsOf", "(II)I"⟩
abbrev cX7_isHeldBy : ByteArray := prog_9_method_30_code
def yX7_isHeldBy : MethodName := ⟨RX7, "isHeldBy", "(II)Z"⟩
abbrev cX7_ticks : ByteArray := prog_9_method_31_code
def yX7_ticks : MethodName := ⟨RX7, "ticks", "(II)I"⟩
abbrev cX7_by : ByteArray := prog_9_method_32_code
def yX7_by : MethodName := ⟨RX7, "by", "(III)I"⟩
abbrev cX7_tick : ByteArray := prog_9_method_33_code
def yX7_tick : MethodName := ⟨RX7, "tick", "(II)I"⟩
abbrev cX7_anHour : ByteArray := prog_9_method_34_code
def yX7_anHour : MethodName := ⟨RX7, "anHour", "()V"⟩
abbrev cX7_run : ByteArray := prog_9_method_35_code
def yX7_run : MethodName := ⟨RX7, "run", "(I)I"⟩
abbrev cX7_thinks : ByteArray := prog_9_method_36_code
def yX7_thinks : MethodName := ⟨RX7, "thinks", "(I)V"⟩
abbrev cX7_putsBack : ByteArray := prog_9_method_37_code
def yX7_putsBack : MethodName := ⟨RX7, "putsBack", "(I)V"⟩
abbrev cX7_line : ByteArray := prog_9_method_38_code
def yX7_line : MethodName := ⟨RX7, "line", "(II)I"⟩
abbrev cX7_findDay : ByteArray := prog_9_method_39_code
def yX7_findDay : MethodName := ⟨RX7, "findDay", "(I)V"⟩
abbrev cX7_day : ByteArray := prog_9_method_40_code
def yX7_day : MethodName := ⟨RX7, "day", "(II)I"⟩
abbrev cX7_life : ByteArray := prog_9_method_41_code
def yX7_life : MethodName := ⟨RX7, "life", "(II)I"⟩
abbrev cX7_harp : ByteArray := prog_9_method_42_code
def yX7_harp : MethodName := ⟨RX7, "harp", "(II)I"⟩
abbrev cX7_lumps : ByteArray := prog_9_method_43_code
def yX7_lumps : MethodName := ⟨RX7, "lumps", "(II)I"⟩
abbrev cX7_blown : ByteArray := prog_9_method_44_code
def yX7_blown : MethodName := ⟨RX7, "blown", "(III)I"⟩
abbrev cX7_feed : ByteArray := prog_9_method_45_code
def yX7_feed : MethodName := ⟨RX7, "feed", "(III)I"⟩
abbrev cX7_trim : ByteArray := prog_9_method_46_code
def yX7_trim : MethodName := ⟨RX7, "trim", "(I)I"⟩
abbrev cX7_isLetter : ByteArray := prog_9_method_47_code
def yX7_isLetter : MethodName := ⟨RX7, "isLetter", "(I)Z"⟩
abbrev cX7_isFigure : ByteArray := prog_9_method_48_code
def yX7_isFigure : MethodName := ⟨RX7, "isFigure", "(I)Z"⟩
abbrev cX7_go : ByteArray := prog_9_method_49_code
def yX7_go : MethodName := ⟨RX7, "go", "()V"⟩
abbrev cX7_takesKey : ByteArray := prog_9_method_50_code
def yX7_takesKey : MethodName := ⟨RX7, "takesKey", "()Z"⟩
abbrev cX7_nameOf : ByteArray := prog_9_method_51_code
def yX7_nameOf : MethodName := ⟨RX7, "nameOf", "(I)I"⟩
abbrev cX7_rank : ByteArray := prog_9_method_52_code
def yX7_rank : MethodName := ⟨RX7, "rank", "(I)I"⟩
abbrev cX7_settle : ByteArray := prog_9_method_53_code
def yX7_settle : MethodName := ⟨RX7, "settle", "(I)V"⟩
abbrev cX7_signHere : ByteArray := prog_9_method_54_code
def yX7_signHere : MethodName := ⟨RX7, "signHere", "()I"⟩
abbrev cX7_takesPart : ByteArray := prog_9_method_55_code
def yX7_takesPart : MethodName := ⟨RX7, "takesPart", "()Z"⟩
abbrev cX7_takesE : ByteArray := prog_9_method_56_code
def yX7_takesE : MethodName := ⟨RX7, "takesE", "()Z"⟩
abbrev cX7_notsOpen : ByteArray := prog_9_method_57_code
def yX7_notsOpen : MethodName := ⟨RX7, "notsOpen", "()I"⟩
abbrev cX7_text : ByteArray := prog_9_method_58_code
def yX7_text : MethodName := ⟨RX7, "text", "()I"⟩
abbrev cX7_textTold : ByteArray := prog_9_method_59_code
def yX7_textTold : MethodName := ⟨RX7, "textTold", "(II)I"⟩
abbrev cX7_counts : ByteArray := prog_9_method_60_code
def yX7_counts : MethodName := ⟨RX7, "counts", "(I)I"⟩
abbrev cX7_why : ByteArray := prog_9_method_61_code
def yX7_why : MethodName := ⟨RX7, "why", "(I)I"⟩
abbrev cX7_two : ByteArray := prog_9_method_62_code
def yX7_two : MethodName := ⟨RX7, "two", "(III)I"⟩
abbrev cX7_worksOut : ByteArray := prog_9_method_63_code
def yX7_worksOut : MethodName := ⟨RX7, "worksOut", "(I)I"⟩
abbrev cX7_isSheet : ByteArray := prog_9_method_64_code
def yX7_isSheet : MethodName := ⟨RX7, "isSheet", "(I)Z"⟩
abbrev cX7_isSlot : ByteArray := prog_9_method_65_code
def yX7_isSlot : MethodName := ⟨RX7, "isSlot", "(I)Z"⟩
abbrev cX7_sheet : ByteArray := prog_9_method_66_code
def yX7_sheet : MethodName := ⟨RX7, "sheet", "(III)I"⟩
abbrev cX7_mark : ByteArray := prog_9_method_67_code
def yX7_mark : MethodName := ⟨RX7, "mark", "(III)I"⟩
abbrev cX7_heard : ByteArray := prog_9_method_68_code
def yX7_heard : MethodName := ⟨RX7, "heard", "(I)I"⟩
abbrev cX7_pour : ByteArray := prog_9_method_69_code
def yX7_pour : MethodName := ⟨RX7, "pour", "(I)I"⟩
abbrev cX7_reads : ByteArray := prog_9_method_70_code
def yX7_reads : MethodName := ⟨RX7, "reads", "(II)I"⟩
abbrev cX7_copy : ByteArray := prog_9_method_71_code
def yX7_copy : MethodName := ⟨RX7, "copy", "(IIIII)I"⟩
abbrev cX7_lay : ByteArray := prog_9_method_72_code
def yX7_lay : MethodName := ⟨RX7, "lay", "(III)I"⟩
abbrev cX7_ask : ByteArray := prog_9_method_73_code
def yX7_ask : MethodName := ⟨RX7, "ask", "(II)I"⟩
abbrev cX7_item : ByteArray := prog_9_method_74_code
def yX7_item : MethodName := ⟨RX7, "item", "(II)I"⟩
abbrev cX7_rest : ByteArray := prog_9_method_75_code
def yX7_rest : MethodName := ⟨RX7, "rest", "(II)I"⟩
abbrev cX7_tell : ByteArray := prog_9_method_76_code
def yX7_tell : MethodName := ⟨RX7, "tell", "(I)I"⟩
abbrev cX7_rightHours : ByteArray := prog_9_method_77_code
def yX7_rightHours : MethodName := ⟨RX7, "rightHours", "(III)I"⟩
abbrev cX7_check : ByteArray := prog_9_method_78_code
def yX7_check : MethodName := ⟨RX7, "check", "(II)I"⟩
abbrev cX7_keep : ByteArray := prog_9_method_79_code
def yX7_keep : MethodName := ⟨RX7, "keep", "()I"⟩
abbrev cX7_back : ByteArray := prog_9_method_80_code
def yX7_back : MethodName := ⟨RX7, "back", "()I"⟩
abbrev cX7_count : ByteArray := prog_9_method_81_code
def yX7_count : MethodName := ⟨RX7, "count", "(I)I"⟩
def RJx145de : String := "java/io/Serializable"
def TJx145de : u_T := fun k => match k with
  | _ => ("", "", "", false)
def tyJx145de : Nat → FieldType := fun k => match k with
  | _ => .int
abbrev wsJx145de0 : List Cond := u_ws RJx145de TJx145de 0
theorem nmJx145de : ∀ a, a < 0 → ∀ b, b < 0 → a ≠ b → (TJx145de a).2.1 ≠ (TJx145de b).2.1 := by decide +kernel
theorem tyJx145de_ok : ∀ k, k < 0 → parseFieldDescriptor (TJx145de k).2.2.1 = some (tyJx145de k) := by decide +kernel
def RJx9f9b0 : String := "java/lang/CharSequence"
def TJx9f9b0 : u_T := fun k => match k with
  | _ => ("", "", "", false)
def tyJx9f9b0 : Nat → FieldType := fun k => match k with
  | _ => .int
abbrev wsJx9f9b00 : List Cond := u_ws RJx9f9b0 TJx9f9b0 0
theorem nmJx9f9b0 : ∀ a, a < 0 → ∀ b, b < 0 → a ≠ b → (TJx9f9b0 a).2.1 ≠ (TJx9f9b0 b).2.1 := by decide +kernel
theorem tyJx9f9b0_ok : ∀ k, k < 0 → parseFieldDescriptor (TJx9f9b0 k).2.2.1 = some (tyJx9f9b0 k) := by decide +kernel
def RJ11 : String := "java/lang/Character"
def TJ11 : u_T := fun k => match k with
  | _ => ("", "", "", false)
def tyJ11 : Nat → FieldType := fun k => match k with
  | _ => .int
abbrev wsJ110 : List Cond := u_ws RJ11 TJ11 0
theorem nmJ11 : ∀ a, a < 0 → ∀ b, b < 0 → a ≠ b → (TJ11 a).2.1 ≠ (TJ11 b).2.1 := by decide +kernel
theorem tyJ11_ok : ∀ k, k < 0 → parseFieldDescriptor (TJ11 k).2.2.1 = some (tyJ11 k) := by decide +kernel
abbrev cJ11_isValidCodePoint_9a6ad : ByteArray := prog_10_method_11_code
def yJ11_isValidCodePoint_9a6ad : MethodName := ⟨RJ11, "isValidCodePoint", "(I)Z"⟩
abbrev cJ11_highSurrogate_5068e : ByteArray := prog_10_method_28_code
def yJ11_highSurrogate_5068e : MethodName := ⟨RJ11, "highSurrogate", "(I)C"⟩
abbrev cJ11_lowSurrogate_5068e : ByteArray := prog_10_method_29_code
def yJ11_lowSurrogate_5068e : MethodName := ⟨RJ11, "lowSurrogate", "(I)C"⟩
def RJxb160c : String := "java/lang/Comparable"
def TJxb160c : u_T := fun k => match k with
  | _ => ("", "", "", false)
def tyJxb160c : Nat → FieldType := fun k => match k with
  | _ => .int
abbrev wsJxb160c0 : List Cond := u_ws RJxb160c TJxb160c 0
theorem nmJxb160c : ∀ a, a < 0 → ∀ b, b < 0 → a ≠ b → (TJxb160c a).2.1 ≠ (TJxb160c b).2.1 := by decide +kernel
theorem tyJxb160c_ok : ∀ k, k < 0 → parseFieldDescriptor (TJxb160c k).2.2.1 = some (tyJxb160c k) := by decide +kernel
def RJ9 : String := "java/lang/Math"
def TJ9 : u_T := fun k => match k with
  | _ => ("", "", "", false)
def tyJ9 : Nat → FieldType := fun k => match k with
  | _ => .int
abbrev wsJ90 : List Cond := u_ws RJ9 TJ9 0
theorem nmJ9 : ∀ a, a < 0 → ∀ b, b < 0 → a ≠ b → (TJ9 a).2.1 ≠ (TJ9 b).2.1 := by decide +kernel
theorem tyJ9_ok : ∀ k, k < 0 → parseFieldDescriptor (TJ9 k).2.2.1 = some (tyJ9 k) := by decide +kernel
abbrev cJ9_abs_0f7a4 : ByteArray := prog_11_method_59_code
def yJ9_abs_0f7a4 : MethodName := ⟨RJ9, "abs", "(I)I"⟩
abbrev cJ9_max_7cf53 : ByteArray := prog_11_method_65_code
def yJ9_max_7cf53 : MethodName := ⟨RJ9, "max", "(II)I"⟩
abbrev cJ9_min_7cf53 : ByteArray := prog_11_method_69_code
def yJ9_min_7cf53 : MethodName := ⟨RJ9, "min", "(II)I"⟩
def RJ0 : String := "java/lang/String"
def TJ0 : u_T := fun k => match k with
  | _ => ("", "", "", false)
def tyJ0 : Nat → FieldType := fun k => match k with
  | _ => .int
abbrev wsJ00 : List Cond := u_ws RJ0 TJ0 0
theorem nmJ0 : ∀ a, a < 0 → ∀ b, b < 0 → a ≠ b → (TJ0 a).2.1 ≠ (TJ0 b).2.1 := by decide +kernel
theorem tyJ0_ok : ∀ k, k < 0 → parseFieldDescriptor (TJ0 k).2.2.1 = some (tyJ0 k) := by decide +kernel
abbrev cJ0_length_8abf5 : ByteArray := prog_12_method_54_code
def yJ0_length_8abf5 : MethodName := ⟨RJ0, "length", "()I"⟩
abbrev cJ0_charAt_5068e : ByteArray := prog_12_method_56_code
def yJ0_charAt_5068e : MethodName := ⟨RJ0, "charAt", "(I)C"⟩
abbrev cJ0_indexOf_0f7a4 : ByteArray := prog_12_method_79_code
def yJ0_indexOf_0f7a4 : MethodName := ⟨RJ0, "indexOf", "(I)I"⟩
abbrev cJ0_indexOf_7cf53 : ByteArray := prog_12_method_80_code
def yJ0_indexOf_7cf53 : MethodName := ⟨RJ0, "indexOf", "(II)I"⟩
abbrev cJ0_coder_7d493 : ByteArray := prog_12_method_152_code
def yJ0_coder_7d493 : MethodName := ⟨RJ0, "coder", "()B"⟩
abbrev cJ0_isLatin1_aae02 : ByteArray := prog_12_method_154_code
def yJ0_isLatin1_aae02 : MethodName := ⟨RJ0, "isLatin1", "()Z"⟩
abbrev cJ0_checkIndex_df160 : ByteArray := prog_12_method_155_code
def yJ0_checkIndex_df160 : MethodName := ⟨RJ0, "checkIndex", "(II)V"⟩
abbrev cJ0_checkBoundsBeginEnd_23922 : ByteArray := prog_12_method_158_code
def yJ0_checkBoundsBeginEnd_23922 : MethodName := ⟨RJ0, "checkBoundsBeginEnd", "(III)V"⟩
def RJ1 : String := "java/lang/StringLatin1"
def TJ1 : u_T := fun k => match k with
  | _ => ("", "", "", false)
def tyJ1 : Nat → FieldType := fun k => match k with
  | _ => .int
abbrev wsJ10 : List Cond := u_ws RJ1 TJ1 0
theorem nmJ1 : ∀ a, a < 0 → ∀ b, b < 0 → a ≠ b → (TJ1 a).2.1 ≠ (TJ1 b).2.1 := by decide +kernel
theorem tyJ1_ok : ∀ k, k < 0 → parseFieldDescriptor (TJ1 k).2.2.1 = some (tyJ1 k) := by decide +kernel
abbrev cJ1_charAt_3b067 : ByteArray := prog_13_method_2_code
def yJ1_charAt_3b067 : MethodName := ⟨RJ1, "charAt", "([BI)C"⟩
abbrev cJ1_canEncode_9a6ad : ByteArray := prog_13_method_4_code
def yJ1_canEncode_9a6ad : MethodName := ⟨RJ1, "canEncode", "(I)Z"⟩
abbrev cJ1_indexOf_4cfef : ByteArray := prog_13_method_22_code
def yJ1_indexOf_4cfef : MethodName := ⟨RJ1, "indexOf", "([BIII)I"⟩
abbrev cJ1_indexOfChar_4cfef : ByteArray := prog_13_method_23_code
def yJ1_indexOfChar_4cfef : MethodName := ⟨RJ1, "indexOfChar", "([BIII)I"⟩
def RJ2 : String := "java/lang/StringUTF16"
def TJ2 : u_T := fun k => match k with
  | _ => ("", "", "", false)
def tyJ2 : Nat → FieldType := fun k => match k with
  | _ => .int
abbrev wsJ20 : List Cond := u_ws RJ2 TJ2 0
theorem nmJ2 : ∀ a, a < 0 → ∀ b, b < 0 → a ≠ b → (TJ2 a).2.1 ≠ (TJ2 b).2.1 := by decide +kernel
theorem tyJ2_ok : ∀ k, k < 0 → parseFieldDescriptor (TJ2 k).2.2.1 = some (tyJ2 k) := by decide +kernel
abbrev cJ2_getChar_3b067 : ByteArray := prog_14_method_5_code
def yJ2_getChar_3b067 : MethodName := ⟨RJ2, "getChar", "([BI)C"⟩
abbrev cJ2_length_9d52b : ByteArray := prog_14_method_6_code
def yJ2_length_9d52b : MethodName := ⟨RJ2, "length", "([B)I"⟩
abbrev cJ2_indexOf_4cfef : ByteArray := prog_14_method_40_code
def yJ2_indexOf_4cfef : MethodName := ⟨RJ2, "indexOf", "([BIII)I"⟩
abbrev cJ2_indexOfChar_4cfef : ByteArray := prog_14_method_47_code
def yJ2_indexOfChar_4cfef : MethodName := ⟨RJ2, "indexOfChar", "([BIII)I"⟩
abbrev cJ2_indexOfCharUnsafe_4cfef : ByteArray := prog_14_method_48_code
def yJ2_indexOfCharUnsafe_4cfef : MethodName := ⟨RJ2, "indexOfCharUnsafe", "([BIII)I"⟩
abbrev cJ2_indexOfSupplementary_4cfef : ByteArray := prog_14_method_49_code
def yJ2_indexOfSupplementary_4cfef : MethodName := ⟨RJ2, "indexOfSupplementary", "([BIII)I"⟩
abbrev cJ2_charAt_3b067 : ByteArray := prog_14_method_83_code
def yJ2_charAt_3b067 : MethodName := ⟨RJ2, "charAt", "([BI)C"⟩
abbrev cJ2_checkIndex_2214a : ByteArray := prog_14_method_91_code
def yJ2_checkIndex_2214a : MethodName := ⟨RJ2, "checkIndex", "(I[B)V"⟩
abbrev cJ2_checkBoundsBeginEnd_d044e : ByteArray := prog_14_method_93_code
def yJ2_checkBoundsBeginEnd_d044e : MethodName := ⟨RJ2, "checkBoundsBeginEnd", "(II[B)V"⟩
def RJ10 : String := "java/lang/System"
def TJ10 : u_T := fun k => match k with
  | _ => ("", "", "", false)
def tyJ10 : Nat → FieldType := fun k => match k with
  | _ => .int
abbrev wsJ100 : List Cond := u_ws RJ10 TJ10 0
theorem nmJ10 : ∀ a, a < 0 → ∀ b, b < 0 → a ≠ b → (TJ10 a).2.1 ≠ (TJ10 b).2.1 := by decide +kernel
theorem tyJ10_ok : ∀ k, k < 0 → parseFieldDescriptor (TJ10 k).2.2.1 = some (tyJ10 k) := by decide +kernel
def RJxfd54e : String := "java/lang/constant/Constable"
def TJxfd54e : u_T := fun k => match k with
  | _ => ("", "", "", false)
def tyJxfd54e : Nat → FieldType := fun k => match k with
  | _ => .int
abbrev wsJxfd54e0 : List Cond := u_ws RJxfd54e TJxfd54e 0
theorem nmJxfd54e : ∀ a, a < 0 → ∀ b, b < 0 → a ≠ b → (TJxfd54e a).2.1 ≠ (TJxfd54e b).2.1 := by decide +kernel
theorem tyJxfd54e_ok : ∀ k, k < 0 → parseFieldDescriptor (TJxfd54e k).2.2.1 = some (tyJxfd54e k) := by decide +kernel
def RJx3cf43 : String := "java/lang/constant/ConstantDesc"
def TJx3cf43 : u_T := fun k => match k with
  | _ => ("", "", "", false)
def tyJx3cf43 : Nat → FieldType := fun k => match k with
  | _ => .int
abbrev wsJx3cf430 : List Cond := u_ws RJx3cf43 TJx3cf43 0
theorem nmJx3cf43 : ∀ a, a < 0 → ∀ b, b < 0 → a ≠ b → (TJx3cf43 a).2.1 ≠ (TJx3cf43 b).2.1 := by decide +kernel
theorem tyJx3cf43_ok : ∀ k, k < 0 → parseFieldDescriptor (TJx3cf43 k).2.2.1 = some (tyJx3cf43 k) := by decide +kernel
def RJ7 : String := "java/util/Arrays"
def TJ7 : u_T := fun k => match k with
  | _ => ("", "", "", false)
def tyJ7 : Nat → FieldType := fun k => match k with
  | _ => .int
abbrev wsJ70 : List Cond := u_ws RJ7 TJ7 0
theorem nmJ7 : ∀ a, a < 0 → ∀ b, b < 0 → a ≠ b → (TJ7 a).2.1 ≠ (TJ7 b).2.1 := by decide +kernel
theorem tyJ7_ok : ∀ k, k < 0 → parseFieldDescriptor (TJ7 k).2.2.1 = some (tyJ7 k) := by decide +kernel
abbrev cJ7_fill_53178 : ByteArray := prog_16_method_103_code
def yJ7_fill_53178 : MethodName := ⟨RJ7, "fill", "([II)V"⟩
def RJ3 : String := "jdk/internal/util/Preconditions"
def TJ3 : u_T := fun k => match k with
  | _ => ("", "", "", false)
def tyJ3 : Nat → FieldType := fun k => match k with
  | _ => .int
abbrev wsJ30 : List Cond := u_ws RJ3 TJ3 0
theorem nmJ3 : ∀ a, a < 0 → ∀ b, b < 0 → a ≠ b → (TJ3 a).2.1 ≠ (TJ3 b).2.1 := by decide +kernel
theorem tyJ3_ok : ∀ k, k < 0 → parseFieldDescriptor (TJ3 k).2.2.1 = some (tyJ3 k) := by decide +kernel
abbrev cJ3_checkIndex_8e157 : ByteArray := prog_17_method_11_code
def yJ3_checkIndex_8e157 : MethodName := ⟨RJ3, "checkIndex", "(IILjava/util/function/BiFunction;)I"⟩
abbrev cJ3_checkFromToIndex_8c36e : ByteArray := prog_17_method_12_code
def yJ3_checkFromToIndex_8c36e : MethodName := ⟨RJ3, "checkFromToIndex", "(IIILjava/util/function/BiFunction;)I"⟩
def RL : String := "HumWireLaw"
abbrev cL_law : ByteArray := code
def yL_law : MethodName := ⟨RL, "law", "([I)Z"⟩
abbrev vwCl : List vw_C := [(RX0, TX0, 4), (RX1, TX1, 7), (RX2, TX2, 10), (RX3, TX3, 3), (RX4, TX4, 4), (RX5, TX5, 7), (RX6, TX6, 12), (RX7, TX7, 37)]
end
section
def hw_all : List Cond := lw_tbl.filter goodWord
theorem hw_all_tbl {w : Cond} (h : w ∈ hw_all) : w ∈ lw_tbl := (List.mem_filter.mp h).1
theorem hw_all_good {w : Cond} (h : w ∈ hw_all) : goodWord w = true := (List.mem_filter.mp h).2
theorem hw_in0 {w : Cond} (i : Nat) (h : (k2_sels lw_privs)[i]? = some w) (g : goodWord w = true) : w ∈ hw_all := List.mem_filter.mpr ⟨List.mem_append_left _ (List.mem_of_getElem? h), g⟩
theorem hw_inT {w : Cond} (h : w ∈ tables_1) (g : goodWord w = true) : w ∈ hw_all := List.mem_filter.mpr ⟨List.mem_append_right _ h, g⟩
theorem hw_in1 {w : Cond} (i : Nat) (h : tables_1_1[i]? = some w) (g : goodWord w = true) : w ∈ hw_all := hw_inT (List.mem_append_left _ (List.mem_of_getElem? h)) g
theorem hw_in2 {w : Cond} (i : Nat) (h : tables_1_2[i]? = some w) (g : goodWord w = true) : w ∈ hw_all := hw_inT (List.mem_append_right _ (List.mem_append_left _ (List.mem_of_getElem? h))) g
theorem hw_in3 {w : Cond} (i : Nat) (h : tables_1_3[i]? = some w) (g : goodWord w = true) : w ∈ hw_all := hw_inT (List.mem_append_right _ (List.mem_append_right _ (List.mem_append_left _ (List.mem_of_getElem? h)))) g
theorem hw_in4 {w : Cond} (i : Nat) (h : tables_1_4[i]? = some w) (g : goodWord w = true) : w ∈ hw_all := hw_inT (List.mem_append_right _ (List.mem_append_right _ (List.mem_append_right _ (List.mem_append_left _ (List.mem_of_getElem? h))))) g
theorem hw_in5 {w : Cond} (i : Nat) (h : tables_1_5[i]? = some w) (g : goodWord w = true) : w ∈ hw_all := hw_inT (List.mem_append_right _ (List.mem_append_right _ (List.mem_append_right _ (List.mem_append_right _ (List.mem_append_left _ (List.mem_of_getElem? h)))))) g
theorem hw_in6 {w : Cond} (i : Nat) (h : tables_1_6[i]? = some w) (g : goodWord w = true) : w ∈ hw_all := hw_inT (List.mem_append_right _ (List.mem_append_right _ (List.mem_append_right _ (List.mem_append_right _ (List.mem_append_right _ (List.mem_of_getElem? h)))))) g
theorem mw_0 : Cond.classLink RL 7 RX6 ∈ hw_all := hw_in1 17 rfl rfl
theorem mw_1 : Cond.instantiable RX6 12 ∈ hw_all := hw_in1 18 rfl rfl
theorem mw_2 : Cond.initialized RX6 ∈ hw_all := hw_in1 1 rfl rfl
theorem mw_3 : Cond.classLink RL 10 RX7 ∈ hw_all := hw_in4 97 rfl rfl
theorem mw_4 : Cond.instantiable RX7 37 ∈ hw_all := hw_in4 98 rfl rfl
theorem mw_5 : Cond.initialized RX7 ∈ hw_all := hw_in1 9 rfl rfl
theorem mw_6 : Cond.methodLink RL 9 yX6_init ∈ hw_all := hw_in1 19 rfl rfl
theorem mw_7 : Cond.instanceMethod yX6_init ∈ hw_all := hw_in1 20 rfl rfl
theorem mw_8 : Cond.code yX6_init cX6_init 4 none ∈ hw_all := hw_in1 21 rfl rfl
theorem mw_9 : Cond.methodLink RX6 1 objectInit ∈ hw_all := hw_in1 22 rfl rfl
theorem mw_10 : Cond.instanceMethod objectInit ∈ hw_all := hw_in1 23 rfl rfl
theorem mw_11 : Cond.code objectInit ⟨#[0xb1]⟩ 1 none ∈ hw_all := hw_in1 24 rfl rfl
theorem mw_12 : Cond.fieldLink RX6 7 "HumWire" "imageKept" "Z" ∈ hw_all := hw_in1 220 rfl rfl
theorem mw_13 : Cond.classLink RX6 13 RX5 ∈ hw_all := hw_in1 25 rfl rfl
theorem mw_14 : Cond.instantiable RX5 7 ∈ hw_all := hw_in1 26 rfl rfl
theorem mw_15 : Cond.initialized RX5 ∈ hw_all := hw_in1 2 rfl rfl
theorem mw_16 : Cond.fieldLink RX6 16 "HumWire" "thought" "LHumWire$Wire;" ∈ hw_all := hw_in1 221 rfl rfl
theorem mw_17 : Cond.arrayClass .byte ∈ hw_all := hw_in1 91 rfl rfl
theorem mw_18 : Cond.fieldLink RX6 20 "HumWire" "tape" "[B" ∈ hw_all := hw_in1 222 rfl rfl
theorem mw_19 : Cond.fieldLink RX6 24 "HumWire" "tapeBytes" "I" ∈ hw_all := hw_in1 223 rfl rfl
theorem mw_20 : Cond.classLink RX6 28 RX3 ∈ hw_all := hw_in1 64 rfl rfl
theorem mw_21 : Cond.fieldLink RX6 30 "HumWire" "sheets" "[LHumWire$Sheet;" ∈ hw_all := hw_in1 225 rfl rfl
theorem mw_22 : Cond.classLink RX6 34 RX4 ∈ hw_all := hw_in1 66 rfl rfl
theorem mw_23 : Cond.fieldLink RX6 36 "HumWire" "slots" "[LHumWire$Slot;" ∈ hw_all := hw_in1 226 rfl rfl
theorem mw_24 : Cond.arrayClass .int ∈ hw_all := hw_in1 92 rfl rfl
theorem mw_25 : Cond.fieldLink RX6 40 "HumWire" "waiting" "[I" ∈ hw_all := hw_in1 227 rfl rfl
theorem mw_26 : Cond.fieldLink RX6 44 "HumWire" "waitingCount" "I" ∈ hw_all := hw_in1 228 rfl rfl
theorem mw_27 : Cond.classLink RX6 47 RX0 ∈ hw_all := hw_in1 68 rfl rfl
theorem mw_28 : Cond.instantiable RX0 4 ∈ hw_all := hw_in1 70 rfl rfl
theorem mw_29 : Cond.initialized RX0 ∈ hw_all := hw_in1 3 rfl rfl
theorem mw_30 : Cond.fieldLink RX6 50 "HumWire" "laws" "[LHumWire$Law;" ∈ hw_all := hw_in1 217 rfl rfl
theorem mw_31 : Cond.classLink RX6 54 RX2 ∈ hw_all := hw_in1 93 rfl rfl
theorem mw_32 : Cond.instantiable RX2 10 ∈ hw_all := hw_in1 94 rfl rfl
theorem mw_33 : Cond.initialized RX2 ∈ hw_all := hw_in1 4 rfl rfl
theorem mw_34 : Cond.fieldLink RX6 59 "HumWire" "now" "LHumWire$Scene;" ∈ hw_all := hw_in1 218 rfl rfl
theorem mw_35 : Cond.fieldLink RX6 63 "HumWire" "image" "LHumWire$Scene;" ∈ hw_all := hw_in1 219 rfl rfl
theorem mw_36 : Cond.classLink RX6 66 RX1 ∈ hw_all := hw_in1 145 rfl rfl
theorem mw_37 : Cond.instantiable RX1 7 ∈ hw_all := hw_in1 146 rfl rfl
theorem mw_38 : Cond.initialized RX1 ∈ hw_all := hw_in1 6 rfl rfl
theorem mw_39 : Cond.fieldLink RX6 71 "HumWire" "reader" "LHumWire$Reader;" ∈ hw_all := hw_in1 224 rfl rfl
theorem mw_40 : Cond.instantiable RX3 3 ∈ hw_all := hw_in1 174 rfl rfl
theorem mw_41 : Cond.initialized RX3 ∈ hw_all := hw_in1 7 rfl rfl
theorem mw_42 : Cond.instantiable RX4 4 ∈ hw_all := hw_in1 191 rfl rfl
theorem mw_43 : Cond.initialized RX4 ∈ hw_all := hw_in1 8 rfl rfl
theorem mw_44 : Cond.instanceMethod yX5_init ∈ hw_all := hw_in1 28 rfl rfl
theorem mw_45 : Cond.code yX5_init cX5_init 1 none ∈ hw_all := hw_in1 29 rfl rfl
theorem mw_46 : Cond.methodLink RX5 3 objectInit ∈ hw_all := hw_in1 30 rfl rfl
theorem mw_47 : Cond.fieldLink RX5 9 "HumWire$Wire" "thick" "I" ∈ hw_all := hw_in1 33 rfl rfl
theorem mw_48 : Cond.fieldLink RX5 15 "HumWire$Wire" "own" "I" ∈ hw_all := hw_in1 35 rfl rfl
theorem mw_49 : Cond.instanceMethod yX0_init ∈ hw_all := hw_in1 72 rfl rfl
theorem mw_50 : Cond.code yX0_init cX0_init 1 none ∈ hw_all := hw_in1 73 rfl rfl
theorem mw_51 : Cond.methodLink RX0 5 objectInit ∈ hw_all := hw_in1 74 rfl rfl
theorem mw_52 : Cond.fieldLink RX0 11 "HumWire$Law" "code" "[I" ∈ hw_all := hw_in1 80 rfl rfl
theorem mw_53 : Cond.methodLink RX6 56 yX2_init ∈ hw_all := hw_in1 95 rfl rfl
theorem mw_54 : Cond.instanceMethod yX2_init ∈ hw_all := hw_in1 96 rfl rfl
theorem mw_55 : Cond.code yX2_init cX2_init 4 none ∈ hw_all := hw_in1 97 rfl rfl
theorem mw_56 : Cond.methodLink RX2 3 objectInit ∈ hw_all := hw_in1 98 rfl rfl
theorem mw_57 : Cond.fieldLink RX2 9 "HumWire$Scene" "winds" "[I" ∈ hw_all := hw_in1 108 rfl rfl
theorem mw_58 : Cond.classLink RX2 15 RX5 ∈ hw_all := hw_in1 99 rfl rfl
theorem mw_59 : Cond.fieldLink RX2 17 "HumWire$Scene" "wires" "[LHumWire$Wire;" ∈ hw_all := hw_in1 110 rfl rfl
theorem mw_60 : Cond.constant RX2 21 (-1000000005) ∈ hw_all := hw_in1 101 rfl rfl
theorem mw_61 : Cond.fieldLink RX2 22 "HumWire$Scene" "newest" "[I" ∈ hw_all := hw_in1 112 rfl rfl
theorem mw_62 : Cond.fieldLink RX2 25 "HumWire$Scene" "textCount" "I" ∈ hw_all := hw_in1 114 rfl rfl
theorem mw_63 : Cond.fieldLink RX2 29 "HumWire$Scene" "wireCount" "I" ∈ hw_all := hw_in1 116 rfl rfl
theorem mw_64 : Cond.fieldLink RX2 32 "HumWire$Scene" "hour" "I" ∈ hw_all := hw_in1 118 rfl rfl
theorem mw_65 : Cond.fieldLink RX2 35 "HumWire$Scene" "limit" "I" ∈ hw_all := hw_in1 120 rfl rfl
theorem mw_66 : Cond.fieldLink RX2 38 "HumWire$Scene" "z" "I" ∈ hw_all := hw_in1 122 rfl rfl
theorem mw_67 : Cond.fieldLink RX2 41 "HumWire$Scene" "laws" "[LHumWire$Law;" ∈ hw_all := hw_in1 106 rfl rfl
theorem mw_68 : Cond.fieldLink RX2 45 "HumWire$Scene" "stack" "[I" ∈ hw_all := hw_in1 107 rfl rfl
theorem mw_69 : Cond.methodLink RX2 48 yJ7_fill_53178 ∈ hw_all := hw_in1 102 rfl rfl
theorem mw_70 : Cond.static yJ7_fill_53178 ∈ hw_all := hw_in1 103 rfl rfl
theorem mw_71 : Cond.initialized RJ7 ∈ hw_all := hw_in1 5 rfl rfl
theorem mw_72 : Cond.code yJ7_fill_53178 cJ7_fill_53178 4 none ∈ hw_all := hw_in1 104 rfl rfl
theorem mw_73 : Cond.methodLink RX6 68 yX1_init ∈ hw_all := hw_in1 147 rfl rfl
theorem mw_74 : Cond.instanceMethod yX1_init ∈ hw_all := hw_in1 148 rfl rfl
theorem mw_75 : Cond.code yX1_init cX1_init 2 none ∈ hw_all := hw_in1 149 rfl rfl
theorem mw_76 : Cond.methodLink RX1 3 objectInit ∈ hw_all := hw_in1 150 rfl rfl
theorem mw_77 : Cond.fieldLink RX1 9 "HumWire$Reader" "bytes" "[B" ∈ hw_all := hw_in1 151 rfl rfl
theorem mw_78 : Cond.fieldLink RX1 15 "HumWire$Reader" "law" "LHumWire$Law;" ∈ hw_all := hw_in1 153 rfl rfl
theorem mw_79 : Cond.instanceMethod yX3_init ∈ hw_all := hw_in1 176 rfl rfl
theorem mw_80 : Cond.code yX3_init cX3_init 1 none ∈ hw_all := hw_in1 177 rfl rfl
theorem mw_81 : Cond.methodLink RX3 3 objectInit ∈ hw_all := hw_in1 178 rfl rfl
theorem mw_82 : Cond.fieldLink RX3 9 "HumWire$Sheet" "sort" "I" ∈ hw_all := hw_in1 179 rfl rfl
theorem mw_83 : Cond.fieldLink RX3 15 "HumWire$Sheet" "places" "I" ∈ hw_all := hw_in1 181 rfl rfl
theorem mw_84 : Cond.fieldLink RX3 18 "HumWire$Sheet" "numbers" "[I" ∈ hw_all := hw_in1 182 rfl rfl
theorem mw_85 : Cond.instanceMethod yX4_init ∈ hw_all := hw_in1 193 rfl rfl
theorem mw_86 : Cond.code yX4_init cX4_init 1 none ∈ hw_all := hw_in1 194 rfl rfl
theorem mw_87 : Cond.methodLink RX4 3 objectInit ∈ hw_all := hw_in1 195 rfl rfl
theorem mw_88 : Cond.fieldLink RX4 9 "HumWire$Slot" "thing" "I" ∈ hw_all := hw_in1 200 rfl rfl
theorem mw_89 : Cond.fieldLink RX4 15 "HumWire$Slot" "number" "I" ∈ hw_all := hw_in1 202 rfl rfl
theorem mw_90 : Cond.classLink RX4 18 RX5 ∈ hw_all := hw_in1 196 rfl rfl
theorem mw_91 : Cond.fieldLink RX4 21 "HumWire$Slot" "wire" "LHumWire$Wire;" ∈ hw_all := hw_in1 204 rfl rfl
theorem mw_92 : Cond.classLink RX4 25 RX3 ∈ hw_all := hw_in1 198 rfl rfl
theorem mw_93 : Cond.fieldLink RX4 28 "HumWire$Slot" "sheet" "LHumWire$Sheet;" ∈ hw_all := hw_in1 206 rfl rfl
theorem mw_94 : Cond.methodLink RL 12 yX7_init ∈ hw_all := hw_in4 99 rfl rfl
theorem mw_95 : Cond.instanceMethod yX7_init ∈ hw_all := hw_in4 100 rfl rfl
theorem mw_96 : Cond.code yX7_init cX7_init 2 none ∈ hw_all := hw_in4 101 rfl rfl
theorem mw_97 : Cond.methodLink RX7 1 objectInit ∈ hw_all := hw_in4 102 rfl rfl
theorem mw_98 : Cond.fieldLink RX7 9 "HumWireModel" "now" "[I" ∈ hw_all := hw_in4 103 rfl rfl
theorem mw_99 : Cond.fieldLink RX7 13 "HumWireModel" "image" "[I" ∈ hw_all := hw_in4 104 rfl rfl
theorem mw_100 : Cond.fieldLink RX7 16 "HumWireModel" "aside" "[I" ∈ hw_all := hw_in4 105 rfl rfl
theorem mw_101 : Cond.fieldLink RX7 19 "HumWireModel" "before" "[I" ∈ hw_all := hw_in4 107 rfl rfl
theorem mw_102 : Cond.fieldLink RX7 22 "HumWireModel" "tones" "[I" ∈ hw_all := hw_in4 111 rfl rfl
theorem mw_103 : Cond.fieldLink RX7 25 "HumWireModel" "tape" "[I" ∈ hw_all := hw_in4 112 rfl rfl
theorem mw_104 : Cond.arrayClass .char ∈ hw_all := hw_in4 215 rfl rfl
theorem mw_105 : Cond.fieldLink RX7 28 "HumWireModel" "keys" "[C" ∈ hw_all := hw_in4 120 rfl rfl
theorem mw_106 : Cond.fieldLink RX7 32 "HumWireModel" "keyAt" "[I" ∈ hw_all := hw_in4 121 rfl rfl
theorem mw_107 : Cond.fieldLink RX7 35 "HumWireModel" "code" "[I" ∈ hw_all := hw_in4 122 rfl rfl
theorem mw_108 : Cond.fieldLink RX7 38 "HumWireModel" "waits" "[I" ∈ hw_all := hw_in4 125 rfl rfl
theorem mw_109 : Cond.arrayClass .boolean ∈ hw_all := hw_in4 216 rfl rfl
theorem mw_110 : Cond.fieldLink RX7 41 "HumWireModel" "tested" "[Z" ∈ hw_all := hw_in4 127 rfl rfl
theorem mw_111 : Cond.fieldLink RX7 45 "HumWireModel" "stack" "[I" ∈ hw_all := hw_in4 128 rfl rfl
theorem mw_112 : Cond.fieldLink RX7 48 "HumWireModel" "facts" "[I" ∈ hw_all := hw_in4 129 rfl rfl
theorem mw_113 : Cond.fieldLink RX7 51 "HumWireModel" "sorts" "[I" ∈ hw_all := hw_in4 130 rfl rfl
theorem mw_114 : Cond.fieldLink RX7 54 "HumWireModel" "sizes" "[I" ∈ hw_all := hw_in4 131 rfl rfl
theorem mw_115 : Cond.fieldLink RX7 57 "HumWireModel" "cells" "[I" ∈ hw_all := hw_in4 132 rfl rfl
theorem mw_116 : Cond.fieldLink RX7 60 "HumWireModel" "holds" "[I" ∈ hw_all := hw_in4 133 rfl rfl
theorem mw_117 : Cond.fieldLink RX7 63 "HumWireModel" "holdsA" "[I" ∈ hw_all := hw_in4 134 rfl rfl
theorem mw_118 : Cond.fieldLink RX7 66 "HumWireModel" "holdsB" "[I" ∈ hw_all := hw_in4 135 rfl rfl
theorem mw_119 : Cond.fieldLink RX7 69 "HumWireModel" "heldCells" "[I" ∈ hw_all := hw_in4 136 rfl rfl
theorem mw_120 : Cond.fieldLink RX7 72 "HumWireModel" "moved" "[I" ∈ hw_all := hw_in4 137 rfl rfl
theorem mw_121 : Cond.fieldLink RX7 75 "HumWireModel" "tells" "[I" ∈ hw_all := hw_in4 138 rfl rfl
theorem mw_122 : Cond.methodLink RL 13 yX6_wire ∈ hw_all := hw_in2 14 rfl rfl
theorem mw_123 : Cond.instanceMethod yX6_wire ∈ hw_all := hw_in2 15 rfl rfl
theorem mw_124 : Cond.selects RX6 yX6_wire yX6_wire ∈ hw_all := hw_in2 16 rfl rfl
theorem mw_125 : Cond.code yX6_wire cX6_wire 4 (some .int) ∈ hw_all := hw_in2 17 rfl rfl
theorem mw_126 : Cond.constant RX6 87 (-1000000001) ∈ hw_all := hw_in2 30 rfl rfl
theorem mw_127 : Cond.fieldLink RX6 88 "HumWire$Scene" "wireCount" "I" ∈ hw_all := hw_in1 117 rfl rfl
theorem mw_128 : Cond.constant RX6 91 (-1000000003) ∈ hw_all := hw_in2 31 rfl rfl
theorem mw_129 : Cond.fieldLink RX6 92 "HumWire$Scene" "wires" "[LHumWire$Wire;" ∈ hw_all := hw_in1 111 rfl rfl
theorem mw_130 : Cond.methodLink RX6 77 yX6_isKind ∈ hw_all := hw_in2 18 rfl rfl
theorem mw_131 : Cond.static yX6_isKind ∈ hw_all := hw_in2 19 rfl rfl
theorem mw_132 : Cond.code yX6_isKind cX6_isKind 1 (some .boolean) ∈ hw_all := hw_in2 20 rfl rfl
theorem mw_133 : Cond.methodLink RX6 153 yX6_isWithin ∈ hw_all := hw_in2 21 rfl rfl
theorem mw_134 : Cond.static yX6_isWithin ∈ hw_all := hw_in2 22 rfl rfl
theorem mw_135 : Cond.code yX6_isWithin cX6_isWithin 3 (some .boolean) ∈ hw_all := hw_in2 23 rfl rfl
theorem mw_136 : Cond.methodLink RX6 81 yX6_isThick ∈ hw_all := hw_in2 24 rfl rfl
theorem mw_137 : Cond.static yX6_isThick ∈ hw_all := hw_in2 25 rfl rfl
theorem mw_138 : Cond.code yX6_isThick cX6_isThick 1 (some .boolean) ∈ hw_all := hw_in2 26 rfl rfl
theorem mw_139 : Cond.methodLink RX6 84 yX6_isOwn ∈ hw_all := hw_in2 27 rfl rfl
theorem mw_140 : Cond.static yX6_isOwn ∈ hw_all := hw_in2 28 rfl rfl
theorem mw_141 : Cond.code yX6_isOwn cX6_isOwn 1 (some .boolean) ∈ hw_all := hw_in2 29 rfl rfl
theorem mw_142 : Cond.methodLink RX6 96 yX5_begin ∈ hw_all := hw_in2 32 rfl rfl
theorem mw_143 : Cond.instanceMethod yX5_begin ∈ hw_all := hw_in2 33 rfl rfl
theorem mw_144 : Cond.selects RX5 yX5_begin yX5_begin ∈ hw_all := hw_in2 34 rfl rfl
theorem mw_145 : Cond.code yX5_begin cX5_begin 4 none ∈ hw_all := hw_in2 35 rfl rfl
theorem mw_146 : Cond.fieldLink RX5 18 "HumWire$Wire" "kind" "I" ∈ hw_all := hw_in1 31 rfl rfl
theorem mw_147 : Cond.fieldLink RX5 21 "HumWire$Wire" "loss" "I" ∈ hw_all := hw_in1 38 rfl rfl
theorem mw_148 : Cond.fieldLink RX5 24 "HumWire$Wire" "swing" "I" ∈ hw_all := hw_in1 40 rfl rfl
theorem mw_149 : Cond.fieldLink RX5 27 "HumWire$Wire" "held" "Z" ∈ hw_all := hw_in1 43 rfl rfl
theorem mw_150 : Cond.fieldLink RX5 31 "HumWire$Wire" "tired" "I" ∈ hw_all := hw_in1 46 rfl rfl
theorem mw_151 : Cond.methodLink RL 17 yX7_wire ∈ hw_all := hw_in4 217 rfl rfl
theorem mw_152 : Cond.instanceMethod yX7_wire ∈ hw_all := hw_in4 218 rfl rfl
theorem mw_153 : Cond.selects RX7 yX7_wire yX7_wire ∈ hw_all := hw_in4 219 rfl rfl
theorem mw_154 : Cond.code yX7_wire cX7_wire 5 (some .int) ∈ hw_all := hw_in4 220 rfl rfl
theorem mw_155 : Cond.constant RX7 86 (-1000000001) ∈ hw_all := hw_in4 227 rfl rfl
theorem mw_156 : Cond.constant RX7 87 (-1000000003) ∈ hw_all := hw_in4 228 rfl rfl
theorem mw_157 : Cond.methodLink RX7 78 yX7_in ∈ hw_all := hw_in4 221 rfl rfl
theorem mw_158 : Cond.static yX7_in ∈ hw_all := hw_in4 222 rfl rfl
theorem mw_159 : Cond.code yX7_in cX7_in 3 (some .boolean) ∈ hw_all := hw_in4 223 rfl rfl
theorem mw_160 : Cond.methodLink RX7 82 yX7_isPart ∈ hw_all := hw_in4 224 rfl rfl
theorem mw_161 : Cond.static yX7_isPart ∈ hw_all := hw_in4 225 rfl rfl
theorem mw_162 : Cond.code yX7_isPart cX7_isPart 2 (some .boolean) ∈ hw_all := hw_in4 226 rfl rfl
theorem mw_163 : Cond.methodLink RL 18 yX6_told ∈ hw_all := hw_in2 36 rfl rfl
theorem mw_164 : Cond.instanceMethod yX6_told ∈ hw_all := hw_in2 37 rfl rfl
theorem mw_165 : Cond.selects RX6 yX6_told yX6_told ∈ hw_all := hw_in2 38 rfl rfl
theorem mw_166 : Cond.code yX6_told cX6_told 4 (some .int) ∈ hw_all := hw_in2 39 rfl rfl
theorem mw_167 : Cond.fieldLink RX6 104 "HumWire$Wire" "kind" "I" ∈ hw_all := hw_in1 32 rfl rfl
theorem mw_168 : Cond.fieldLink RX6 107 "HumWire$Wire" "thick" "I" ∈ hw_all := hw_in1 34 rfl rfl
theorem mw_169 : Cond.fieldLink RX6 110 "HumWire$Wire" "own" "I" ∈ hw_all := hw_in1 36 rfl rfl
theorem mw_170 : Cond.fieldLink RX6 113 "HumWire$Wire" "loss" "I" ∈ hw_all := hw_in1 39 rfl rfl
theorem mw_171 : Cond.fieldLink RX6 116 "HumWire$Wire" "swing" "I" ∈ hw_all := hw_in1 41 rfl rfl
theorem mw_172 : Cond.fieldLink RX6 119 "HumWire$Wire" "held" "Z" ∈ hw_all := hw_in1 44 rfl rfl
theorem mw_173 : Cond.fieldLink RX6 122 "HumWire$Wire" "tired" "I" ∈ hw_all := hw_in1 47 rfl rfl
theorem mw_174 : Cond.methodLink RX6 100 yX2_wireAt ∈ hw_all := hw_in2 40 rfl rfl
theorem mw_175 : Cond.instanceMethod yX2_wireAt ∈ hw_all := hw_in2 41 rfl rfl
theorem mw_176 : Cond.selects RX2 yX2_wireAt yX2_wireAt ∈ hw_all := hw_in2 42 rfl rfl
theorem mw_177 : Cond.code yX2_wireAt cX2_wireAt 2 (some (.object "HumWire$Wire")) ∈ hw_all := hw_in2 43 rfl rfl
theorem mw_178 : Cond.methodLink RX6 125 yX5_loses ∈ hw_all := hw_in2 45 rfl rfl
theorem mw_179 : Cond.instanceMethod yX5_loses ∈ hw_all := hw_in2 46 rfl rfl
theorem mw_180 : Cond.selects RX5 yX5_loses yX5_loses ∈ hw_all := hw_in2 47 rfl rfl
theorem mw_181 : Cond.code yX5_loses cX5_loses 2 (some .int) ∈ hw_all := hw_in2 48 rfl rfl
theorem mw_182 : Cond.methodLink RX6 129 yX5_worth ∈ hw_all := hw_in2 49 rfl rfl
theorem mw_183 : Cond.instanceMethod yX5_worth ∈ hw_all := hw_in2 50 rfl rfl
theorem mw_184 : Cond.selects RX5 yX5_worth yX5_worth ∈ hw_all := hw_in2 51 rfl rfl
theorem mw_185 : Cond.code yX5_worth cX5_worth 2 (some .int) ∈ hw_all := hw_in2 52 rfl rfl
theorem mw_186 : Cond.methodLink RL 22 yX7_told ∈ hw_all := hw_in4 229 rfl rfl
theorem mw_187 : Cond.instanceMethod yX7_told ∈ hw_all := hw_in4 230 rfl rfl
theorem mw_188 : Cond.selects RX7 yX7_told yX7_told ∈ hw_all := hw_in4 231 rfl rfl
theorem mw_189 : Cond.code yX7_told cX7_told 3 (some .int) ∈ hw_all := hw_in4 232 rfl rfl
theorem mw_190 : Cond.methodLink RX7 92 yX7_isWire ∈ hw_all := hw_in4 233 rfl rfl
theorem mw_191 : Cond.instanceMethod yX7_isWire ∈ hw_all := hw_in4 235 rfl rfl
theorem mw_192 : Cond.selects RX7 yX7_isWire yX7_isWire ∈ hw_all := hw_in0 20 rfl rfl
theorem mw_193 : Cond.code yX7_isWire cX7_isWire 2 (some .boolean) ∈ hw_all := hw_in4 236 rfl rfl
theorem mw_194 : Cond.methodLink RX7 88 yX7_of ∈ hw_all := hw_in4 237 rfl rfl
theorem mw_195 : Cond.instanceMethod yX7_of ∈ hw_all := hw_in4 239 rfl rfl
theorem mw_196 : Cond.selects RX7 yX7_of yX7_of ∈ hw_all := hw_in0 21 rfl rfl
theorem mw_197 : Cond.code yX7_of cX7_of 3 (some .int) ∈ hw_all := hw_in5 0 rfl rfl
theorem mw_198 : Cond.methodLink RX7 96 yX7_loseOf ∈ hw_all := hw_in5 1 rfl rfl
theorem mw_199 : Cond.instanceMethod yX7_loseOf ∈ hw_all := hw_in5 3 rfl rfl
theorem mw_200 : Cond.selects RX7 yX7_loseOf yX7_loseOf ∈ hw_all := hw_in0 22 rfl rfl
theorem mw_201 : Cond.code yX7_loseOf cX7_loseOf 4 (some .int) ∈ hw_all := hw_in5 4 rfl rfl
theorem mw_202 : Cond.methodLink RX7 100 yX7_worthOf ∈ hw_all := hw_in5 5 rfl rfl
theorem mw_203 : Cond.instanceMethod yX7_worthOf ∈ hw_all := hw_in5 7 rfl rfl
theorem mw_204 : Cond.selects RX7 yX7_worthOf yX7_worthOf ∈ hw_all := hw_in0 23 rfl rfl
theorem mw_205 : Cond.code yX7_worthOf cX7_worthOf 3 (some .int) ∈ hw_all := hw_in5 8 rfl rfl
theorem mw_206 : Cond.methodLink RL 23 yX6_as ∈ hw_all := hw_in2 53 rfl rfl
theorem mw_207 : Cond.instanceMethod yX6_as ∈ hw_all := hw_in2 54 rfl rfl
theorem mw_208 : Cond.selects RX6 yX6_as yX6_as ∈ hw_all := hw_in2 55 rfl rfl
theorem mw_209 : Cond.code yX6_as cX6_as 4 (some .int) ∈ hw_all := hw_in2 56 rfl rfl
theorem mw_210 : Cond.constant RX6 136 (-1000000012) ∈ hw_all := hw_in2 62 rfl rfl
theorem mw_211 : Cond.methodLink RX6 132 yX6_isOfKind ∈ hw_all := hw_in2 57 rfl rfl
theorem mw_212 : Cond.static yX6_isOfKind ∈ hw_all := hw_in2 58 rfl rfl
theorem mw_213 : Cond.code yX6_isOfKind cX6_isOfKind 4 (some .boolean) ∈ hw_all := hw_in2 59 rfl rfl
theorem mw_214 : Cond.fieldLink RX6 318 "HumWire" "KIND_ABOVE" "[I" ∈ hw_all := hw_in2 60 rfl rfl
theorem mw_215 : Cond.methodLink RL 26 yX7_as ∈ hw_all := hw_in5 9 rfl rfl
theorem mw_216 : Cond.instanceMethod yX7_as ∈ hw_all := hw_in5 10 rfl rfl
theorem mw_217 : Cond.selects RX7 yX7_as yX7_as ∈ hw_all := hw_in5 11 rfl rfl
theorem mw_218 : Cond.code yX7_as cX7_as 3 (some .int) ∈ hw_all := hw_in5 12 rfl rfl
theorem mw_219 : Cond.constant RX7 106 (-1000000012) ∈ hw_all := hw_in5 16 rfl rfl
theorem mw_220 : Cond.methodLink RX7 103 yX7_isUnder ∈ hw_all := hw_in5 13 rfl rfl
theorem mw_221 : Cond.static yX7_isUnder ∈ hw_all := hw_in5 14 rfl rfl
theorem mw_222 : Cond.code yX7_isUnder cX7_isUnder 2 (some .boolean) ∈ hw_all := hw_in5 15 rfl rfl
theorem mw_223 : Cond.methodLink RL 27 yX6_turns ∈ hw_all := hw_in2 63 rfl rfl
theorem mw_224 : Cond.instanceMethod yX6_turns ∈ hw_all := hw_in2 64 rfl rfl
theorem mw_225 : Cond.selects RX6 yX6_turns yX6_turns ∈ hw_all := hw_in2 65 rfl rfl
theorem mw_226 : Cond.code yX6_turns cX6_turns 5 (some .int) ∈ hw_all := hw_in2 66 rfl rfl
theorem mw_227 : Cond.methodLink RL 30 yX7_turns ∈ hw_all := hw_in5 17 rfl rfl
theorem mw_228 : Cond.instanceMethod yX7_turns ∈ hw_all := hw_in5 18 rfl rfl
theorem mw_229 : Cond.selects RX7 yX7_turns yX7_turns ∈ hw_all := hw_in5 19 rfl rfl
theorem mw_230 : Cond.code yX7_turns cX7_turns 3 (some .int) ∈ hw_all := hw_in5 20 rfl rfl
theorem mw_231 : Cond.methodLink RX7 107 yX7_becomes ∈ hw_all := hw_in5 21 rfl rfl
theorem mw_232 : Cond.instanceMethod yX7_becomes ∈ hw_all := hw_in5 23 rfl rfl
theorem mw_233 : Cond.selects RX7 yX7_becomes yX7_becomes ∈ hw_all := hw_in0 24 rfl rfl
theorem mw_234 : Cond.code yX7_becomes cX7_becomes 4 (some .int) ∈ hw_all := hw_in5 24 rfl rfl
theorem mw_235 : Cond.methodLink RL 31 yX6_set ∈ hw_all := hw_in2 67 rfl rfl
theorem mw_236 : Cond.instanceMethod yX6_set ∈ hw_all := hw_in2 68 rfl rfl
theorem mw_237 : Cond.selects RX6 yX6_set yX6_set ∈ hw_all := hw_in2 69 rfl rfl
theorem mw_238 : Cond.code yX6_set cX6_set 5 (some .int) ∈ hw_all := hw_in2 70 rfl rfl
theorem mw_239 : Cond.methodLink RX6 137 yX6_canBeSet ∈ hw_all := hw_in2 71 rfl rfl
theorem mw_240 : Cond.static yX6_canBeSet ∈ hw_all := hw_in2 72 rfl rfl
theorem mw_241 : Cond.code yX6_canBeSet cX6_canBeSet 2 (some .boolean) ∈ hw_all := hw_in2 73 rfl rfl
theorem mw_242 : Cond.methodLink RX6 140 yX5_change ∈ hw_all := hw_in2 74 rfl rfl
theorem mw_243 : Cond.instanceMethod yX5_change ∈ hw_all := hw_in2 75 rfl rfl
theorem mw_244 : Cond.selects RX5 yX5_change yX5_change ∈ hw_all := hw_in2 76 rfl rfl
theorem mw_245 : Cond.code yX5_change cX5_change 4 (some .int) ∈ hw_all := hw_in2 77 rfl rfl
theorem mw_246 : Cond.methodLink RL 34 yX7_set ∈ hw_all := hw_in5 25 rfl rfl
theorem mw_247 : Cond.instanceMethod yX7_set ∈ hw_all := hw_in5 26 rfl rfl
theorem mw_248 : Cond.selects RX7 yX7_set yX7_set ∈ hw_all := hw_in5 27 rfl rfl
theorem mw_249 : Cond.code yX7_set cX7_set 4 (some .int) ∈ hw_all := hw_in5 28 rfl rfl
theorem mw_250 : Cond.methodLink RL 35 yX6_wind ∈ hw_all := hw_in2 78 rfl rfl
theorem mw_251 : Cond.instanceMethod yX6_wind ∈ hw_all := hw_in2 79 rfl rfl
theorem mw_252 : Cond.selects RX6 yX6_wind yX6_wind ∈ hw_all := hw_in2 80 rfl rfl
theorem mw_253 : Cond.code yX6_wind cX6_wind 4 (some .int) ∈ hw_all := hw_in2 81 rfl rfl
theorem mw_254 : Cond.fieldLink RX6 150 "HumWire$Scene" "winds" "[I" ∈ hw_all := hw_in1 109 rfl rfl
theorem mw_255 : Cond.methodLink RX6 144 yX6_isHour ∈ hw_all := hw_in2 82 rfl rfl
theorem mw_256 : Cond.static yX6_isHour ∈ hw_all := hw_in2 83 rfl rfl
theorem mw_257 : Cond.code yX6_isHour cX6_isHour 1 (some .boolean) ∈ hw_all := hw_in2 84 rfl rfl
theorem mw_258 : Cond.methodLink RX6 147 yX6_isWind ∈ hw_all := hw_in2 85 rfl rfl
theorem mw_259 : Cond.static yX6_isWind ∈ hw_all := hw_in2 86 rfl rfl
theorem mw_260 : Cond.code yX6_isWind cX6_isWind 1 (some .boolean) ∈ hw_all := hw_in2 87 rfl rfl
theorem mw_261 : Cond.methodLink RL 38 yX7_wind ∈ hw_all := hw_in5 29 rfl rfl
theorem mw_262 : Cond.instanceMethod yX7_wind ∈ hw_all := hw_in5 30 rfl rfl
theorem mw_263 : Cond.selects RX7 yX7_wind yX7_wind ∈ hw_all := hw_in5 31 rfl rfl
theorem mw_264 : Cond.code yX7_wind cX7_wind 3 (some .int) ∈ hw_all := hw_in5 32 rfl rfl
theorem mw_265 : Cond.methodLink RX7 110 yX7_isHour ∈ hw_all := hw_in5 33 rfl rfl
theorem mw_266 : Cond.static yX7_isHour ∈ hw_all := hw_in5 34 rfl rfl
theorem mw_267 : Cond.code yX7_isHour cX7_isHour 1 (some .boolean) ∈ hw_all := hw_in5 35 rfl rfl
theorem mw_268 : Cond.methodLink RX7 113 yX7_isWind ∈ hw_all := hw_in5 36 rfl rfl
theorem mw_269 : Cond.static yX7_isWind ∈ hw_all := hw_in5 37 rfl rfl
theorem mw_270 : Cond.code yX7_isWind cX7_isWind 1 (some .boolean) ∈ hw_all := hw_in5 38 rfl rfl
theorem mw_271 : Cond.methodLink RL 39 yX6_windAt ∈ hw_all := hw_in2 88 rfl rfl
theorem mw_272 : Cond.instanceMethod yX6_windAt ∈ hw_all := hw_in2 89 rfl rfl
theorem mw_273 : Cond.selects RX6 yX6_windAt yX6_windAt ∈ hw_all := hw_in2 90 rfl rfl
theorem mw_274 : Cond.code yX6_windAt cX6_windAt 2 (some .int) ∈ hw_all := hw_in2 91 rfl rfl
theorem mw_275 : Cond.methodLink RL 43 yX7_windAt ∈ hw_all := hw_in5 39 rfl rfl
theorem mw_276 : Cond.instanceMethod yX7_windAt ∈ hw_all := hw_in5 40 rfl rfl
theorem mw_277 : Cond.selects RX7 yX7_windAt yX7_windAt ∈ hw_all := hw_in5 41 rfl rfl
theorem mw_278 : Cond.code yX7_windAt cX7_windAt 2 (some .int) ∈ hw_all := hw_in5 42 rfl rfl
theorem mw_279 : Cond.methodLink RL 44 yX6_limit ∈ hw_all := hw_in2 92 rfl rfl
theorem mw_280 : Cond.instanceMethod yX6_limit ∈ hw_all := hw_in2 93 rfl rfl
theorem mw_281 : Cond.selects RX6 yX6_limit yX6_limit ∈ hw_all := hw_in2 94 rfl rfl
theorem mw_282 : Cond.code yX6_limit cX6_limit 3 (some .int) ∈ hw_all := hw_in2 95 rfl rfl
theorem mw_283 : Cond.fieldLink RX6 157 "HumWire$Scene" "limit" "I" ∈ hw_all := hw_in1 121 rfl rfl
theorem mw_284 : Cond.methodLink RL 47 yX7_limit ∈ hw_all := hw_in5 43 rfl rfl
theorem mw_285 : Cond.instanceMethod yX7_limit ∈ hw_all := hw_in5 44 rfl rfl
theorem mw_286 : Cond.selects RX7 yX7_limit yX7_limit ∈ hw_all := hw_in5 45 rfl rfl
theorem mw_287 : Cond.code yX7_limit cX7_limit 2 (some .int) ∈ hw_all := hw_in5 46 rfl rfl
theorem mw_288 : Cond.methodLink RL 48 yX6_deal ∈ hw_all := hw_in2 96 rfl rfl
theorem mw_289 : Cond.instanceMethod yX6_deal ∈ hw_all := hw_in2 97 rfl rfl
theorem mw_290 : Cond.selects RX6 yX6_deal yX6_deal ∈ hw_all := hw_in2 98 rfl rfl
theorem mw_291 : Cond.code yX6_deal cX6_deal 5 (some .int) ∈ hw_all := hw_in2 99 rfl rfl
theorem mw_292 : Cond.methodLink RX6 160 yX2_drawWind ∈ hw_all := hw_in2 100 rfl rfl
theorem mw_293 : Cond.instanceMethod yX2_drawWind ∈ hw_all := hw_in2 101 rfl rfl
theorem mw_294 : Cond.selects RX2 yX2_drawWind yX2_drawWind ∈ hw_all := hw_in2 102 rfl rfl
theorem mw_295 : Cond.code yX2_drawWind cX2_drawWind 3 (some .int) ∈ hw_all := hw_in2 103 rfl rfl
theorem mw_296 : Cond.constant RX2 73 (1103515245) ∈ hw_all := hw_in2 104 rfl rfl
theorem mw_297 : Cond.static yX6_within ∈ hw_all := hw_in2 106 rfl rfl
theorem mw_298 : Cond.code yX6_within cX6_within 3 (some .int) ∈ hw_all := hw_in2 107 rfl rfl
theorem mw_299 : Cond.methodLink RX6 310 Lib.Math.min.name ∈ hw_all := hw_in2 108 rfl rfl
theorem mw_300 : Cond.static Lib.Math.min.name ∈ hw_all := hw_in2 109 rfl rfl
theorem mw_301 : Cond.initialized "java/lang/Math" ∈ hw_all := hw_in1 10 rfl rfl
theorem mw_302 : Cond.code Lib.Math.min.name Lib.Math.min.code 2 (some .int) ∈ hw_all := hw_in2 110 rfl rfl
theorem mw_303 : Cond.methodLink RX6 315 Lib.Math.max.name ∈ hw_all := hw_in2 111 rfl rfl
theorem mw_304 : Cond.static Lib.Math.max.name ∈ hw_all := hw_in2 112 rfl rfl
theorem mw_305 : Cond.code Lib.Math.max.name Lib.Math.max.code 2 (some .int) ∈ hw_all := hw_in2 113 rfl rfl
theorem mw_306 : Cond.methodLink RL 51 yX7_deal ∈ hw_all := hw_in5 47 rfl rfl
theorem mw_307 : Cond.instanceMethod yX7_deal ∈ hw_all := hw_in5 48 rfl rfl
theorem mw_308 : Cond.selects RX7 yX7_deal yX7_deal ∈ hw_all := hw_in5 49 rfl rfl
theorem mw_309 : Cond.code yX7_deal cX7_deal 6 (some .int) ∈ hw_all := hw_in5 50 rfl rfl
theorem mw_310 : Cond.methodLink RX7 117 yX7_draw ∈ hw_all := hw_in5 51 rfl rfl
theorem mw_311 : Cond.instanceMethod yX7_draw ∈ hw_all := hw_in5 53 rfl rfl
theorem mw_312 : Cond.selects RX7 yX7_draw yX7_draw ∈ hw_all := hw_in0 25 rfl rfl
theorem mw_313 : Cond.code yX7_draw cX7_draw 1 (some .int) ∈ hw_all := hw_in5 54 rfl rfl
theorem mw_314 : Cond.constant RX7 116 (1103515245) ∈ hw_all := hw_in5 55 rfl rfl
theorem mw_315 : Cond.methodLink RX7 121 yX7_within ∈ hw_all := hw_in5 56 rfl rfl
theorem mw_316 : Cond.static yX7_within ∈ hw_all := hw_in5 57 rfl rfl
theorem mw_317 : Cond.code yX7_within cX7_within 3 (some .int) ∈ hw_all := hw_in5 58 rfl rfl
theorem mw_318 : Cond.methodLink RL 52 yX6_seed ∈ hw_all := hw_in2 114 rfl rfl
theorem mw_319 : Cond.instanceMethod yX6_seed ∈ hw_all := hw_in2 115 rfl rfl
theorem mw_320 : Cond.selects RX6 yX6_seed yX6_seed ∈ hw_all := hw_in2 116 rfl rfl
theorem mw_321 : Cond.code yX6_seed cX6_seed 3 (some .int) ∈ hw_all := hw_in2 117 rfl rfl
theorem mw_322 : Cond.fieldLink RX6 164 "HumWire$Scene" "z" "I" ∈ hw_all := hw_in1 123 rfl rfl
theorem mw_323 : Cond.methodLink RL 55 yX7_seed ∈ hw_all := hw_in5 59 rfl rfl
theorem mw_324 : Cond.instanceMethod yX7_seed ∈ hw_all := hw_in5 60 rfl rfl
theorem mw_325 : Cond.selects RX7 yX7_seed yX7_seed ∈ hw_all := hw_in5 61 rfl rfl
theorem mw_326 : Cond.code yX7_seed cX7_seed 3 (some .int) ∈ hw_all := hw_in5 62 rfl rfl
theorem mw_327 : Cond.methodLink RL 56 yX6_by ∈ hw_all := hw_in2 118 rfl rfl
theorem mw_328 : Cond.instanceMethod yX6_by ∈ hw_all := hw_in2 119 rfl rfl
theorem mw_329 : Cond.selects RX6 yX6_by yX6_by ∈ hw_all := hw_in2 120 rfl rfl
theorem mw_330 : Cond.code yX6_by cX6_by 5 (some .int) ∈ hw_all := hw_in2 121 rfl rfl
theorem mw_331 : Cond.methodLink RX6 167 yX5_air ∈ hw_all := hw_in2 122 rfl rfl
theorem mw_332 : Cond.instanceMethod yX5_air ∈ hw_all := hw_in2 123 rfl rfl
theorem mw_333 : Cond.selects RX5 yX5_air yX5_air ∈ hw_all := hw_in2 124 rfl rfl
theorem mw_334 : Cond.code yX5_air cX5_air 2 (some .int) ∈ hw_all := hw_in2 125 rfl rfl
theorem mw_335 : Cond.methodLink RX6 170 yX5_eddy ∈ hw_all := hw_in2 126 rfl rfl
theorem mw_336 : Cond.instanceMethod yX5_eddy ∈ hw_all := hw_in2 127 rfl rfl
theorem mw_337 : Cond.selects RX5 yX5_eddy yX5_eddy ∈ hw_all := hw_in2 128 rfl rfl
theorem mw_338 : Cond.code yX5_eddy cX5_eddy 2 (some .int) ∈ hw_all := hw_in2 129 rfl rfl
theorem mw_339 : Cond.methodLink RX5 34 yX5_air ∈ hw_all := hw_in2 130 rfl rfl
theorem mw_340 : Cond.methodLink RX6 173 yX5_off ∈ hw_all := hw_in2 131 rfl rfl
theorem mw_341 : Cond.instanceMethod yX5_off ∈ hw_all := hw_in2 132 rfl rfl
theorem mw_342 : Cond.selects RX5 yX5_off yX5_off ∈ hw_all := hw_in2 133 rfl rfl
theorem mw_343 : Cond.code yX5_off cX5_off 2 (some .int) ∈ hw_all := hw_in2 134 rfl rfl
theorem mw_344 : Cond.methodLink RX5 41 Lib.Math.abs.name ∈ hw_all := hw_in2 136 rfl rfl
theorem mw_345 : Cond.static Lib.Math.abs.name ∈ hw_all := hw_in2 137 rfl rfl
theorem mw_346 : Cond.code Lib.Math.abs.name Lib.Math.abs.code 1 (some .int) ∈ hw_all := hw_in2 138 rfl rfl
theorem mw_347 : Cond.methodLink RX5 38 yX5_eddy ∈ hw_all := hw_in2 135 rfl rfl
theorem mw_348 : Cond.methodLink RX6 176 yX2_bandOf ∈ hw_all := hw_in2 139 rfl rfl
theorem mw_349 : Cond.instanceMethod yX2_bandOf ∈ hw_all := hw_in2 140 rfl rfl
theorem mw_350 : Cond.selects RX2 yX2_bandOf yX2_bandOf ∈ hw_all := hw_in2 141 rfl rfl
theorem mw_351 : Cond.code yX2_bandOf cX2_bandOf 4 (some .int) ∈ hw_all := hw_in2 142 rfl rfl
theorem mw_352 : Cond.fieldLink RX2 86 "HumWire$Wire" "swing" "I" ∈ hw_all := hw_in1 42 rfl rfl
theorem mw_353 : Cond.fieldLink RX2 96 "HumWire$Wire" "own" "I" ∈ hw_all := hw_in1 37 rfl rfl
theorem mw_354 : Cond.methodLink RX2 82 yX2_lawOf ∈ hw_all := hw_in2 143 rfl rfl
theorem mw_355 : Cond.instanceMethod yX2_lawOf ∈ hw_all := hw_in2 144 rfl rfl
theorem mw_356 : Cond.selects RX2 yX2_lawOf yX2_lawOf ∈ hw_all := hw_in2 145 rfl rfl
theorem mw_357 : Cond.code yX2_lawOf cX2_lawOf 3 (some (.object "HumWire$Law")) ∈ hw_all := hw_in2 146 rfl rfl
theorem mw_358 : Cond.methodLink RX2 89 yX5_bandOutOf ∈ hw_all := hw_in2 147 rfl rfl
theorem mw_359 : Cond.instanceMethod yX5_bandOutOf ∈ hw_all := hw_in2 148 rfl rfl
theorem mw_360 : Cond.selects RX5 yX5_bandOutOf yX5_bandOutOf ∈ hw_all := hw_in2 149 rfl rfl
theorem mw_361 : Cond.code yX5_bandOutOf cX5_bandOutOf 2 (some .int) ∈ hw_all := hw_in2 150 rfl rfl
theorem mw_362 : Cond.methodLink RX5 46 Lib.Math.max.name ∈ hw_all := hw_in2 151 rfl rfl
theorem mw_363 : Cond.methodLink RX2 93 yX5_eddy ∈ hw_all := hw_in2 152 rfl rfl
theorem mw_364 : Cond.methodLink RX2 99 yX0_gives ∈ hw_all := hw_in2 153 rfl rfl
theorem mw_365 : Cond.instanceMethod yX0_gives ∈ hw_all := hw_in2 154 rfl rfl
theorem mw_366 : Cond.selects RX0 yX0_gives yX0_gives ∈ hw_all := hw_in2 155 rfl rfl
theorem mw_367 : Cond.code yX0_gives cX0_gives 9 (some .int) ∈ hw_all := hw_in2 156 rfl rfl
theorem mw_368 : Cond.fieldLink RX0 22 "HumWire$Law" "size" "I" ∈ hw_all := hw_in1 81 rfl rfl
theorem mw_369 : Cond.methodLink RX0 29 yX0_joined ∈ hw_all := hw_in2 157 rfl rfl
theorem mw_370 : Cond.static yX0_joined ∈ hw_all := hw_in2 158 rfl rfl
theorem mw_371 : Cond.code yX0_joined cX0_joined 3 (some .int) ∈ hw_all := hw_in2 159 rfl rfl
theorem mw_372 : Cond.methodLink RX6 180 yX2_growth ∈ hw_all := hw_in2 160 rfl rfl
theorem mw_373 : Cond.instanceMethod yX2_growth ∈ hw_all := hw_in2 161 rfl rfl
theorem mw_374 : Cond.selects RX2 yX2_growth yX2_growth ∈ hw_all := hw_in2 162 rfl rfl
theorem mw_375 : Cond.code yX2_growth cX2_growth 4 (some .int) ∈ hw_all := hw_in2 163 rfl rfl
theorem mw_376 : Cond.methodLink RX2 105 yX5_air ∈ hw_all := hw_in2 164 rfl rfl
theorem mw_377 : Cond.methodLink RX6 183 yX2_holds ∈ hw_all := hw_in2 165 rfl rfl
theorem mw_378 : Cond.instanceMethod yX2_holds ∈ hw_all := hw_in2 166 rfl rfl
theorem mw_379 : Cond.selects RX2 yX2_holds yX2_holds ∈ hw_all := hw_in2 167 rfl rfl
theorem mw_380 : Cond.code yX2_holds cX2_holds 4 (some .boolean) ∈ hw_all := hw_in2 168 rfl rfl
theorem mw_381 : Cond.fieldLink RX2 69 "HumWire$Wire" "held" "Z" ∈ hw_all := hw_in1 45 rfl rfl
theorem mw_382 : Cond.methodLink RX2 114 yX2_bandOf ∈ hw_all := hw_in2 169 rfl rfl
theorem mw_383 : Cond.methodLink RX2 117 yX5_off ∈ hw_all := hw_in2 170 rfl rfl
theorem mw_384 : Cond.methodLink RL 59 yX7_by ∈ hw_all := hw_in5 63 rfl rfl
theorem mw_385 : Cond.instanceMethod yX7_by ∈ hw_all := hw_in5 64 rfl rfl
theorem mw_386 : Cond.selects RX7 yX7_by yX7_by ∈ hw_all := hw_in5 65 rfl rfl
theorem mw_387 : Cond.code yX7_by cX7_by 4 (some .int) ∈ hw_all := hw_in5 66 rfl rfl
theorem mw_388 : Cond.methodLink RX7 125 yX7_airOf ∈ hw_all := hw_in5 67 rfl rfl
theorem mw_389 : Cond.instanceMethod yX7_airOf ∈ hw_all := hw_in5 69 rfl rfl
theorem mw_390 : Cond.selects RX7 yX7_airOf yX7_airOf ∈ hw_all := hw_in0 26 rfl rfl
theorem mw_391 : Cond.code yX7_airOf cX7_airOf 3 (some .int) ∈ hw_all := hw_in5 70 rfl rfl
theorem mw_392 : Cond.methodLink RX7 128 yX7_eddyOf ∈ hw_all := hw_in5 71 rfl rfl
theorem mw_393 : Cond.instanceMethod yX7_eddyOf ∈ hw_all := hw_in5 73 rfl rfl
theorem mw_394 : Cond.selects RX7 yX7_eddyOf yX7_eddyOf ∈ hw_all := hw_in0 27 rfl rfl
theorem mw_395 : Cond.code yX7_eddyOf cX7_eddyOf 3 (some .int) ∈ hw_all := hw_in5 74 rfl rfl
theorem mw_396 : Cond.methodLink RX7 137 yX7_offOf ∈ hw_all := hw_in5 75 rfl rfl
theorem mw_397 : Cond.instanceMethod yX7_offOf ∈ hw_all := hw_in5 77 rfl rfl
theorem mw_398 : Cond.selects RX7 yX7_offOf yX7_offOf ∈ hw_all := hw_in0 28 rfl rfl
theorem mw_399 : Cond.code yX7_offOf cX7_offOf 4 (some .int) ∈ hw_all := hw_in5 78 rfl rfl
theorem mw_400 : Cond.methodLink RX7 140 yX7_bandOf ∈ hw_all := hw_in5 79 rfl rfl
theorem mw_401 : Cond.instanceMethod yX7_bandOf ∈ hw_all := hw_in5 81 rfl rfl
theorem mw_402 : Cond.selects RX7 yX7_bandOf yX7_bandOf ∈ hw_all := hw_in0 29 rfl rfl
theorem mw_403 : Cond.code yX7_bandOf cX7_bandOf 6 (some .int) ∈ hw_all := hw_in5 82 rfl rfl
theorem mw_404 : Cond.methodLink RX7 131 yX7_counts ∈ hw_all := hw_in5 83 rfl rfl
theorem mw_405 : Cond.instanceMethod yX7_counts ∈ hw_all := hw_in5 85 rfl rfl
theorem mw_406 : Cond.selects RX7 yX7_counts yX7_counts ∈ hw_all := hw_in0 30 rfl rfl
theorem mw_407 : Cond.code yX7_counts cX7_counts 3 (some .int) ∈ hw_all := hw_in5 86 rfl rfl
theorem mw_408 : Cond.methodLink RX7 134 yX7_worksOut ∈ hw_all := hw_in5 87 rfl rfl
theorem mw_409 : Cond.instanceMethod yX7_worksOut ∈ hw_all := hw_in5 89 rfl rfl
theorem mw_410 : Cond.selects RX7 yX7_worksOut yX7_worksOut ∈ hw_all := hw_in0 31 rfl rfl
theorem mw_411 : Cond.code yX7_worksOut cX7_worksOut 6 (some .int) ∈ hw_all := hw_in5 90 rfl rfl
theorem mw_412 : Cond.methodLink RX7 241 yX7_two ∈ hw_all := hw_in5 91 rfl rfl
theorem mw_413 : Cond.static yX7_two ∈ hw_all := hw_in5 92 rfl rfl
theorem mw_414 : Cond.code yX7_two cX7_two 3 (some .int) ∈ hw_all := hw_in5 93 rfl rfl
theorem mw_415 : Cond.methodLink RX7 146 yX7_growsOf ∈ hw_all := hw_in5 94 rfl rfl
theorem mw_416 : Cond.instanceMethod yX7_growsOf ∈ hw_all := hw_in5 96 rfl rfl
theorem mw_417 : Cond.selects RX7 yX7_growsOf yX7_growsOf ∈ hw_all := hw_in0 32 rfl rfl
theorem mw_418 : Cond.code yX7_growsOf cX7_growsOf 4 (some .int) ∈ hw_all := hw_in5 97 rfl rfl
theorem mw_419 : Cond.methodLink RX7 143 yX7_isHeldBy ∈ hw_all := hw_in5 98 rfl rfl
theorem mw_420 : Cond.instanceMethod yX7_isHeldBy ∈ hw_all := hw_in5 100 rfl rfl
theorem mw_421 : Cond.selects RX7 yX7_isHeldBy yX7_isHeldBy ∈ hw_all := hw_in0 33 rfl rfl
theorem mw_422 : Cond.code yX7_isHeldBy cX7_isHeldBy 3 (some .boolean) ∈ hw_all := hw_in5 101 rfl rfl
theorem mw_423 : Cond.methodLink RL 60 yX6_tick ∈ hw_all := hw_in2 171 rfl rfl
theorem mw_424 : Cond.instanceMethod yX6_tick ∈ hw_all := hw_in2 172 rfl rfl
theorem mw_425 : Cond.selects RX6 yX6_tick yX6_tick ∈ hw_all := hw_in2 173 rfl rfl
theorem mw_426 : Cond.code yX6_tick cX6_tick 4 (some .int) ∈ hw_all := hw_in2 174 rfl rfl
theorem mw_427 : Cond.methodLink RX6 187 yX2_blowOn ∈ hw_all := hw_in2 175 rfl rfl
theorem mw_428 : Cond.instanceMethod yX2_blowOn ∈ hw_all := hw_in2 176 rfl rfl
theorem mw_429 : Cond.selects RX2 yX2_blowOn yX2_blowOn ∈ hw_all := hw_in2 177 rfl rfl
theorem mw_430 : Cond.code yX2_blowOn cX2_blowOn 4 (some .int) ∈ hw_all := hw_in2 178 rfl rfl
theorem mw_431 : Cond.fieldLink RX2 131 "HumWire$Wire" "tired" "I" ∈ hw_all := hw_in1 48 rfl rfl
theorem mw_432 : Cond.methodLink RX2 120 yX2_holds ∈ hw_all := hw_in2 179 rfl rfl
theorem mw_433 : Cond.methodLink RX2 124 yX2_growth ∈ hw_all := hw_in2 180 rfl rfl
theorem mw_434 : Cond.methodLink RX2 127 yX5_loses ∈ hw_all := hw_in2 181 rfl rfl
theorem mw_435 : Cond.methodLink RX2 134 yX2_tiring ∈ hw_all := hw_in2 182 rfl rfl
theorem mw_436 : Cond.instanceMethod yX2_tiring ∈ hw_all := hw_in2 183 rfl rfl
theorem mw_437 : Cond.selects RX2 yX2_tiring yX2_tiring ∈ hw_all := hw_in2 184 rfl rfl
theorem mw_438 : Cond.code yX2_tiring cX2_tiring 3 (some .int) ∈ hw_all := hw_in2 185 rfl rfl
theorem mw_439 : Cond.methodLink RX2 108 Lib.Math.max.name ∈ hw_all := hw_in2 186 rfl rfl
theorem mw_440 : Cond.methodLink RL 63 yX7_tick ∈ hw_all := hw_in5 102 rfl rfl
theorem mw_441 : Cond.instanceMethod yX7_tick ∈ hw_all := hw_in5 103 rfl rfl
theorem mw_442 : Cond.selects RX7 yX7_tick yX7_tick ∈ hw_all := hw_in5 104 rfl rfl
theorem mw_443 : Cond.code yX7_tick cX7_tick 3 (some .int) ∈ hw_all := hw_in5 105 rfl rfl
theorem mw_444 : Cond.methodLink RX7 149 yX7_ticks ∈ hw_all := hw_in5 106 rfl rfl
theorem mw_445 : Cond.instanceMethod yX7_ticks ∈ hw_all := hw_in5 108 rfl rfl
theorem mw_446 : Cond.selects RX7 yX7_ticks yX7_ticks ∈ hw_all := hw_in0 34 rfl rfl
theorem mw_447 : Cond.code yX7_ticks cX7_ticks 7 (some .int) ∈ hw_all := hw_in5 109 rfl rfl
theorem mw_448 : Cond.methodLink RL 64 yX6_run ∈ hw_all := hw_in2 187 rfl rfl
theorem mw_449 : Cond.instanceMethod yX6_run ∈ hw_all := hw_in2 188 rfl rfl
theorem mw_450 : Cond.selects RX6 yX6_run yX6_run ∈ hw_all := hw_in2 189 rfl rfl
theorem mw_451 : Cond.code yX6_run cX6_run 3 (some .int) ∈ hw_all := hw_in2 190 rfl rfl
theorem mw_452 : Cond.fieldLink RX6 193 "HumWire$Scene" "hour" "I" ∈ hw_all := hw_in1 119 rfl rfl
theorem mw_453 : Cond.methodLink RX6 190 yX2_passHour ∈ hw_all := hw_in2 191 rfl rfl
theorem mw_454 : Cond.instanceMethod yX2_passHour ∈ hw_all := hw_in2 192 rfl rfl
theorem mw_455 : Cond.selects RX2 yX2_passHour yX2_passHour ∈ hw_all := hw_in2 193 rfl rfl
theorem mw_456 : Cond.code yX2_passHour cX2_passHour 2 none ∈ hw_all := hw_in2 194 rfl rfl
theorem mw_457 : Cond.methodLink RX2 78 yX2_blowOn ∈ hw_all := hw_in2 195 rfl rfl
theorem mw_458 : Cond.methodLink RL 67 yX7_run ∈ hw_all := hw_in5 110 rfl rfl
theorem mw_459 : Cond.instanceMethod yX7_run ∈ hw_all := hw_in5 111 rfl rfl
theorem mw_460 : Cond.selects RX7 yX7_run yX7_run ∈ hw_all := hw_in5 112 rfl rfl
theorem mw_461 : Cond.code yX7_run cX7_run 3 (some .int) ∈ hw_all := hw_in5 113 rfl rfl
theorem mw_462 : Cond.methodLink RX7 152 yX7_anHour ∈ hw_all := hw_in5 114 rfl rfl
theorem mw_463 : Cond.instanceMethod yX7_anHour ∈ hw_all := hw_in5 116 rfl rfl
theorem mw_464 : Cond.selects RX7 yX7_anHour yX7_anHour ∈ hw_all := hw_in0 35 rfl rfl
theorem mw_465 : Cond.code yX7_anHour cX7_anHour 3 none ∈ hw_all := hw_in5 117 rfl rfl
theorem mw_466 : Cond.methodLink RL 68 yX6_line ∈ hw_all := hw_in2 196 rfl rfl
theorem mw_467 : Cond.instanceMethod yX6_line ∈ hw_all := hw_in2 197 rfl rfl
theorem mw_468 : Cond.selects RX6 yX6_line yX6_line ∈ hw_all := hw_in2 198 rfl rfl
theorem mw_469 : Cond.code yX6_line cX6_line 4 (some .int) ∈ hw_all := hw_in2 199 rfl rfl
theorem mw_470 : Cond.methodLink RX6 196 yX5_become ∈ hw_all := hw_in2 200 rfl rfl
theorem mw_471 : Cond.instanceMethod yX5_become ∈ hw_all := hw_in2 201 rfl rfl
theorem mw_472 : Cond.selects RX5 yX5_become yX5_become ∈ hw_all := hw_in2 202 rfl rfl
theorem mw_473 : Cond.code yX5_become cX5_become 2 none ∈ hw_all := hw_in2 203 rfl rfl
theorem mw_474 : Cond.methodLink RX6 200 yX6_thinkLine ∈ hw_all := hw_in2 204 rfl rfl
theorem mw_475 : Cond.instanceMethod yX6_thinkLine ∈ hw_all := hw_in2 206 rfl rfl
theorem mw_476 : Cond.selects RX6 yX6_thinkLine yX6_thinkLine ∈ hw_all := hw_in0 0 rfl rfl
theorem mw_477 : Cond.code yX6_thinkLine cX6_thinkLine 6 (some .int) ∈ hw_all := hw_in2 207 rfl rfl
theorem mw_478 : Cond.constant RX6 211 (-1000000005) ∈ hw_all := hw_in2 208 rfl rfl
theorem mw_479 : Cond.methodLink RL 71 yX7_line ∈ hw_all := hw_in5 118 rfl rfl
theorem mw_480 : Cond.instanceMethod yX7_line ∈ hw_all := hw_in5 119 rfl rfl
theorem mw_481 : Cond.selects RX7 yX7_line yX7_line ∈ hw_all := hw_in5 120 rfl rfl
theorem mw_482 : Cond.code yX7_line cX7_line 9 (some .int) ∈ hw_all := hw_in5 121 rfl rfl
theorem mw_483 : Cond.constant RX7 159 (-1000000005) ∈ hw_all := hw_in5 126 rfl rfl
theorem mw_484 : Cond.methodLink RX7 155 yX7_thinks ∈ hw_all := hw_in5 122 rfl rfl
theorem mw_485 : Cond.instanceMethod yX7_thinks ∈ hw_all := hw_in5 124 rfl rfl
theorem mw_486 : Cond.selects RX7 yX7_thinks yX7_thinks ∈ hw_all := hw_in0 36 rfl rfl
theorem mw_487 : Cond.code yX7_thinks cX7_thinks 3 none ∈ hw_all := hw_in5 125 rfl rfl
theorem mw_488 : Cond.methodLink RX7 160 yX7_putsBack ∈ hw_all := hw_in5 127 rfl rfl
theorem mw_489 : Cond.instanceMethod yX7_putsBack ∈ hw_all := hw_in5 129 rfl rfl
theorem mw_490 : Cond.selects RX7 yX7_putsBack yX7_putsBack ∈ hw_all := hw_in0 37 rfl rfl
theorem mw_491 : Cond.code yX7_putsBack cX7_putsBack 3 none ∈ hw_all := hw_in5 130 rfl rfl
theorem mw_492 : Cond.methodLink RL 72 yX6_day ∈ hw_all := hw_in2 209 rfl rfl
theorem mw_493 : Cond.instanceMethod yX6_day ∈ hw_all := hw_in2 210 rfl rfl
theorem mw_494 : Cond.selects RX6 yX6_day yX6_day ∈ hw_all := hw_in2 211 rfl rfl
theorem mw_495 : Cond.code yX6_day cX6_day 4 (some .int) ∈ hw_all := hw_in2 212 rfl rfl
theorem mw_496 : Cond.methodLink RX6 204 yX6_thinkDay ∈ hw_all := hw_in2 213 rfl rfl
theorem mw_497 : Cond.instanceMethod yX6_thinkDay ∈ hw_all := hw_in2 215 rfl rfl
theorem mw_498 : Cond.selects RX6 yX6_thinkDay yX6_thinkDay ∈ hw_all := hw_in0 1 rfl rfl
theorem mw_499 : Cond.code yX6_thinkDay cX6_thinkDay 5 (some .int) ∈ hw_all := hw_in2 216 rfl rfl
theorem mw_500 : Cond.methodLink RX6 208 yX2_windIn ∈ hw_all := hw_in2 217 rfl rfl
theorem mw_501 : Cond.instanceMethod yX2_windIn ∈ hw_all := hw_in2 218 rfl rfl
theorem mw_502 : Cond.selects RX2 yX2_windIn yX2_windIn ∈ hw_all := hw_in2 219 rfl rfl
theorem mw_503 : Cond.code yX2_windIn cX2_windIn 2 (some .int) ∈ hw_all := hw_in2 220 rfl rfl
theorem mw_504 : Cond.methodLink RL 75 yX7_day ∈ hw_all := hw_in5 131 rfl rfl
theorem mw_505 : Cond.instanceMethod yX7_day ∈ hw_all := hw_in5 132 rfl rfl
theorem mw_506 : Cond.selects RX7 yX7_day yX7_day ∈ hw_all := hw_in5 133 rfl rfl
theorem mw_507 : Cond.code yX7_day cX7_day 3 (some .int) ∈ hw_all := hw_in5 134 rfl rfl
theorem mw_508 : Cond.fieldLink RX7 163 "HumWireModel" "heldMany" "I" ∈ hw_all := hw_in4 108 rfl rfl
theorem mw_509 : Cond.fieldLink RX7 170 "HumWireModel" "tiredThen" "I" ∈ hw_all := hw_in4 109 rfl rfl
theorem mw_510 : Cond.fieldLink RX7 167 "HumWireModel" "swingMost" "I" ∈ hw_all := hw_in4 110 rfl rfl
theorem mw_511 : Cond.methodLink RX7 173 yX7_findDay ∈ hw_all := hw_in5 135 rfl rfl
theorem mw_512 : Cond.instanceMethod yX7_findDay ∈ hw_all := hw_in5 137 rfl rfl
theorem mw_513 : Cond.selects RX7 yX7_findDay yX7_findDay ∈ hw_all := hw_in0 38 rfl rfl
theorem mw_514 : Cond.code yX7_findDay cX7_findDay 3 none ∈ hw_all := hw_in5 138 rfl rfl
theorem mw_515 : Cond.methodLink RL 76 yX6_life ∈ hw_all := hw_in2 221 rfl rfl
theorem mw_516 : Cond.instanceMethod yX6_life ∈ hw_all := hw_in2 222 rfl rfl
theorem mw_517 : Cond.selects RX6 yX6_life yX6_life ∈ hw_all := hw_in2 223 rfl rfl
theorem mw_518 : Cond.code yX6_life cX6_life 5 (some .int) ∈ hw_all := hw_in2 224 rfl rfl
theorem mw_519 : Cond.constant RX6 207 (99999) ∈ hw_all := hw_in2 225 rfl rfl
theorem mw_520 : Cond.methodLink RL 79 yX7_life ∈ hw_all := hw_in5 139 rfl rfl
theorem mw_521 : Cond.instanceMethod yX7_life ∈ hw_all := hw_in5 140 rfl rfl
theorem mw_522 : Cond.selects RX7 yX7_life yX7_life ∈ hw_all := hw_in5 141 rfl rfl
theorem mw_523 : Cond.code yX7_life cX7_life 5 (some .int) ∈ hw_all := hw_in5 142 rfl rfl
theorem mw_524 : Cond.constant RX7 176 (99999) ∈ hw_all := hw_in5 143 rfl rfl
theorem mw_525 : Cond.methodLink RL 80 yX6_harp ∈ hw_all := hw_in2 226 rfl rfl
theorem mw_526 : Cond.instanceMethod yX6_harp ∈ hw_all := hw_in2 227 rfl rfl
theorem mw_527 : Cond.selects RX6 yX6_harp yX6_harp ∈ hw_all := hw_in2 228 rfl rfl
theorem mw_528 : Cond.code yX6_harp cX6_harp 8 (some .int) ∈ hw_all := hw_in2 229 rfl rfl
theorem mw_529 : Cond.methodLink RL 83 yX7_harp ∈ hw_all := hw_in5 144 rfl rfl
theorem mw_530 : Cond.instanceMethod yX7_harp ∈ hw_all := hw_in5 145 rfl rfl
theorem mw_531 : Cond.selects RX7 yX7_harp yX7_harp ∈ hw_all := hw_in5 146 rfl rfl
theorem mw_532 : Cond.code yX7_harp cX7_harp 8 (some .int) ∈ hw_all := hw_in5 147 rfl rfl
theorem mw_533 : Cond.methodLink RL 84 yX6_lumps ∈ hw_all := hw_in2 230 rfl rfl
theorem mw_534 : Cond.instanceMethod yX6_lumps ∈ hw_all := hw_in2 231 rfl rfl
theorem mw_535 : Cond.selects RX6 yX6_lumps yX6_lumps ∈ hw_all := hw_in2 232 rfl rfl
theorem mw_536 : Cond.code yX6_lumps cX6_lumps 5 (some .int) ∈ hw_all := hw_in2 233 rfl rfl
theorem mw_537 : Cond.methodLink RL 87 yX7_lumps ∈ hw_all := hw_in5 148 rfl rfl
theorem mw_538 : Cond.instanceMethod yX7_lumps ∈ hw_all := hw_in5 149 rfl rfl
theorem mw_539 : Cond.selects RX7 yX7_lumps yX7_lumps ∈ hw_all := hw_in5 150 rfl rfl
theorem mw_540 : Cond.code yX7_lumps cX7_lumps 7 (some .int) ∈ hw_all := hw_in5 151 rfl rfl
theorem mw_541 : Cond.methodLink RL 88 yX6_blown ∈ hw_all := hw_in2 234 rfl rfl
theorem mw_542 : Cond.instanceMethod yX6_blown ∈ hw_all := hw_in2 235 rfl rfl
theorem mw_543 : Cond.selects RX6 yX6_blown yX6_blown ∈ hw_all := hw_in2 236 rfl rfl
theorem mw_544 : Cond.code yX6_blown cX6_blown 9 (some .int) ∈ hw_all := hw_in2 237 rfl rfl
theorem mw_545 : Cond.methodLink RL 91 yX7_blown ∈ hw_all := hw_in5 152 rfl rfl
theorem mw_546 : Cond.instanceMethod yX7_blown ∈ hw_all := hw_in5 153 rfl rfl
theorem mw_547 : Cond.selects RX7 yX7_blown yX7_blown ∈ hw_all := hw_in5 154 rfl rfl
theorem mw_548 : Cond.code yX7_blown cX7_blown 8 (some .int) ∈ hw_all := hw_in5 155 rfl rfl
theorem mw_549 : Cond.methodLink RL 92 yX6_heard ∈ hw_all := hw_in2 238 rfl rfl
theorem mw_550 : Cond.instanceMethod yX6_heard ∈ hw_all := hw_in2 239 rfl rfl
theorem mw_551 : Cond.selects RX6 yX6_heard yX6_heard ∈ hw_all := hw_in3 0 rfl rfl
theorem mw_552 : Cond.code yX6_heard cX6_heard 6 (some .int) ∈ hw_all := hw_in3 1 rfl rfl
theorem mw_553 : Cond.constant RX6 219 (-1000000011) ∈ hw_all := hw_in3 9 rfl rfl
theorem mw_554 : Cond.methodLink RX6 212 yX6_isSheet ∈ hw_all := hw_in3 2 rfl rfl
theorem mw_555 : Cond.static yX6_isSheet ∈ hw_all := hw_in3 3 rfl rfl
theorem mw_556 : Cond.code yX6_isSheet cX6_isSheet 1 (some .boolean) ∈ hw_all := hw_in3 4 rfl rfl
theorem mw_557 : Cond.methodLink RX6 215 yX3_isMissing ∈ hw_all := hw_in3 5 rfl rfl
theorem mw_558 : Cond.instanceMethod yX3_isMissing ∈ hw_all := hw_in3 6 rfl rfl
theorem mw_559 : Cond.selects RX3 yX3_isMissing yX3_isMissing ∈ hw_all := hw_in3 7 rfl rfl
theorem mw_560 : Cond.code yX3_isMissing cX3_isMissing 1 (some .boolean) ∈ hw_all := hw_in3 8 rfl rfl
theorem mw_561 : Cond.methodLink RX6 220 yX6_tonesOn ∈ hw_all := hw_in3 10 rfl rfl
theorem mw_562 : Cond.instanceMethod yX6_tonesOn ∈ hw_all := hw_in3 12 rfl rfl
theorem mw_563 : Cond.selects RX6 yX6_tonesOn yX6_tonesOn ∈ hw_all := hw_in0 2 rfl rfl
theorem mw_564 : Cond.code yX6_tonesOn cX6_tonesOn 6 (some .int) ∈ hw_all := hw_in3 13 rfl rfl
theorem mw_565 : Cond.fieldLink RX6 258 "HumWire$Sheet" "numbers" "[I" ∈ hw_all := hw_in1 183 rfl rfl
theorem mw_566 : Cond.methodLink RX6 262 yX3_hasNumber ∈ hw_all := hw_in3 14 rfl rfl
theorem mw_567 : Cond.instanceMethod yX3_hasNumber ∈ hw_all := hw_in3 15 rfl rfl
theorem mw_568 : Cond.selects RX3 yX3_hasNumber yX3_hasNumber ∈ hw_all := hw_in3 16 rfl rfl
theorem mw_569 : Cond.code yX3_hasNumber cX3_hasNumber 2 (some .boolean) ∈ hw_all := hw_in3 17 rfl rfl
theorem mw_570 : Cond.constant RX3 42 (-1000000005) ∈ hw_all := hw_in3 23 rfl rfl
theorem mw_571 : Cond.methodLink RX3 38 yX3_hasPlace ∈ hw_all := hw_in3 18 rfl rfl
theorem mw_572 : Cond.instanceMethod yX3_hasPlace ∈ hw_all := hw_in3 19 rfl rfl
theorem mw_573 : Cond.selects RX3 yX3_hasPlace yX3_hasPlace ∈ hw_all := hw_in3 20 rfl rfl
theorem mw_574 : Cond.code yX3_hasPlace cX3_hasPlace 2 (some .boolean) ∈ hw_all := hw_in3 21 rfl rfl
theorem mw_575 : Cond.methodLink RL 95 yX7_heard ∈ hw_all := hw_in5 234 rfl rfl
theorem mw_576 : Cond.instanceMethod yX7_heard ∈ hw_all := hw_in5 235 rfl rfl
theorem mw_577 : Cond.selects RX7 yX7_heard yX7_heard ∈ hw_all := hw_in5 236 rfl rfl
theorem mw_578 : Cond.code yX7_heard cX7_heard 8 (some .int) ∈ hw_all := hw_in5 237 rfl rfl
theorem mw_579 : Cond.constant RX7 248 (-1000000011) ∈ hw_all := hw_in5 231 rfl rfl
theorem mw_580 : Cond.methodLink RX7 244 yX7_isSheet ∈ hw_all := hw_in5 223 rfl rfl
theorem mw_581 : Cond.static yX7_isSheet ∈ hw_all := hw_in5 224 rfl rfl
theorem mw_582 : Cond.code yX7_isSheet cX7_isSheet 1 (some .boolean) ∈ hw_all := hw_in5 225 rfl rfl
theorem mw_583 : Cond.methodLink RL 96 yX6_feed ∈ hw_all := hw_in3 24 rfl rfl
theorem mw_584 : Cond.instanceMethod yX6_feed ∈ hw_all := hw_in3 25 rfl rfl
theorem mw_585 : Cond.selects RX6 yX6_feed yX6_feed ∈ hw_all := hw_in3 26 rfl rfl
theorem mw_586 : Cond.code yX6_feed cX6_feed 4 (some .int) ∈ hw_all := hw_in3 27 rfl rfl
theorem mw_587 : Cond.methodLink RX6 224 yX6_putBytes ∈ hw_all := hw_in3 28 rfl rfl
theorem mw_588 : Cond.instanceMethod yX6_putBytes ∈ hw_all := hw_in3 30 rfl rfl
theorem mw_589 : Cond.selects RX6 yX6_putBytes yX6_putBytes ∈ hw_all := hw_in0 3 rfl rfl
theorem mw_590 : Cond.code yX6_putBytes cX6_putBytes 3 none ∈ hw_all := hw_in3 31 rfl rfl
theorem mw_591 : Cond.methodLink RL 99 yX7_feed ∈ hw_all := hw_in5 156 rfl rfl
theorem mw_592 : Cond.instanceMethod yX7_feed ∈ hw_all := hw_in5 157 rfl rfl
theorem mw_593 : Cond.selects RX7 yX7_feed yX7_feed ∈ hw_all := hw_in5 158 rfl rfl
theorem mw_594 : Cond.code yX7_feed cX7_feed 6 (some .int) ∈ hw_all := hw_in5 159 rfl rfl
theorem mw_595 : Cond.fieldLink RX7 177 "HumWireModel" "taped" "I" ∈ hw_all := hw_in4 113 rfl rfl
theorem mw_596 : Cond.methodLink RL 100 yX6_trim ∈ hw_all := hw_in3 32 rfl rfl
theorem mw_597 : Cond.instanceMethod yX6_trim ∈ hw_all := hw_in3 33 rfl rfl
theorem mw_598 : Cond.selects RX6 yX6_trim yX6_trim ∈ hw_all := hw_in3 34 rfl rfl
theorem mw_599 : Cond.code yX6_trim cX6_trim 2 (some .int) ∈ hw_all := hw_in3 35 rfl rfl
theorem mw_600 : Cond.methodLink RL 103 yX7_trim ∈ hw_all := hw_in5 160 rfl rfl
theorem mw_601 : Cond.instanceMethod yX7_trim ∈ hw_all := hw_in5 161 rfl rfl
theorem mw_602 : Cond.selects RX7 yX7_trim yX7_trim ∈ hw_all := hw_in5 162 rfl rfl
theorem mw_603 : Cond.code yX7_trim cX7_trim 2 (some .int) ∈ hw_all := hw_in5 163 rfl rfl
theorem mw_604 : Cond.methodLink RL 104 yX6_text ∈ hw_all := hw_in3 36 rfl rfl
theorem mw_605 : Cond.instanceMethod yX6_text ∈ hw_all := hw_in3 37 rfl rfl
theorem mw_606 : Cond.selects RX6 yX6_text yX6_text ∈ hw_all := hw_in3 38 rfl rfl
theorem mw_607 : Cond.code yX6_text cX6_text 3 (some .int) ∈ hw_all := hw_in3 39 rfl rfl
theorem mw_608 : Cond.fieldLink RX6 228 "HumWire$Scene" "textCount" "I" ∈ hw_all := hw_in1 115 rfl rfl
theorem mw_609 : Cond.fieldLink RX6 235 "HumWire$Reader" "from" "I" ∈ hw_all := hw_in1 158 rfl rfl
theorem mw_610 : Cond.fieldLink RX6 238 "HumWire$Scene" "newest" "[I" ∈ hw_all := hw_in1 113 rfl rfl
theorem mw_611 : Cond.fieldLink RX6 241 "HumWire$Law" "key" "I" ∈ hw_all := hw_in1 77 rfl rfl
theorem mw_612 : Cond.methodLink RX6 231 yX1_takesIn ∈ hw_all := hw_in3 40 rfl rfl
theorem mw_613 : Cond.instanceMethod yX1_takesIn ∈ hw_all := hw_in3 41 rfl rfl
theorem mw_614 : Cond.selects RX1 yX1_takesIn yX1_takesIn ∈ hw_all := hw_in3 42 rfl rfl
theorem mw_615 : Cond.code yX1_takesIn cX1_takesIn 5 (some .boolean) ∈ hw_all := hw_in3 43 rfl rfl
theorem mw_616 : Cond.methodLink RX1 19 Lib.Math.min.name ∈ hw_all := hw_in3 44 rfl rfl
theorem mw_617 : Cond.fieldLink RX1 25 "HumWire$Reader" "size" "I" ∈ hw_all := hw_in1 152 rfl rfl
theorem mw_618 : Cond.fieldLink RX1 29 "HumWire$Reader" "sort" "I" ∈ hw_all := hw_in1 154 rfl rfl
theorem mw_619 : Cond.fieldLink RX1 32 "HumWire$Reader" "to" "I" ∈ hw_all := hw_in1 156 rfl rfl
theorem mw_620 : Cond.constant RX1 42 (-1000000005) ∈ hw_all := hw_in3 112 rfl rfl
theorem mw_621 : Cond.methodLink RX1 35 yX1_step ∈ hw_all := hw_in3 45 rfl rfl
theorem mw_622 : Cond.instanceMethod yX1_step ∈ hw_all := hw_in3 47 rfl rfl
theorem mw_623 : Cond.selects RX1 yX1_step yX1_step ∈ hw_all := hw_in0 4 rfl rfl
theorem mw_624 : Cond.code yX1_step cX1_step 3 none ∈ hw_all := hw_in3 48 rfl rfl
theorem mw_625 : Cond.fieldLink RX1 53 "HumWire$Reader" "from" "I" ∈ hw_all := hw_in1 157 rfl rfl
theorem mw_626 : Cond.fieldLink RX1 60 "HumWire$Reader" "needsBlank" "Z" ∈ hw_all := hw_in1 155 rfl rfl
theorem mw_627 : Cond.methodLink RX1 56 yX1_sortAt ∈ hw_all := hw_in3 49 rfl rfl
theorem mw_628 : Cond.instanceMethod yX1_sortAt ∈ hw_all := hw_in3 51 rfl rfl
theorem mw_629 : Cond.selects RX1 yX1_sortAt yX1_sortAt ∈ hw_all := hw_in0 5 rfl rfl
theorem mw_630 : Cond.code yX1_sortAt cX1_sortAt 3 (some .int) ∈ hw_all := hw_in3 52 rfl rfl
theorem mw_631 : Cond.methodLink RX1 38 yX1_keyHere ∈ hw_all := hw_in3 53 rfl rfl
theorem mw_632 : Cond.instanceMethod yX1_keyHere ∈ hw_all := hw_in3 55 rfl rfl
theorem mw_633 : Cond.selects RX1 yX1_keyHere yX1_keyHere ∈ hw_all := hw_in0 6 rfl rfl
theorem mw_634 : Cond.code yX1_keyHere cX1_keyHere 1 (some .int) ∈ hw_all := hw_in3 56 rfl rfl
theorem mw_635 : Cond.methodLink RX1 69 yX1_isWord ∈ hw_all := hw_in3 58 rfl rfl
theorem mw_636 : Cond.instanceMethod yX1_isWord ∈ hw_all := hw_in3 60 rfl rfl
theorem mw_637 : Cond.selects RX1 yX1_isWord yX1_isWord ∈ hw_all := hw_in0 7 rfl rfl
theorem mw_638 : Cond.code yX1_isWord cX1_isWord 3 (some .boolean) ∈ hw_all := hw_in3 61 rfl rfl
theorem mw_639 : Cond.methodLink RX1 77 yJ0_length_8abf5 ∈ hw_all := hw_in3 62 rfl rfl
theorem mw_640 : Cond.instanceMethod yJ0_length_8abf5 ∈ hw_all := hw_in3 63 rfl rfl
theorem mw_641 : Cond.selects RJ0 yJ0_length_8abf5 yJ0_length_8abf5 ∈ hw_all := hw_in3 64 rfl rfl
theorem mw_642 : Cond.initialized RJ0 ∈ hw_all := hw_in1 11 rfl rfl
theorem mw_643 : Cond.code yJ0_length_8abf5 cJ0_length_8abf5 1 (some .int) ∈ hw_all := hw_in3 65 rfl rfl
theorem mw_644 : Cond.fieldLink RJ0 9 "java/lang/String" "value" "[B" ∈ hw_all := hw_in6 57 rfl rfl
theorem mw_645 : Cond.methodLink RJ0 335 yJ0_coder_7d493 ∈ hw_all := hw_in3 66 rfl rfl
theorem mw_646 : Cond.instanceMethod yJ0_coder_7d493 ∈ hw_all := hw_in3 67 rfl rfl
theorem mw_647 : Cond.selects RJ0 yJ0_coder_7d493 yJ0_coder_7d493 ∈ hw_all := hw_in3 68 rfl rfl
theorem mw_648 : Cond.code yJ0_coder_7d493 cJ0_coder_7d493 1 (some .byte) ∈ hw_all := hw_in3 69 rfl rfl
theorem mw_649 : Cond.fieldLink RJ0 38 "java/lang/String" "COMPACT_STRINGS" "Z" ∈ hw_all := hw_in3 70 rfl rfl
theorem mw_650 : Cond.fieldLink RJ0 15 "java/lang/String" "coder" "B" ∈ hw_all := hw_in6 58 rfl rfl
theorem mw_651 : Cond.methodLink RX1 82 yJ0_charAt_5068e ∈ hw_all := hw_in3 72 rfl rfl
theorem mw_652 : Cond.instanceMethod yJ0_charAt_5068e ∈ hw_all := hw_in3 73 rfl rfl
theorem mw_653 : Cond.selects RJ0 yJ0_charAt_5068e yJ0_charAt_5068e ∈ hw_all := hw_in3 74 rfl rfl
theorem mw_654 : Cond.code yJ0_charAt_5068e cJ0_charAt_5068e 2 (some .char) ∈ hw_all := hw_in3 75 rfl rfl
theorem mw_655 : Cond.methodLink RJ0 492 yJ0_isLatin1_aae02 ∈ hw_all := hw_in3 76 rfl rfl
theorem mw_656 : Cond.instanceMethod yJ0_isLatin1_aae02 ∈ hw_all := hw_in3 77 rfl rfl
theorem mw_657 : Cond.selects RJ0 yJ0_isLatin1_aae02 yJ0_isLatin1_aae02 ∈ hw_all := hw_in3 78 rfl rfl
theorem mw_658 : Cond.code yJ0_isLatin1_aae02 cJ0_isLatin1_aae02 1 (some .boolean) ∈ hw_all := hw_in3 79 rfl rfl
theorem mw_659 : Cond.methodLink RJ0 495 yJ1_charAt_3b067 ∈ hw_all := hw_in3 80 rfl rfl
theorem mw_660 : Cond.static yJ1_charAt_3b067 ∈ hw_all := hw_in3 81 rfl rfl
theorem mw_661 : Cond.initialized RJ1 ∈ hw_all := hw_in1 12 rfl rfl
theorem mw_662 : Cond.code yJ1_charAt_3b067 cJ1_charAt_3b067 2 (some .char) ∈ hw_all := hw_in3 82 rfl rfl
theorem mw_663 : Cond.methodLink RJ1 9 yJ0_checkIndex_df160 ∈ hw_all := hw_in3 83 rfl rfl
theorem mw_664 : Cond.static yJ0_checkIndex_df160 ∈ hw_all := hw_in3 84 rfl rfl
theorem mw_665 : Cond.code yJ0_checkIndex_df160 cJ0_checkIndex_df160 2 none ∈ hw_all := hw_in3 85 rfl rfl
theorem mw_666 : Cond.fieldLink RJ0 1053 "jdk/internal/util/Preconditions" "SIOOBE_FORMATTER" "Ljava/util/function/BiFunction;" ∈ hw_all := hw_in3 86 rfl rfl
theorem mw_667 : Cond.methodLink RJ0 1059 yJ3_checkIndex_8e157 ∈ hw_all := hw_in3 88 rfl rfl
theorem mw_668 : Cond.static yJ3_checkIndex_8e157 ∈ hw_all := hw_in3 89 rfl rfl
theorem mw_669 : Cond.initialized RJ3 ∈ hw_all := hw_in1 13 rfl rfl
theorem mw_670 : Cond.code yJ3_checkIndex_8e157 cJ3_checkIndex_8e157 3 (some .int) ∈ hw_all := hw_in3 90 rfl rfl
theorem mw_671 : Cond.methodLink RJ0 498 yJ2_charAt_3b067 ∈ hw_all := hw_in3 91 rfl rfl
theorem mw_672 : Cond.static yJ2_charAt_3b067 ∈ hw_all := hw_in3 92 rfl rfl
theorem mw_673 : Cond.initialized RJ2 ∈ hw_all := hw_in1 14 rfl rfl
theorem mw_674 : Cond.code yJ2_charAt_3b067 cJ2_charAt_3b067 2 (some .char) ∈ hw_all := hw_in3 93 rfl rfl
theorem mw_675 : Cond.methodLink RJ2 67 yJ2_checkIndex_2214a ∈ hw_all := hw_in3 94 rfl rfl
theorem mw_676 : Cond.static yJ2_checkIndex_2214a ∈ hw_all := hw_in3 95 rfl rfl
theorem mw_677 : Cond.code yJ2_checkIndex_2214a cJ2_checkIndex_2214a 2 none ∈ hw_all := hw_in3 96 rfl rfl
theorem mw_678 : Cond.methodLink RJ2 48 yJ2_length_9d52b ∈ hw_all := hw_in3 97 rfl rfl
theorem mw_679 : Cond.static yJ2_length_9d52b ∈ hw_all := hw_in3 98 rfl rfl
theorem mw_680 : Cond.code yJ2_length_9d52b cJ2_length_9d52b 1 (some .int) ∈ hw_all := hw_in3 99 rfl rfl
theorem mw_681 : Cond.methodLink RJ2 414 yJ0_checkIndex_df160 ∈ hw_all := hw_in3 100 rfl rfl
theorem mw_682 : Cond.methodLink RJ2 71 yJ2_getChar_3b067 ∈ hw_all := hw_in3 101 rfl rfl
theorem mw_683 : Cond.static yJ2_getChar_3b067 ∈ hw_all := hw_in3 102 rfl rfl
theorem mw_684 : Cond.code yJ2_getChar_3b067 cJ2_getChar_3b067 2 (some .char) ∈ hw_all := hw_in3 103 rfl rfl
theorem mw_685 : Cond.fieldLink RJ2 44 "java/lang/StringUTF16" "$assertionsDisabled" "Z" ∈ hw_all := hw_in3 104 rfl rfl
theorem mw_686 : Cond.fieldLink RJ2 59 "java/lang/StringUTF16" "HI_BYTE_SHIFT" "I" ∈ hw_all := hw_in3 106 rfl rfl
theorem mw_687 : Cond.fieldLink RJ2 63 "java/lang/StringUTF16" "LO_BYTE_SHIFT" "I" ∈ hw_all := hw_in3 108 rfl rfl
theorem mw_688 : Cond.methodLink RX1 43 yX0_begin ∈ hw_all := hw_in3 113 rfl rfl
theorem mw_689 : Cond.instanceMethod yX0_begin ∈ hw_all := hw_in3 114 rfl rfl
theorem mw_690 : Cond.selects RX0 yX0_begin yX0_begin ∈ hw_all := hw_in3 115 rfl rfl
theorem mw_691 : Cond.code yX0_begin cX0_begin 2 none ∈ hw_all := hw_in3 116 rfl rfl
theorem mw_692 : Cond.fieldLink RX0 15 "HumWire$Law" "key" "I" ∈ hw_all := hw_in1 75 rfl rfl
theorem mw_693 : Cond.fieldLink RX0 19 "HumWire$Law" "leaves" "I" ∈ hw_all := hw_in1 78 rfl rfl
theorem mw_694 : Cond.methodLink RX1 49 yX1_readOr ∈ hw_all := hw_in3 117 rfl rfl
theorem mw_695 : Cond.instanceMethod yX1_readOr ∈ hw_all := hw_in3 119 rfl rfl
theorem mw_696 : Cond.selects RX1 yX1_readOr yX1_readOr ∈ hw_all := hw_in0 8 rfl rfl
theorem mw_697 : Cond.code yX1_readOr cX1_readOr 4 (some .boolean) ∈ hw_all := hw_in3 120 rfl rfl
theorem mw_698 : Cond.methodLink RX1 86 yX1_readAnd ∈ hw_all := hw_in3 121 rfl rfl
theorem mw_699 : Cond.instanceMethod yX1_readAnd ∈ hw_all := hw_in3 123 rfl rfl
theorem mw_700 : Cond.selects RX1 yX1_readAnd yX1_readAnd ∈ hw_all := hw_in0 9 rfl rfl
theorem mw_701 : Cond.methodLink RX1 89 yX1_isSign ∈ hw_all := hw_in3 219 rfl rfl
theorem mw_702 : Cond.instanceMethod yX1_isSign ∈ hw_all := hw_in3 221 rfl rfl
theorem mw_703 : Cond.selects RX1 yX1_isSign yX1_isSign ∈ hw_all := hw_in0 18 rfl rfl
theorem mw_704 : Cond.code yX1_isSign cX1_isSign 2 (some .boolean) ∈ hw_all := hw_in3 222 rfl rfl
theorem mw_705 : Cond.methodLink RX1 64 yX1_byteHere ∈ hw_all := hw_in3 160 rfl rfl
theorem mw_706 : Cond.instanceMethod yX1_byteHere ∈ hw_all := hw_in3 162 rfl rfl
theorem mw_707 : Cond.selects RX1 yX1_byteHere yX1_byteHere ∈ hw_all := hw_in0 17 rfl rfl
theorem mw_708 : Cond.code yX1_byteHere cX1_byteHere 1 (some .int) ∈ hw_all := hw_in3 163 rfl rfl
theorem mw_709 : Cond.methodLink RX1 93 yX0_putSign ∈ hw_all := hw_in3 223 rfl rfl
theorem mw_710 : Cond.instanceMethod yX0_putSign ∈ hw_all := hw_in3 224 rfl rfl
theorem mw_711 : Cond.selects RX0 yX0_putSign yX0_putSign ∈ hw_all := hw_in3 225 rfl rfl
theorem mw_712 : Cond.code yX0_putSign cX0_putSign 2 none ∈ hw_all := hw_in3 226 rfl rfl
theorem mw_713 : Cond.methodLink RX0 25 yX0_put ∈ hw_all := hw_in3 149 rfl rfl
theorem mw_714 : Cond.instanceMethod yX0_put ∈ hw_all := hw_in3 151 rfl rfl
theorem mw_715 : Cond.selects RX0 yX0_put yX0_put ∈ hw_all := hw_in0 15 rfl rfl
theorem mw_716 : Cond.code yX0_put cX0_put 2 none ∈ hw_all := hw_in3 152 rfl rfl
theorem mw_717 : Cond.code yX1_readAnd cX1_readAnd 4 (some .boolean) ∈ hw_all := hw_in3 124 rfl rfl
theorem mw_718 : Cond.methodLink RX1 96 yX1_readTest ∈ hw_all := hw_in3 125 rfl rfl
theorem mw_719 : Cond.instanceMethod yX1_readTest ∈ hw_all := hw_in3 127 rfl rfl
theorem mw_720 : Cond.selects RX1 yX1_readTest yX1_readTest ∈ hw_all := hw_in0 10 rfl rfl
theorem mw_721 : Cond.code yX1_readPiece cX1_readPiece 3 (some .boolean) ∈ hw_all := hw_in3 140 rfl rfl
theorem mw_722 : Cond.methodLink RX1 108 yX1_readNumber ∈ hw_all := hw_in3 141 rfl rfl
theorem mw_723 : Cond.instanceMethod yX1_readNumber ∈ hw_all := hw_in3 143 rfl rfl
theorem mw_724 : Cond.selects RX1 yX1_readNumber yX1_readNumber ∈ hw_all := hw_in0 14 rfl rfl
theorem mw_725 : Cond.code yX1_readNumber cX1_readNumber 3 (some .boolean) ∈ hw_all := hw_in3 144 rfl rfl
theorem mw_726 : Cond.methodLink RX1 115 yX0_putLeaf ∈ hw_all := hw_in3 145 rfl rfl
theorem mw_727 : Cond.instanceMethod yX0_putLeaf ∈ hw_all := hw_in3 146 rfl rfl
theorem mw_728 : Cond.selects RX0 yX0_putLeaf yX0_putLeaf ∈ hw_all := hw_in3 147 rfl rfl
theorem mw_729 : Cond.code yX0_putLeaf cX0_putLeaf 2 none ∈ hw_all := hw_in3 148 rfl rfl
theorem mw_730 : Cond.methodLink RX1 112 yX1_readName ∈ hw_all := hw_in3 153 rfl rfl
theorem mw_731 : Cond.instanceMethod yX1_readName ∈ hw_all := hw_in3 155 rfl rfl
theorem mw_732 : Cond.selects RX1 yX1_readName yX1_readName ∈ hw_all := hw_in0 16 rfl rfl
theorem mw_733 : Cond.code yX1_readName cX1_readName 3 (some .boolean) ∈ hw_all := hw_in3 156 rfl rfl
theorem mw_734 : Cond.fieldLink RX1 118 "HumWire$Law" "key" "I" ∈ hw_all := hw_in1 76 rfl rfl
theorem mw_735 : Cond.methodLink RX1 127 yJ0_indexOf_0f7a4 ∈ hw_all := hw_in3 164 rfl rfl
theorem mw_736 : Cond.instanceMethod yJ0_indexOf_0f7a4 ∈ hw_all := hw_in3 165 rfl rfl
theorem mw_737 : Cond.selects RJ0 yJ0_indexOf_0f7a4 yJ0_indexOf_0f7a4 ∈ hw_all := hw_in3 166 rfl rfl
theorem mw_738 : Cond.code yJ0_indexOf_0f7a4 cJ0_indexOf_0f7a4 2 (some .int) ∈ hw_all := hw_in3 167 rfl rfl
theorem mw_739 : Cond.methodLink RJ0 633 yJ0_indexOf_7cf53 ∈ hw_all := hw_in3 168 rfl rfl
theorem mw_740 : Cond.instanceMethod yJ0_indexOf_7cf53 ∈ hw_all := hw_in3 169 rfl rfl
theorem mw_741 : Cond.selects RJ0 yJ0_indexOf_7cf53 yJ0_indexOf_7cf53 ∈ hw_all := hw_in3 170 rfl rfl
theorem mw_742 : Cond.code yJ0_indexOf_7cf53 cJ0_indexOf_7cf53 3 (some .int) ∈ hw_all := hw_in3 171 rfl rfl
theorem mw_743 : Cond.methodLink RJ0 505 yJ0_length_8abf5 ∈ hw_all := hw_in3 172 rfl rfl
theorem mw_744 : Cond.methodLink RJ0 637 yJ1_indexOf_4cfef ∈ hw_all := hw_in3 173 rfl rfl
theorem mw_745 : Cond.static yJ1_indexOf_4cfef ∈ hw_all := hw_in3 174 rfl rfl
theorem mw_746 : Cond.code yJ1_indexOf_4cfef cJ1_indexOf_4cfef 4 (some .int) ∈ hw_all := hw_in3 175 rfl rfl
theorem mw_747 : Cond.methodLink RJ1 92 Lib.Math.max.name ∈ hw_all := hw_in3 179 rfl rfl
theorem mw_748 : Cond.methodLink RJ1 38 Lib.Math.min.name ∈ hw_all := hw_in3 180 rfl rfl
theorem mw_749 : Cond.methodLink RJ1 88 yJ1_canEncode_9a6ad ∈ hw_all := hw_in3 176 rfl rfl
theorem mw_750 : Cond.static yJ1_canEncode_9a6ad ∈ hw_all := hw_in3 177 rfl rfl
theorem mw_751 : Cond.code yJ1_canEncode_9a6ad cJ1_canEncode_9a6ad 1 (some .boolean) ∈ hw_all := hw_in3 178 rfl rfl
theorem mw_752 : Cond.methodLink RJ1 95 yJ1_indexOfChar_4cfef ∈ hw_all := hw_in3 181 rfl rfl
theorem mw_753 : Cond.static yJ1_indexOfChar_4cfef ∈ hw_all := hw_in3 182 rfl rfl
theorem mw_754 : Cond.code yJ1_indexOfChar_4cfef cJ1_indexOfChar_4cfef 6 (some .int) ∈ hw_all := hw_in3 183 rfl rfl
theorem mw_755 : Cond.methodLink RJ0 640 yJ2_indexOf_4cfef ∈ hw_all := hw_in3 184 rfl rfl
theorem mw_756 : Cond.static yJ2_indexOf_4cfef ∈ hw_all := hw_in3 185 rfl rfl
theorem mw_757 : Cond.code yJ2_indexOf_4cfef cJ2_indexOf_4cfef 4 (some .int) ∈ hw_all := hw_in3 186 rfl rfl
theorem mw_758 : Cond.methodLink RJ2 224 Lib.Math.max.name ∈ hw_all := hw_in3 187 rfl rfl
theorem mw_759 : Cond.methodLink RJ2 183 Lib.Math.min.name ∈ hw_all := hw_in3 188 rfl rfl
theorem mw_760 : Cond.constant RJ2 227 (65536) ∈ hw_all := hw_in3 189 rfl rfl
theorem mw_761 : Cond.methodLink RJ2 228 yJ2_indexOfChar_4cfef ∈ hw_all := hw_in3 190 rfl rfl
theorem mw_762 : Cond.static yJ2_indexOfChar_4cfef ∈ hw_all := hw_in3 191 rfl rfl
theorem mw_763 : Cond.code yJ2_indexOfChar_4cfef cJ2_indexOfChar_4cfef 4 (some .int) ∈ hw_all := hw_in3 192 rfl rfl
theorem mw_764 : Cond.methodLink RJ2 96 yJ2_checkBoundsBeginEnd_d044e ∈ hw_all := hw_in3 193 rfl rfl
theorem mw_765 : Cond.static yJ2_checkBoundsBeginEnd_d044e ∈ hw_all := hw_in3 194 rfl rfl
theorem mw_766 : Cond.code yJ2_checkBoundsBeginEnd_d044e cJ2_checkBoundsBeginEnd_d044e 3 none ∈ hw_all := hw_in3 195 rfl rfl
theorem mw_767 : Cond.methodLink RJ2 241 yJ0_checkBoundsBeginEnd_23922 ∈ hw_all := hw_in3 196 rfl rfl
theorem mw_768 : Cond.static yJ0_checkBoundsBeginEnd_23922 ∈ hw_all := hw_in3 197 rfl rfl
theorem mw_769 : Cond.code yJ0_checkBoundsBeginEnd_23922 cJ0_checkBoundsBeginEnd_23922 3 none ∈ hw_all := hw_in3 198 rfl rfl
theorem mw_770 : Cond.methodLink RJ0 1062 yJ3_checkFromToIndex_8c36e ∈ hw_all := hw_in3 199 rfl rfl
theorem mw_771 : Cond.static yJ3_checkFromToIndex_8c36e ∈ hw_all := hw_in3 200 rfl rfl
theorem mw_772 : Cond.code yJ3_checkFromToIndex_8c36e cJ3_checkFromToIndex_8c36e 4 (some .int) ∈ hw_all := hw_in3 201 rfl rfl
theorem mw_773 : Cond.methodLink RJ2 244 yJ2_indexOfCharUnsafe_4cfef ∈ hw_all := hw_in3 202 rfl rfl
theorem mw_774 : Cond.static yJ2_indexOfCharUnsafe_4cfef ∈ hw_all := hw_in3 203 rfl rfl
theorem mw_775 : Cond.code yJ2_indexOfCharUnsafe_4cfef cJ2_indexOfCharUnsafe_4cfef 5 (some .int) ∈ hw_all := hw_in3 204 rfl rfl
theorem mw_776 : Cond.methodLink RJ2 232 yJ2_indexOfSupplementary_4cfef ∈ hw_all := hw_in3 205 rfl rfl
theorem mw_777 : Cond.static yJ2_indexOfSupplementary_4cfef ∈ hw_all := hw_in3 206 rfl rfl
theorem mw_778 : Cond.code yJ2_indexOfSupplementary_4cfef cJ2_indexOfSupplementary_4cfef 7 (some .int) ∈ hw_all := hw_in3 207 rfl rfl
theorem mw_779 : Cond.methodLink RJ2 164 yJ11_isValidCodePoint_9a6ad ∈ hw_all := hw_in3 208 rfl rfl
theorem mw_780 : Cond.static yJ11_isValidCodePoint_9a6ad ∈ hw_all := hw_in3 209 rfl rfl
theorem mw_781 : Cond.initialized RJ11 ∈ hw_all := hw_in1 15 rfl rfl
theorem mw_782 : Cond.code yJ11_isValidCodePoint_9a6ad cJ11_isValidCodePoint_9a6ad 2 (some .boolean) ∈ hw_all := hw_in3 210 rfl rfl
theorem mw_783 : Cond.methodLink RJ2 157 yJ11_highSurrogate_5068e ∈ hw_all := hw_in3 211 rfl rfl
theorem mw_784 : Cond.static yJ11_highSurrogate_5068e ∈ hw_all := hw_in3 212 rfl rfl
theorem mw_785 : Cond.code yJ11_highSurrogate_5068e cJ11_highSurrogate_5068e 1 (some .char) ∈ hw_all := hw_in3 213 rfl rfl
theorem mw_786 : Cond.constant RJ11 110 (55232) ∈ hw_all := hw_in3 214 rfl rfl
theorem mw_787 : Cond.methodLink RJ2 161 yJ11_lowSurrogate_5068e ∈ hw_all := hw_in3 215 rfl rfl
theorem mw_788 : Cond.static yJ11_lowSurrogate_5068e ∈ hw_all := hw_in3 216 rfl rfl
theorem mw_789 : Cond.code yJ11_lowSurrogate_5068e cJ11_lowSurrogate_5068e 1 (some .char) ∈ hw_all := hw_in3 217 rfl rfl
theorem mw_790 : Cond.constant RJ11 76 (56320) ∈ hw_all := hw_in3 218 rfl rfl
theorem mw_791 : Cond.methodLink RX1 105 yX1_readPiece ∈ hw_all := hw_in3 137 rfl rfl
theorem mw_792 : Cond.instanceMethod yX1_readPiece ∈ hw_all := hw_in3 139 rfl rfl
theorem mw_793 : Cond.selects RX1 yX1_readPiece yX1_readPiece ∈ hw_all := hw_in0 13 rfl rfl
theorem mw_794 : Cond.code yX1_readSum cX1_readSum 5 (some .boolean) ∈ hw_all := hw_in3 132 rfl rfl
theorem mw_795 : Cond.methodLink RX1 102 yX1_readTerm ∈ hw_all := hw_in3 133 rfl rfl
theorem mw_796 : Cond.instanceMethod yX1_readTerm ∈ hw_all := hw_in3 135 rfl rfl
theorem mw_797 : Cond.selects RX1 yX1_readTerm yX1_readTerm ∈ hw_all := hw_in0 12 rfl rfl
theorem mw_798 : Cond.code yX1_readTerm cX1_readTerm 5 (some .boolean) ∈ hw_all := hw_in3 136 rfl rfl
theorem mw_799 : Cond.code yX1_readTest cX1_readTest 4 (some .boolean) ∈ hw_all := hw_in3 128 rfl rfl
theorem mw_800 : Cond.methodLink RX1 99 yX1_readSum ∈ hw_all := hw_in3 129 rfl rfl
theorem mw_801 : Cond.instanceMethod yX1_readSum ∈ hw_all := hw_in3 131 rfl rfl
theorem mw_802 : Cond.selects RX1 yX1_readSum yX1_readSum ∈ hw_all := hw_in0 11 rfl rfl
theorem mw_803 : Cond.methodLink RL 108 yX7_text ∈ hw_all := hw_in5 164 rfl rfl
theorem mw_804 : Cond.instanceMethod yX7_text ∈ hw_all := hw_in5 165 rfl rfl
theorem mw_805 : Cond.selects RX7 yX7_text yX7_text ∈ hw_all := hw_in5 166 rfl rfl
theorem mw_806 : Cond.code yX7_text cX7_text 4 (some .int) ∈ hw_all := hw_in5 167 rfl rfl
theorem mw_807 : Cond.fieldLink RX7 180 "HumWireModel" "next" "I" ∈ hw_all := hw_in4 114 rfl rfl
theorem mw_808 : Cond.fieldLink RX7 186 "HumWireModel" "ended" "I" ∈ hw_all := hw_in4 118 rfl rfl
theorem mw_809 : Cond.fieldLink RX7 183 "HumWireModel" "from" "I" ∈ hw_all := hw_in4 115 rfl rfl
theorem mw_810 : Cond.fieldLink RX7 201 "HumWireModel" "key" "I" ∈ hw_all := hw_in4 119 rfl rfl
theorem mw_811 : Cond.fieldLink RX7 213 "HumWireModel" "codes" "I" ∈ hw_all := hw_in4 123 rfl rfl
theorem mw_812 : Cond.fieldLink RX7 219 "HumWireModel" "atoms" "I" ∈ hw_all := hw_in4 124 rfl rfl
theorem mw_813 : Cond.methodLink RX7 204 yX7_go ∈ hw_all := hw_in5 168 rfl rfl
theorem mw_814 : Cond.instanceMethod yX7_go ∈ hw_all := hw_in5 170 rfl rfl
theorem mw_815 : Cond.selects RX7 yX7_go yX7_go ∈ hw_all := hw_in0 39 rfl rfl
theorem mw_816 : Cond.code yX7_go cX7_go 2 none ∈ hw_all := hw_in5 171 rfl rfl
theorem mw_817 : Cond.fieldLink RX7 189 "HumWireModel" "token" "I" ∈ hw_all := hw_in4 116 rfl rfl
theorem mw_818 : Cond.fieldLink RX7 195 "HumWireModel" "value" "I" ∈ hw_all := hw_in4 117 rfl rfl
theorem mw_819 : Cond.methodLink RX7 192 yX7_isLetter ∈ hw_all := hw_in5 172 rfl rfl
theorem mw_820 : Cond.instanceMethod yX7_isLetter ∈ hw_all := hw_in5 174 rfl rfl
theorem mw_821 : Cond.selects RX7 yX7_isLetter yX7_isLetter ∈ hw_all := hw_in0 40 rfl rfl
theorem mw_822 : Cond.code yX7_isLetter cX7_isLetter 2 (some .boolean) ∈ hw_all := hw_in5 175 rfl rfl
theorem mw_823 : Cond.methodLink RX7 198 yX7_isFigure ∈ hw_all := hw_in5 176 rfl rfl
theorem mw_824 : Cond.instanceMethod yX7_isFigure ∈ hw_all := hw_in5 178 rfl rfl
theorem mw_825 : Cond.selects RX7 yX7_isFigure yX7_isFigure ∈ hw_all := hw_in0 41 rfl rfl
theorem mw_826 : Cond.code yX7_isFigure cX7_isFigure 2 (some .boolean) ∈ hw_all := hw_in5 179 rfl rfl
theorem mw_827 : Cond.methodLink RX7 235 yX7_takesKey ∈ hw_all := hw_in5 180 rfl rfl
theorem mw_828 : Cond.instanceMethod yX7_takesKey ∈ hw_all := hw_in5 182 rfl rfl
theorem mw_829 : Cond.selects RX7 yX7_takesKey yX7_takesKey ∈ hw_all := hw_in0 42 rfl rfl
theorem mw_830 : Cond.code yX7_takesKey cX7_takesKey 5 (some .boolean) ∈ hw_all := hw_in5 183 rfl rfl
theorem mw_831 : Cond.methodLink RX7 238 yX7_takesE ∈ hw_all := hw_in5 184 rfl rfl
theorem mw_832 : Cond.instanceMethod yX7_takesE ∈ hw_all := hw_in5 186 rfl rfl
theorem mw_833 : Cond.selects RX7 yX7_takesE yX7_takesE ∈ hw_all := hw_in0 43 rfl rfl
theorem mw_834 : Cond.code yX7_takesE cX7_takesE 5 (some .boolean) ∈ hw_all := hw_in5 187 rfl rfl
theorem mw_835 : Cond.fieldLink RX7 207 "HumWireModel" "held" "I" ∈ hw_all := hw_in4 126 rfl rfl
theorem mw_836 : Cond.methodLink RX7 225 yX7_takesPart ∈ hw_all := hw_in5 188 rfl rfl
theorem mw_837 : Cond.instanceMethod yX7_takesPart ∈ hw_all := hw_in5 190 rfl rfl
theorem mw_838 : Cond.selects RX7 yX7_takesPart yX7_takesPart ∈ hw_all := hw_in0 44 rfl rfl
theorem mw_839 : Cond.code yX7_takesPart cX7_takesPart 2 (some .boolean) ∈ hw_all := hw_in5 191 rfl rfl
theorem mw_840 : Cond.methodLink RX7 216 yX7_nameOf ∈ hw_all := hw_in5 192 rfl rfl
theorem mw_841 : Cond.instanceMethod yX7_nameOf ∈ hw_all := hw_in5 194 rfl rfl
theorem mw_842 : Cond.selects RX7 yX7_nameOf yX7_nameOf ∈ hw_all := hw_in0 45 rfl rfl
theorem mw_843 : Cond.code yX7_nameOf cX7_nameOf 2 (some .int) ∈ hw_all := hw_in5 195 rfl rfl
theorem mw_844 : Cond.methodLink RX7 222 yX7_settle ∈ hw_all := hw_in5 196 rfl rfl
theorem mw_845 : Cond.instanceMethod yX7_settle ∈ hw_all := hw_in5 198 rfl rfl
theorem mw_846 : Cond.selects RX7 yX7_settle yX7_settle ∈ hw_all := hw_in0 46 rfl rfl
theorem mw_847 : Cond.code yX7_settle cX7_settle 2 none ∈ hw_all := hw_in5 199 rfl rfl
theorem mw_848 : Cond.methodLink RX7 210 yX7_rank ∈ hw_all := hw_in5 200 rfl rfl
theorem mw_849 : Cond.static yX7_rank ∈ hw_all := hw_in5 201 rfl rfl
theorem mw_850 : Cond.code yX7_rank cX7_rank 1 (some .int) ∈ hw_all := hw_in5 202 rfl rfl
theorem mw_851 : Cond.methodLink RX7 229 yX7_notsOpen ∈ hw_all := hw_in5 203 rfl rfl
theorem mw_852 : Cond.instanceMethod yX7_notsOpen ∈ hw_all := hw_in5 205 rfl rfl
theorem mw_853 : Cond.selects RX7 yX7_notsOpen yX7_notsOpen ∈ hw_all := hw_in0 47 rfl rfl
theorem mw_854 : Cond.code yX7_notsOpen cX7_notsOpen 3 (some .int) ∈ hw_all := hw_in5 206 rfl rfl
theorem mw_855 : Cond.methodLink RX7 232 yX7_signHere ∈ hw_all := hw_in5 207 rfl rfl
theorem mw_856 : Cond.instanceMethod yX7_signHere ∈ hw_all := hw_in5 209 rfl rfl
theorem mw_857 : Cond.selects RX7 yX7_signHere yX7_signHere ∈ hw_all := hw_in0 48 rfl rfl
theorem mw_858 : Cond.code yX7_signHere cX7_signHere 1 (some .int) ∈ hw_all := hw_in5 210 rfl rfl
theorem mw_859 : Cond.methodLink RL 109 yX6_textTold ∈ hw_all := hw_in3 227 rfl rfl
theorem mw_860 : Cond.instanceMethod yX6_textTold ∈ hw_all := hw_in3 228 rfl rfl
theorem mw_861 : Cond.selects RX6 yX6_textTold yX6_textTold ∈ hw_all := hw_in3 229 rfl rfl
theorem mw_862 : Cond.code yX6_textTold cX6_textTold 3 (some .int) ∈ hw_all := hw_in3 230 rfl rfl
theorem mw_863 : Cond.fieldLink RX6 244 "HumWire$Law" "leaves" "I" ∈ hw_all := hw_in1 79 rfl rfl
theorem mw_864 : Cond.methodLink RL 112 yX7_textTold ∈ hw_all := hw_in5 211 rfl rfl
theorem mw_865 : Cond.instanceMethod yX7_textTold ∈ hw_all := hw_in5 212 rfl rfl
theorem mw_866 : Cond.selects RX7 yX7_textTold yX7_textTold ∈ hw_all := hw_in5 213 rfl rfl
theorem mw_867 : Cond.code yX7_textTold cX7_textTold 3 (some .int) ∈ hw_all := hw_in5 214 rfl rfl
theorem mw_868 : Cond.methodLink RL 113 yX6_why ∈ hw_all := hw_in3 231 rfl rfl
theorem mw_869 : Cond.instanceMethod yX6_why ∈ hw_all := hw_in3 232 rfl rfl
theorem mw_870 : Cond.selects RX6 yX6_why yX6_why ∈ hw_all := hw_in3 233 rfl rfl
theorem mw_871 : Cond.code yX6_why cX6_why 2 (some .int) ∈ hw_all := hw_in3 234 rfl rfl
theorem mw_872 : Cond.methodLink RL 116 yX7_why ∈ hw_all := hw_in5 215 rfl rfl
theorem mw_873 : Cond.instanceMethod yX7_why ∈ hw_all := hw_in5 216 rfl rfl
theorem mw_874 : Cond.selects RX7 yX7_why yX7_why ∈ hw_all := hw_in5 217 rfl rfl
theorem mw_875 : Cond.code yX7_why cX7_why 3 (some .int) ∈ hw_all := hw_in5 218 rfl rfl
theorem mw_876 : Cond.methodLink RL 117 yX6_sheet ∈ hw_all := hw_in3 235 rfl rfl
theorem mw_877 : Cond.instanceMethod yX6_sheet ∈ hw_all := hw_in3 236 rfl rfl
theorem mw_878 : Cond.selects RX6 yX6_sheet yX6_sheet ∈ hw_all := hw_in3 237 rfl rfl
theorem mw_879 : Cond.code yX6_sheet cX6_sheet 4 (some .int) ∈ hw_all := hw_in3 238 rfl rfl
theorem mw_880 : Cond.constant RX6 250 (-1000000014) ∈ hw_all := hw_in4 4 rfl rfl
theorem mw_881 : Cond.methodLink RX6 247 yX3_begin ∈ hw_all := hw_in3 239 rfl rfl
theorem mw_882 : Cond.instanceMethod yX3_begin ∈ hw_all := hw_in4 0 rfl rfl
theorem mw_883 : Cond.selects RX3 yX3_begin yX3_begin ∈ hw_all := hw_in4 1 rfl rfl
theorem mw_884 : Cond.code yX3_begin cX3_begin 3 none ∈ hw_all := hw_in4 2 rfl rfl
theorem mw_885 : Cond.methodLink RX3 22 yJ7_fill_53178 ∈ hw_all := hw_in4 3 rfl rfl
theorem mw_886 : Cond.methodLink RL 120 yX7_sheet ∈ hw_all := hw_in5 219 rfl rfl
theorem mw_887 : Cond.instanceMethod yX7_sheet ∈ hw_all := hw_in5 220 rfl rfl
theorem mw_888 : Cond.selects RX7 yX7_sheet yX7_sheet ∈ hw_all := hw_in5 221 rfl rfl
theorem mw_889 : Cond.code yX7_sheet cX7_sheet 5 (some .int) ∈ hw_all := hw_in5 222 rfl rfl
theorem mw_890 : Cond.constant RX7 247 (-1000000014) ∈ hw_all := hw_in5 226 rfl rfl
theorem mw_891 : Cond.methodLink RL 121 yX6_mark ∈ hw_all := hw_in4 5 rfl rfl
theorem mw_892 : Cond.instanceMethod yX6_mark ∈ hw_all := hw_in4 6 rfl rfl
theorem mw_893 : Cond.selects RX6 yX6_mark yX6_mark ∈ hw_all := hw_in4 7 rfl rfl
theorem mw_894 : Cond.code yX6_mark cX6_mark 5 (some .int) ∈ hw_all := hw_in4 8 rfl rfl
theorem mw_895 : Cond.constant RX6 254 (-1000000013) ∈ hw_all := hw_in4 10 rfl rfl
theorem mw_896 : Cond.fieldLink RX6 255 "HumWire$Sheet" "sort" "I" ∈ hw_all := hw_in1 180 rfl rfl
theorem mw_897 : Cond.constant RX6 261 (-99999) ∈ hw_all := hw_in4 11 rfl rfl
theorem mw_898 : Cond.methodLink RX6 251 yX3_hasPlace ∈ hw_all := hw_in4 9 rfl rfl
theorem mw_899 : Cond.methodLink RL 124 yX7_mark ∈ hw_all := hw_in5 227 rfl rfl
theorem mw_900 : Cond.instanceMethod yX7_mark ∈ hw_all := hw_in5 228 rfl rfl
theorem mw_901 : Cond.selects RX7 yX7_mark yX7_mark ∈ hw_all := hw_in5 229 rfl rfl
theorem mw_902 : Cond.code yX7_mark cX7_mark 4 (some .int) ∈ hw_all := hw_in5 230 rfl rfl
theorem mw_903 : Cond.constant RX7 249 (-1000000013) ∈ hw_all := hw_in5 232 rfl rfl
theorem mw_904 : Cond.constant RX7 250 (-99999) ∈ hw_all := hw_in5 233 rfl rfl
theorem mw_905 : Cond.methodLink RL 125 yX6_pour ∈ hw_all := hw_in4 12 rfl rfl
theorem mw_906 : Cond.instanceMethod yX6_pour ∈ hw_all := hw_in4 13 rfl rfl
theorem mw_907 : Cond.selects RX6 yX6_pour yX6_pour ∈ hw_all := hw_in4 14 rfl rfl
theorem mw_908 : Cond.code yX6_pour cX6_pour 6 (some .int) ∈ hw_all := hw_in4 15 rfl rfl
theorem mw_909 : Cond.methodLink RX6 265 yX6_within ∈ hw_all := hw_in4 16 rfl rfl
theorem mw_910 : Cond.methodLink RL 128 yX7_pour ∈ hw_all := hw_in5 238 rfl rfl
theorem mw_911 : Cond.instanceMethod yX7_pour ∈ hw_all := hw_in5 239 rfl rfl
theorem mw_912 : Cond.selects RX7 yX7_pour yX7_pour ∈ hw_all := hw_in6 0 rfl rfl
theorem mw_913 : Cond.code yX7_pour cX7_pour 6 (some .int) ∈ hw_all := hw_in6 1 rfl rfl
theorem mw_914 : Cond.methodLink RL 129 yX6_reads ∈ hw_all := hw_in4 17 rfl rfl
theorem mw_915 : Cond.instanceMethod yX6_reads ∈ hw_all := hw_in4 18 rfl rfl
theorem mw_916 : Cond.selects RX6 yX6_reads yX6_reads ∈ hw_all := hw_in4 19 rfl rfl
theorem mw_917 : Cond.code yX6_reads cX6_reads 6 (some .int) ∈ hw_all := hw_in4 20 rfl rfl
theorem mw_918 : Cond.methodLink RL 132 yX7_reads ∈ hw_all := hw_in6 2 rfl rfl
theorem mw_919 : Cond.instanceMethod yX7_reads ∈ hw_all := hw_in6 3 rfl rfl
theorem mw_920 : Cond.selects RX7 yX7_reads yX7_reads ∈ hw_all := hw_in6 4 rfl rfl
theorem mw_921 : Cond.code yX7_reads cX7_reads 5 (some .int) ∈ hw_all := hw_in6 5 rfl rfl
theorem mw_922 : Cond.methodLink RL 133 yX6_copy ∈ hw_all := hw_in4 21 rfl rfl
theorem mw_923 : Cond.instanceMethod yX6_copy ∈ hw_all := hw_in4 22 rfl rfl
theorem mw_924 : Cond.selects RX6 yX6_copy yX6_copy ∈ hw_all := hw_in4 23 rfl rfl
theorem mw_925 : Cond.code yX6_copy cX6_copy 8 (some .int) ∈ hw_all := hw_in4 24 rfl rfl
theorem mw_926 : Cond.methodLink RX6 272 arraycopyName ∈ hw_all := hw_in4 29 rfl rfl
theorem mw_927 : Cond.native arraycopyName ∈ hw_all := hw_in4 31 rfl rfl
theorem mw_928 : Cond.static arraycopyName ∈ hw_all := hw_in4 30 rfl rfl
theorem mw_929 : Cond.initialized "java/lang/System" ∈ hw_all := hw_in1 16 rfl rfl
theorem mw_930 : Cond.methodLink RX6 269 yX3_hasPlaces ∈ hw_all := hw_in4 25 rfl rfl
theorem mw_931 : Cond.instanceMethod yX3_hasPlaces ∈ hw_all := hw_in4 26 rfl rfl
theorem mw_932 : Cond.selects RX3 yX3_hasPlaces yX3_hasPlaces ∈ hw_all := hw_in4 27 rfl rfl
theorem mw_933 : Cond.code yX3_hasPlaces cX3_hasPlaces 3 (some .boolean) ∈ hw_all := hw_in4 28 rfl rfl
theorem mw_934 : Cond.methodLink RL 137 yX7_copy ∈ hw_all := hw_in6 6 rfl rfl
theorem mw_935 : Cond.instanceMethod yX7_copy ∈ hw_all := hw_in6 7 rfl rfl
theorem mw_936 : Cond.selects RX7 yX7_copy yX7_copy ∈ hw_all := hw_in6 8 rfl rfl
theorem mw_937 : Cond.code yX7_copy cX7_copy 7 (some .int) ∈ hw_all := hw_in6 9 rfl rfl
theorem mw_938 : Cond.methodLink RL 138 yX6_lay ∈ hw_all := hw_in4 32 rfl rfl
theorem mw_939 : Cond.instanceMethod yX6_lay ∈ hw_all := hw_in4 33 rfl rfl
theorem mw_940 : Cond.selects RX6 yX6_lay yX6_lay ∈ hw_all := hw_in4 34 rfl rfl
theorem mw_941 : Cond.code yX6_lay cX6_lay 6 (some .int) ∈ hw_all := hw_in4 35 rfl rfl
theorem mw_942 : Cond.fieldLink RX6 281 "HumWire$Slot" "thing" "I" ∈ hw_all := hw_in1 201 rfl rfl
theorem mw_943 : Cond.fieldLink RX6 284 "HumWire$Slot" "wire" "LHumWire$Wire;" ∈ hw_all := hw_in1 205 rfl rfl
theorem mw_944 : Cond.fieldLink RX6 287 "HumWire$Slot" "sheet" "LHumWire$Sheet;" ∈ hw_all := hw_in1 207 rfl rfl
theorem mw_945 : Cond.fieldLink RX6 294 "HumWire$Slot" "number" "I" ∈ hw_all := hw_in1 203 rfl rfl
theorem mw_946 : Cond.methodLink RX6 278 yX6_isSlot ∈ hw_all := hw_in4 36 rfl rfl
theorem mw_947 : Cond.static yX6_isSlot ∈ hw_all := hw_in4 37 rfl rfl
theorem mw_948 : Cond.code yX6_isSlot cX6_isSlot 1 (some .boolean) ∈ hw_all := hw_in4 38 rfl rfl
theorem mw_949 : Cond.methodLink RX6 291 yX3_become ∈ hw_all := hw_in4 39 rfl rfl
theorem mw_950 : Cond.instanceMethod yX3_become ∈ hw_all := hw_in4 40 rfl rfl
theorem mw_951 : Cond.selects RX3 yX3_become yX3_become ∈ hw_all := hw_in4 41 rfl rfl
theorem mw_952 : Cond.code yX3_become cX3_become 2 none ∈ hw_all := hw_in4 42 rfl rfl
theorem mw_953 : Cond.methodLink RX3 28 arraycopyName ∈ hw_all := hw_in4 43 rfl rfl
theorem mw_954 : Cond.methodLink RL 141 yX7_lay ∈ hw_all := hw_in6 10 rfl rfl
theorem mw_955 : Cond.instanceMethod yX7_lay ∈ hw_all := hw_in6 11 rfl rfl
theorem mw_956 : Cond.selects RX7 yX7_lay yX7_lay ∈ hw_all := hw_in6 12 rfl rfl
theorem mw_957 : Cond.code yX7_lay cX7_lay 6 (some .int) ∈ hw_all := hw_in6 13 rfl rfl
theorem mw_958 : Cond.methodLink RX7 251 yX7_isSlot ∈ hw_all := hw_in6 14 rfl rfl
theorem mw_959 : Cond.static yX7_isSlot ∈ hw_all := hw_in6 15 rfl rfl
theorem mw_960 : Cond.code yX7_isSlot cX7_isSlot 1 (some .boolean) ∈ hw_all := hw_in6 16 rfl rfl
theorem mw_961 : Cond.methodLink RL 142 yX6_ask ∈ hw_all := hw_in4 44 rfl rfl
theorem mw_962 : Cond.instanceMethod yX6_ask ∈ hw_all := hw_in4 45 rfl rfl
theorem mw_963 : Cond.selects RX6 yX6_ask yX6_ask ∈ hw_all := hw_in4 46 rfl rfl
theorem mw_964 : Cond.code yX6_ask cX6_ask 5 (some .int) ∈ hw_all := hw_in4 47 rfl rfl
theorem mw_965 : Cond.methodLink RX6 297 yX4_findingFor ∈ hw_all := hw_in4 48 rfl rfl
theorem mw_966 : Cond.instanceMethod yX4_findingFor ∈ hw_all := hw_in4 49 rfl rfl
theorem mw_967 : Cond.selects RX4 yX4_findingFor yX4_findingFor ∈ hw_all := hw_in4 50 rfl rfl
theorem mw_968 : Cond.code yX4_findingFor cX4_findingFor 2 (some .int) ∈ hw_all := hw_in4 51 rfl rfl
theorem mw_969 : Cond.constant RX4 32 (-1000000011) ∈ hw_all := hw_in4 52 rfl rfl
theorem mw_970 : Cond.constant RX4 33 (-1000000012) ∈ hw_all := hw_in4 53 rfl rfl
theorem mw_971 : Cond.methodLink RL 145 yX7_ask ∈ hw_all := hw_in6 17 rfl rfl
theorem mw_972 : Cond.instanceMethod yX7_ask ∈ hw_all := hw_in6 18 rfl rfl
theorem mw_973 : Cond.selects RX7 yX7_ask yX7_ask ∈ hw_all := hw_in6 19 rfl rfl
theorem mw_974 : Cond.code yX7_ask cX7_ask 3 (some .int) ∈ hw_all := hw_in6 20 rfl rfl
theorem mw_975 : Cond.methodLink RL 146 yX6_item ∈ hw_all := hw_in4 54 rfl rfl
theorem mw_976 : Cond.instanceMethod yX6_item ∈ hw_all := hw_in4 55 rfl rfl
theorem mw_977 : Cond.selects RX6 yX6_item yX6_item ∈ hw_all := hw_in4 56 rfl rfl
theorem mw_978 : Cond.code yX6_item cX6_item 5 (some .int) ∈ hw_all := hw_in4 57 rfl rfl
theorem mw_979 : Cond.methodLink RL 149 yX7_item ∈ hw_all := hw_in6 21 rfl rfl
theorem mw_980 : Cond.instanceMethod yX7_item ∈ hw_all := hw_in6 22 rfl rfl
theorem mw_981 : Cond.selects RX7 yX7_item yX7_item ∈ hw_all := hw_in6 23 rfl rfl
theorem mw_982 : Cond.code yX7_item cX7_item 4 (some .int) ∈ hw_all := hw_in6 24 rfl rfl
theorem mw_983 : Cond.methodLink RL 150 yX6_rest ∈ hw_all := hw_in4 58 rfl rfl
theorem mw_984 : Cond.instanceMethod yX6_rest ∈ hw_all := hw_in4 59 rfl rfl
theorem mw_985 : Cond.selects RX6 yX6_rest yX6_rest ∈ hw_all := hw_in4 60 rfl rfl
theorem mw_986 : Cond.code yX6_rest cX6_rest 5 (some .int) ∈ hw_all := hw_in4 61 rfl rfl
theorem mw_987 : Cond.constant RX6 300 (-1000000002) ∈ hw_all := hw_in4 62 rfl rfl
theorem mw_988 : Cond.methodLink RL 153 yX7_rest ∈ hw_all := hw_in6 25 rfl rfl
theorem mw_989 : Cond.instanceMethod yX7_rest ∈ hw_all := hw_in6 26 rfl rfl
theorem mw_990 : Cond.selects RX7 yX7_rest yX7_rest ∈ hw_all := hw_in6 27 rfl rfl
theorem mw_991 : Cond.code yX7_rest cX7_rest 3 (some .int) ∈ hw_all := hw_in6 28 rfl rfl
theorem mw_992 : Cond.constant RX7 254 (-1000000002) ∈ hw_all := hw_in6 29 rfl rfl
theorem mw_993 : Cond.methodLink RL 154 yX6_tell ∈ hw_all := hw_in4 63 rfl rfl
theorem mw_994 : Cond.instanceMethod yX6_tell ∈ hw_all := hw_in4 64 rfl rfl
theorem mw_995 : Cond.selects RX6 yX6_tell yX6_tell ∈ hw_all := hw_in4 65 rfl rfl
theorem mw_996 : Cond.code yX6_tell cX6_tell 2 (some .int) ∈ hw_all := hw_in4 66 rfl rfl
theorem mw_997 : Cond.methodLink RL 157 yX7_tell ∈ hw_all := hw_in6 30 rfl rfl
theorem mw_998 : Cond.instanceMethod yX7_tell ∈ hw_all := hw_in6 31 rfl rfl
theorem mw_999 : Cond.selects RX7 yX7_tell yX7_tell ∈ hw_all := hw_in6 32 rfl rfl
theorem mw_1000 : Cond.code yX7_tell cX7_tell 2 (some .int) ∈ hw_all := hw_in6 33 rfl rfl
theorem mw_1001 : Cond.fieldLink RX7 255 "HumWireModel" "waiting" "I" ∈ hw_all := hw_in4 139 rfl rfl
theorem mw_1002 : Cond.methodLink RL 158 yX6_check ∈ hw_all := hw_in4 67 rfl rfl
theorem mw_1003 : Cond.instanceMethod yX6_check ∈ hw_all := hw_in4 68 rfl rfl
theorem mw_1004 : Cond.selects RX6 yX6_check yX6_check ∈ hw_all := hw_in4 69 rfl rfl
theorem mw_1005 : Cond.code yX6_check cX6_check 6 (some .int) ∈ hw_all := hw_in4 70 rfl rfl
theorem mw_1006 : Cond.methodLink RX6 301 yX6_hoursToldRight ∈ hw_all := hw_in4 71 rfl rfl
theorem mw_1007 : Cond.instanceMethod yX6_hoursToldRight ∈ hw_all := hw_in4 73 rfl rfl
theorem mw_1008 : Cond.selects RX6 yX6_hoursToldRight yX6_hoursToldRight ∈ hw_all := hw_in0 19 rfl rfl
theorem mw_1009 : Cond.code yX6_hoursToldRight cX6_hoursToldRight 5 (some .int) ∈ hw_all := hw_in4 74 rfl rfl
theorem mw_1010 : Cond.methodLink RL 161 yX7_check ∈ hw_all := hw_in6 34 rfl rfl
theorem mw_1011 : Cond.instanceMethod yX7_check ∈ hw_all := hw_in6 35 rfl rfl
theorem mw_1012 : Cond.selects RX7 yX7_check yX7_check ∈ hw_all := hw_in6 36 rfl rfl
theorem mw_1013 : Cond.code yX7_check cX7_check 5 (some .int) ∈ hw_all := hw_in6 37 rfl rfl
theorem mw_1014 : Cond.fieldLink RX7 258 "HumWireModel" "hasImage" "Z" ∈ hw_all := hw_in4 106 rfl rfl
theorem mw_1015 : Cond.methodLink RX7 262 yX7_copyAll ∈ hw_all := hw_in6 38 rfl rfl
theorem mw_1016 : Cond.static yX7_copyAll ∈ hw_all := hw_in6 39 rfl rfl
theorem mw_1017 : Cond.code yX7_copyAll cX7_copyAll 3 none ∈ hw_all := hw_in6 40 rfl rfl
theorem mw_1018 : Cond.methodLink RX7 266 yX7_rightHours ∈ hw_all := hw_in6 41 rfl rfl
theorem mw_1019 : Cond.instanceMethod yX7_rightHours ∈ hw_all := hw_in6 43 rfl rfl
theorem mw_1020 : Cond.selects RX7 yX7_rightHours yX7_rightHours ∈ hw_all := hw_in0 49 rfl rfl
theorem mw_1021 : Cond.code yX7_rightHours cX7_rightHours 8 (some .int) ∈ hw_all := hw_in6 44 rfl rfl
theorem mw_1022 : Cond.methodLink RL 162 yX6_keep ∈ hw_all := hw_in4 75 rfl rfl
theorem mw_1023 : Cond.instanceMethod yX6_keep ∈ hw_all := hw_in4 76 rfl rfl
theorem mw_1024 : Cond.selects RX6 yX6_keep yX6_keep ∈ hw_all := hw_in4 77 rfl rfl
theorem mw_1025 : Cond.code yX6_keep cX6_keep 1 (some .int) ∈ hw_all := hw_in4 78 rfl rfl
theorem mw_1026 : Cond.methodLink RX6 304 yX2_become ∈ hw_all := hw_in4 79 rfl rfl
theorem mw_1027 : Cond.instanceMethod yX2_become ∈ hw_all := hw_in4 80 rfl rfl
theorem mw_1028 : Cond.selects RX2 yX2_become yX2_become ∈ hw_all := hw_in4 81 rfl rfl
theorem mw_1029 : Cond.code yX2_become cX2_become 3 none ∈ hw_all := hw_in4 82 rfl rfl
theorem mw_1030 : Cond.methodLink RX2 55 arraycopyName ∈ hw_all := hw_in4 83 rfl rfl
theorem mw_1031 : Cond.methodLink RX2 61 yX5_become ∈ hw_all := hw_in4 84 rfl rfl
theorem mw_1032 : Cond.methodLink RL 165 yX7_keep ∈ hw_all := hw_in6 45 rfl rfl
theorem mw_1033 : Cond.instanceMethod yX7_keep ∈ hw_all := hw_in6 46 rfl rfl
theorem mw_1034 : Cond.selects RX7 yX7_keep yX7_keep ∈ hw_all := hw_in6 47 rfl rfl
theorem mw_1035 : Cond.code yX7_keep cX7_keep 1 (some .int) ∈ hw_all := hw_in6 48 rfl rfl
theorem mw_1036 : Cond.methodLink RL 166 yX6_back ∈ hw_all := hw_in4 85 rfl rfl
theorem mw_1037 : Cond.instanceMethod yX6_back ∈ hw_all := hw_in4 86 rfl rfl
theorem mw_1038 : Cond.selects RX6 yX6_back yX6_back ∈ hw_all := hw_in4 87 rfl rfl
theorem mw_1039 : Cond.code yX6_back cX6_back 1 (some .int) ∈ hw_all := hw_in4 88 rfl rfl
theorem mw_1040 : Cond.methodLink RL 169 yX7_back ∈ hw_all := hw_in6 49 rfl rfl
theorem mw_1041 : Cond.instanceMethod yX7_back ∈ hw_all := hw_in6 50 rfl rfl
theorem mw_1042 : Cond.selects RX7 yX7_back yX7_back ∈ hw_all := hw_in6 51 rfl rfl
theorem mw_1043 : Cond.code yX7_back cX7_back 1 (some .int) ∈ hw_all := hw_in6 52 rfl rfl
theorem mw_1044 : Cond.methodLink RL 170 yX6_count ∈ hw_all := hw_in4 89 rfl rfl
theorem mw_1045 : Cond.instanceMethod yX6_count ∈ hw_all := hw_in4 90 rfl rfl
theorem mw_1046 : Cond.selects RX6 yX6_count yX6_count ∈ hw_all := hw_in4 91 rfl rfl
theorem mw_1047 : Cond.code yX6_count cX6_count 2 (some .int) ∈ hw_all := hw_in4 92 rfl rfl
theorem mw_1048 : Cond.methodLink RX6 307 yX2_heldCount ∈ hw_all := hw_in4 93 rfl rfl
theorem mw_1049 : Cond.instanceMethod yX2_heldCount ∈ hw_all := hw_in4 94 rfl rfl
theorem mw_1050 : Cond.selects RX2 yX2_heldCount yX2_heldCount ∈ hw_all := hw_in4 95 rfl rfl
theorem mw_1051 : Cond.code yX2_heldCount cX2_heldCount 3 (some .int) ∈ hw_all := hw_in4 96 rfl rfl
theorem mw_1052 : Cond.methodLink RL 173 yX7_count ∈ hw_all := hw_in6 53 rfl rfl
theorem mw_1053 : Cond.instanceMethod yX7_count ∈ hw_all := hw_in6 54 rfl rfl
theorem mw_1054 : Cond.selects RX7 yX7_count yX7_count ∈ hw_all := hw_in6 55 rfl rfl
theorem mw_1055 : Cond.code yX7_count cX7_count 4 (some .int) ∈ hw_all := hw_in6 56 rfl rfl
theorem mw_1056 : Cond.lays "HumWire$Law" "HumWire$Law" "key" "I" ∈ hw_all := hw_in1 82 rfl rfl
theorem mw_1057 : Cond.lays "HumWire$Law" "HumWire$Law" "leaves" "I" ∈ hw_all := hw_in1 84 rfl rfl
theorem mw_1058 : Cond.laysFinal "HumWire$Law" "HumWire$Law" "code" "[I" ∈ hw_all := hw_in1 86 rfl rfl
theorem mw_1059 : Cond.lays "HumWire$Law" "HumWire$Law" "size" "I" ∈ hw_all := hw_in1 88 rfl rfl
theorem inX0 : ∀ w ∈ u_ws RX0 TX0 4, w ∈ hw_all := List.forall_mem_cons.mpr ⟨mw_1056, List.forall_mem_cons.mpr ⟨mw_1057, List.forall_mem_cons.mpr ⟨mw_1058, List.forall_mem_cons.mpr ⟨mw_1059, fun _ h => absurd h List.not_mem_nil⟩⟩⟩⟩
theorem mw_1060 : Cond.lays "HumWire$Reader" "HumWire$Reader" "bytes" "[B" ∈ hw_all := hw_in1 159 rfl rfl
theorem mw_1061 : Cond.lays "HumWire$Reader" "HumWire$Reader" "size" "I" ∈ hw_all := hw_in1 161 rfl rfl
theorem mw_1062 : Cond.lays "HumWire$Reader" "HumWire$Reader" "law" "LHumWire$Law;" ∈ hw_all := hw_in1 163 rfl rfl
theorem mw_1063 : Cond.lays "HumWire$Reader" "HumWire$Reader" "sort" "I" ∈ hw_all := hw_in1 165 rfl rfl
theorem mw_1064 : Cond.lays "HumWire$Reader" "HumWire$Reader" "needsBlank" "Z" ∈ hw_all := hw_in1 167 rfl rfl
theorem mw_1065 : Cond.lays "HumWire$Reader" "HumWire$Reader" "to" "I" ∈ hw_all := hw_in1 169 rfl rfl
theorem mw_1066 : Cond.lays "HumWire$Reader" "HumWire$Reader" "from" "I" ∈ hw_all := hw_in1 171 rfl rfl
theorem inX1 : ∀ w ∈ u_ws RX1 TX1 7, w ∈ hw_all := List.forall_mem_cons.mpr ⟨mw_1060, List.forall_mem_cons.mpr ⟨mw_1061, List.forall_mem_cons.mpr ⟨mw_1062, List.forall_mem_cons.mpr ⟨mw_1063, List.forall_mem_cons.mpr ⟨mw_1064, List.forall_mem_cons.mpr ⟨mw_1065, List.forall_mem_cons.mpr ⟨mw_1066, fun _ h => absurd h List.not_mem_nil⟩⟩⟩⟩⟩⟩⟩
theorem mw_1067 : Cond.laysFinal "HumWire$Scene" "HumWire$Scene" "laws" "[LHumWire$Law;" ∈ hw_all := hw_in1 124 rfl rfl
theorem mw_1068 : Cond.laysFinal "HumWire$Scene" "HumWire$Scene" "stack" "[I" ∈ hw_all := hw_in1 126 rfl rfl
theorem mw_1069 : Cond.laysFinal "HumWire$Scene" "HumWire$Scene" "winds" "[I" ∈ hw_all := hw_in1 128 rfl rfl
theorem mw_1070 : Cond.laysFinal "HumWire$Scene" "HumWire$Scene" "wires" "[LHumWire$Wire;" ∈ hw_all := hw_in1 130 rfl rfl
theorem mw_1071 : Cond.laysFinal "HumWire$Scene" "HumWire$Scene" "newest" "[I" ∈ hw_all := hw_in1 132 rfl rfl
theorem mw_1072 : Cond.lays "HumWire$Scene" "HumWire$Scene" "textCount" "I" ∈ hw_all := hw_in1 134 rfl rfl
theorem mw_1073 : Cond.lays "HumWire$Scene" "HumWire$Scene" "wireCount" "I" ∈ hw_all := hw_in1 136 rfl rfl
theorem mw_1074 : Cond.lays "HumWire$Scene" "HumWire$Scene" "hour" "I" ∈ hw_all := hw_in1 138 rfl rfl
theorem mw_1075 : Cond.lays "HumWire$Scene" "HumWire$Scene" "limit" "I" ∈ hw_all := hw_in1 140 rfl rfl
theorem mw_1076 : Cond.lays "HumWire$Scene" "HumWire$Scene" "z" "I" ∈ hw_all := hw_in1 142 rfl rfl
theorem inX2 : ∀ w ∈ u_ws RX2 TX2 10, w ∈ hw_all := List.forall_mem_cons.mpr ⟨mw_1067, List.forall_mem_cons.mpr ⟨mw_1068, List.forall_mem_cons.mpr ⟨mw_1069, List.forall_mem_cons.mpr ⟨mw_1070, List.forall_mem_cons.mpr ⟨mw_1071, List.forall_mem_cons.mpr ⟨mw_1072, List.forall_mem_cons.mpr ⟨mw_1073, List.forall_mem_cons.mpr ⟨mw_1074, List.forall_mem_cons.mpr ⟨mw_1075, List.forall_mem_cons.mpr ⟨mw_1076, fun _ h => absurd h List.not_mem_nil⟩⟩⟩⟩⟩⟩⟩⟩⟩⟩
theorem mw_1077 : Cond.lays "HumWire$Sheet" "HumWire$Sheet" "sort" "I" ∈ hw_all := hw_in1 184 rfl rfl
theorem mw_1078 : Cond.lays "HumWire$Sheet" "HumWire$Sheet" "places" "I" ∈ hw_all := hw_in1 186 rfl rfl
theorem mw_1079 : Cond.laysFinal "HumWire$Sheet" "HumWire$Sheet" "numbers" "[I" ∈ hw_all := hw_in1 188 rfl rfl
theorem inX3 : ∀ w ∈ u_ws RX3 TX3 3, w ∈ hw_all := List.forall_mem_cons.mpr ⟨mw_1077, List.forall_mem_cons.mpr ⟨mw_1078, List.forall_mem_cons.mpr ⟨mw_1079, fun _ h => absurd h List.not_mem_nil⟩⟩⟩
theorem mw_1080 : Cond.lays "HumWire$Slot" "HumWire$Slot" "thing" "I" ∈ hw_all := hw_in1 208 rfl rfl
theorem mw_1081 : Cond.lays "HumWire$Slot" "HumWire$Slot" "number" "I" ∈ hw_all := hw_in1 210 rfl rfl
theorem mw_1082 : Cond.laysFinal "HumWire$Slot" "HumWire$Slot" "wire" "LHumWire$Wire;" ∈ hw_all := hw_in1 212 rfl rfl
theorem mw_1083 : Cond.laysFinal "HumWire$Slot" "HumWire$Slot" "sheet" "LHumWire$Sheet;" ∈ hw_all := hw_in1 214 rfl rfl
theorem inX4 : ∀ w ∈ u_ws RX4 TX4 4, w ∈ hw_all := List.forall_mem_cons.mpr ⟨mw_1080, List.forall_mem_cons.mpr ⟨mw_1081, List.forall_mem_cons.mpr ⟨mw_1082, List.forall_mem_cons.mpr ⟨mw_1083, fun _ h => absurd h List.not_mem_nil⟩⟩⟩⟩
theorem mw_1084 : Cond.lays "HumWire$Wire" "HumWire$Wire" "kind" "I" ∈ hw_all := hw_in1 49 rfl rfl
theorem mw_1085 : Cond.lays "HumWire$Wire" "HumWire$Wire" "thick" "I" ∈ hw_all := hw_in1 51 rfl rfl
theorem mw_1086 : Cond.lays "HumWire$Wire" "HumWire$Wire" "own" "I" ∈ hw_all := hw_in1 53 rfl rfl
theorem mw_1087 : Cond.lays "HumWire$Wire" "HumWire$Wire" "loss" "I" ∈ hw_all := hw_in1 55 rfl rfl
theorem mw_1088 : Cond.lays "HumWire$Wire" "HumWire$Wire" "swing" "I" ∈ hw_all := hw_in1 57 rfl rfl
theorem mw_1089 : Cond.lays "HumWire$Wire" "HumWire$Wire" "held" "Z" ∈ hw_all := hw_in1 59 rfl rfl
theorem mw_1090 : Cond.lays "HumWire$Wire" "HumWire$Wire" "tired" "I" ∈ hw_all := hw_in1 61 rfl rfl
theorem inX5 : ∀ w ∈ u_ws RX5 TX5 7, w ∈ hw_all := List.forall_mem_cons.mpr ⟨mw_1084, List.forall_mem_cons.mpr ⟨mw_1085, List.forall_mem_cons.mpr ⟨mw_1086, List.forall_mem_cons.mpr ⟨mw_1087, List.forall_mem_cons.mpr ⟨mw_1088, List.forall_mem_cons.mpr ⟨mw_1089, List.forall_mem_cons.mpr ⟨mw_1090, fun _ h => absurd h List.not_mem_nil⟩⟩⟩⟩⟩⟩⟩
theorem mw_1091 : Cond.laysFinal "HumWire" "HumWire" "laws" "[LHumWire$Law;" ∈ hw_all := hw_in1 229 rfl rfl
theorem mw_1092 : Cond.laysFinal "HumWire" "HumWire" "now" "LHumWire$Scene;" ∈ hw_all := hw_in1 231 rfl rfl
theorem mw_1093 : Cond.laysFinal "HumWire" "HumWire" "image" "LHumWire$Scene;" ∈ hw_all := hw_in1 233 rfl rfl
theorem mw_1094 : Cond.lays "HumWire" "HumWire" "imageKept" "Z" ∈ hw_all := hw_in1 235 rfl rfl
theorem mw_1095 : Cond.laysFinal "HumWire" "HumWire" "thought" "LHumWire$Wire;" ∈ hw_all := hw_in1 237 rfl rfl
theorem mw_1096 : Cond.laysFinal "HumWire" "HumWire" "tape" "[B" ∈ hw_all := hw_in1 239 rfl rfl
theorem mw_1097 : Cond.lays "HumWire" "HumWire" "tapeBytes" "I" ∈ hw_all := hw_in2 1 rfl rfl
theorem mw_1098 : Cond.laysFinal "HumWire" "HumWire" "reader" "LHumWire$Reader;" ∈ hw_all := hw_in2 3 rfl rfl
theorem mw_1099 : Cond.laysFinal "HumWire" "HumWire" "sheets" "[LHumWire$Sheet;" ∈ hw_all := hw_in2 5 rfl rfl
theorem mw_1100 : Cond.laysFinal "HumWire" "HumWire" "slots" "[LHumWire$Slot;" ∈ hw_all := hw_in2 7 rfl rfl
theorem mw_1101 : Cond.laysFinal "HumWire" "HumWire" "waiting" "[I" ∈ hw_all := hw_in2 9 rfl rfl
theorem mw_1102 : Cond.lays "HumWire" "HumWire" "waitingCount" "I" ∈ hw_all := hw_in2 11 rfl rfl
theorem inX6 : ∀ w ∈ u_ws RX6 TX6 12, w ∈ hw_all := List.forall_mem_cons.mpr ⟨mw_1091, List.forall_mem_cons.mpr ⟨mw_1092, List.forall_mem_cons.mpr ⟨mw_1093, List.forall_mem_cons.mpr ⟨mw_1094, List.forall_mem_cons.mpr ⟨mw_1095, List.forall_mem_cons.mpr ⟨mw_1096, List.forall_mem_cons.mpr ⟨mw_1097, List.forall_mem_cons.mpr ⟨mw_1098, List.forall_mem_cons.mpr ⟨mw_1099, List.forall_mem_cons.mpr ⟨mw_1100, List.forall_mem_cons.mpr ⟨mw_1101, List.forall_mem_cons.mpr ⟨mw_1102, fun _ h => absurd h List.not_mem_nil⟩⟩⟩⟩⟩⟩⟩⟩⟩⟩⟩⟩
theorem mw_1103 : Cond.laysFinal "HumWireModel" "HumWireModel" "now" "[I" ∈ hw_all := hw_in4 140 rfl rfl
theorem mw_1104 : Cond.laysFinal "HumWireModel" "HumWireModel" "image" "[I" ∈ hw_all := hw_in4 142 rfl rfl
theorem mw_1105 : Cond.laysFinal "HumWireModel" "HumWireModel" "aside" "[I" ∈ hw_all := hw_in4 144 rfl rfl
theorem mw_1106 : Cond.lays "HumWireModel" "HumWireModel" "hasImage" "Z" ∈ hw_all := hw_in4 146 rfl rfl
theorem mw_1107 : Cond.laysFinal "HumWireModel" "HumWireModel" "before" "[I" ∈ hw_all := hw_in4 148 rfl rfl
theorem mw_1108 : Cond.lays "HumWireModel" "HumWireModel" "heldMany" "I" ∈ hw_all := hw_in4 150 rfl rfl
theorem mw_1109 : Cond.lays "HumWireModel" "HumWireModel" "tiredThen" "I" ∈ hw_all := hw_in4 152 rfl rfl
theorem mw_1110 : Cond.lays "HumWireModel" "HumWireModel" "swingMost" "I" ∈ hw_all := hw_in4 154 rfl rfl
theorem mw_1111 : Cond.laysFinal "HumWireModel" "HumWireModel" "tones" "[I" ∈ hw_all := hw_in4 156 rfl rfl
theorem mw_1112 : Cond.laysFinal "HumWireModel" "HumWireModel" "tape" "[I" ∈ hw_all := hw_in4 158 rfl rfl
theorem mw_1113 : Cond.lays "HumWireModel" "HumWireModel" "taped" "I" ∈ hw_all := hw_in4 160 rfl rfl
theorem mw_1114 : Cond.lays "HumWireModel" "HumWireModel" "next" "I" ∈ hw_all := hw_in4 162 rfl rfl
theorem mw_1115 : Cond.lays "HumWireModel" "HumWireModel" "from" "I" ∈ hw_all := hw_in4 164 rfl rfl
theorem mw_1116 : Cond.lays "HumWireModel" "HumWireModel" "token" "I" ∈ hw_all := hw_in4 166 rfl rfl
theorem mw_1117 : Cond.lays "HumWireModel" "HumWireModel" "value" "I" ∈ hw_all := hw_in4 168 rfl rfl
theorem mw_1118 : Cond.lays "HumWireModel" "HumWireModel" "ended" "I" ∈ hw_all := hw_in4 170 rfl rfl
theorem mw_1119 : Cond.lays "HumWireModel" "HumWireModel" "key" "I" ∈ hw_all := hw_in4 172 rfl rfl
theorem mw_1120 : Cond.laysFinal "HumWireModel" "HumWireModel" "keys" "[C" ∈ hw_all := hw_in4 174 rfl rfl
theorem mw_1121 : Cond.laysFinal "HumWireModel" "HumWireModel" "keyAt" "[I" ∈ hw_all := hw_in4 176 rfl rfl
theorem mw_1122 : Cond.laysFinal "HumWireModel" "HumWireModel" "code" "[I" ∈ hw_all := hw_in4 178 rfl rfl
theorem mw_1123 : Cond.lays "HumWireModel" "HumWireModel" "codes" "I" ∈ hw_all := hw_in4 180 rfl rfl
theorem mw_1124 : Cond.lays "HumWireModel" "HumWireModel" "atoms" "I" ∈ hw_all := hw_in4 182 rfl rfl
theorem mw_1125 : Cond.laysFinal "HumWireModel" "HumWireModel" "waits" "[I" ∈ hw_all := hw_in4 184 rfl rfl
theorem mw_1126 : Cond.lays "HumWireModel" "HumWireModel" "held" "I" ∈ hw_all := hw_in4 186 rfl rfl
theorem mw_1127 : Cond.laysFinal "HumWireModel" "HumWireModel" "tested" "[Z" ∈ hw_all := hw_in4 188 rfl rfl
theorem mw_1128 : Cond.laysFinal "HumWireModel" "HumWireModel" "stack" "[I" ∈ hw_all := hw_in4 190 rfl rfl
theorem mw_1129 : Cond.laysFinal "HumWireModel" "HumWireModel" "facts" "[I" ∈ hw_all := hw_in4 192 rfl rfl
theorem mw_1130 : Cond.laysFinal "HumWireModel" "HumWireModel" "sorts" "[I" ∈ hw_all := hw_in4 194 rfl rfl
theorem mw_1131 : Cond.laysFinal "HumWireModel" "HumWireModel" "sizes" "[I" ∈ hw_all := hw_in4 196 rfl rfl
theorem mw_1132 : Cond.laysFinal "HumWireModel" "HumWireModel" "cells" "[I" ∈ hw_all := hw_in4 198 rfl rfl
theorem mw_1133 : Cond.laysFinal "HumWireModel" "HumWireModel" "holds" "[I" ∈ hw_all := hw_in4 200 rfl rfl
theorem mw_1134 : Cond.laysFinal "HumWireModel" "HumWireModel" "holdsA" "[I" ∈ hw_all := hw_in4 202 rfl rfl
theorem mw_1135 : Cond.laysFinal "HumWireModel" "HumWireModel" "holdsB" "[I" ∈ hw_all := hw_in4 204 rfl rfl
theorem mw_1136 : Cond.laysFinal "HumWireModel" "HumWireModel" "heldCells" "[I" ∈ hw_all := hw_in4 206 rfl rfl
theorem mw_1137 : Cond.laysFinal "HumWireModel" "HumWireModel" "moved" "[I" ∈ hw_all := hw_in4 208 rfl rfl
theorem mw_1138 : Cond.laysFinal "HumWireModel" "HumWireModel" "tells" "[I" ∈ hw_all := hw_in4 210 rfl rfl
theorem mw_1139 : Cond.lays "HumWireModel" "HumWireModel" "waiting" "I" ∈ hw_all := hw_in4 212 rfl rfl
theorem inX7 : ∀ w ∈ u_ws RX7 TX7 37, w ∈ hw_all := List.forall_mem_cons.mpr ⟨mw_1103, List.forall_mem_cons.mpr ⟨mw_1104, List.forall_mem_cons.mpr ⟨mw_1105, List.forall_mem_cons.mpr ⟨mw_1106, List.forall_mem_cons.mpr ⟨mw_1107, List.forall_mem_cons.mpr ⟨mw_1108, List.forall_mem_cons.mpr ⟨mw_1109, List.forall_mem_cons.mpr ⟨mw_1110, List.forall_mem_cons.mpr ⟨mw_1111, List.forall_mem_cons.mpr ⟨mw_1112, List.forall_mem_cons.mpr ⟨mw_1113, List.forall_mem_cons.mpr ⟨mw_1114, List.forall_mem_cons.mpr ⟨mw_1115, List.forall_mem_cons.mpr ⟨mw_1116, List.forall_mem_cons.mpr ⟨mw_1117, List.forall_mem_cons.mpr ⟨mw_1118, List.forall_mem_cons.mpr ⟨mw_1119, List.forall_mem_cons.mpr ⟨mw_1120, List.forall_mem_cons.mpr ⟨mw_1121, List.forall_mem_cons.mpr ⟨mw_1122, List.forall_mem_cons.mpr ⟨mw_1123, List.forall_mem_cons.mpr ⟨mw_1124, List.forall_mem_cons.mpr ⟨mw_1125, List.forall_mem_cons.mpr ⟨mw_1126, List.forall_mem_cons.mpr ⟨mw_1127, List.forall_mem_cons.mpr ⟨mw_1128, List.forall_mem_cons.mpr ⟨mw_1129, List.forall_mem_cons.mpr ⟨mw_1130, List.forall_mem_cons.mpr ⟨mw_1131, List.forall_mem_cons.mpr ⟨mw_1132, List.forall_mem_cons.mpr ⟨mw_1133, List.forall_mem_cons.mpr ⟨mw_1134, List.forall_mem_cons.mpr ⟨mw_1135, List.forall_mem_cons.mpr ⟨mw_1136, List.forall_mem_cons.mpr ⟨mw_1137, List.forall_mem_cons.mpr ⟨mw_1138, List.forall_mem_cons.mpr ⟨mw_1139, fun _ h => absurd h List.not_mem_nil⟩⟩⟩⟩⟩⟩⟩⟩⟩⟩⟩⟩⟩⟩⟩⟩⟩⟩⟩⟩⟩⟩⟩⟩⟩⟩⟩⟩⟩⟩⟩⟩⟩⟩⟩⟩⟩
end
section
/-! my world: every cell of the system has a tag; 0 .. 87 the class, 200 .. 222 the reference -/
def hw_kdH : List Nat := [6, 2, 2, 10, 10, 21, 21, 10, 10, 20, 10, 5, 11, 1, 22, 23, 10, 11, 5, 5, 5, 5, 5, 5, 5, 5, 5, 5, 5, 5, 0, 0, 0, 0, 0, 0, 0, 0, 0, 0, 0, 0, 0, 0, 0, 10, 10, 10, 10, 10, 10, 10, 10, 10, 10, 10, 10, 10, 10, 10, 3, 3, 3, 3, 10, 10, 10, 10, 4, 4, 4, 4, 4, 5, 5, 5, 5, 5, 3, 3, 3, 3, 3, 10, 10, 10, 10, 10]
def hw_kdM : List Nat := [7, 10, 10, 10, 10, 10, 10, 12, 10, 10, 10, 13, 10, 10, 10, 10, 10, 10, 10, 10, 10, 10, 10]
def hw_lnH : List Nat := [0, 0, 0, 24, 24, 6, 6, 3, 3, 15, 96, 0, 96, 0, 4, 5, 60, 0, 0, 0, 0, 0, 0, 0, 0, 0, 0, 0, 0, 0, 0, 0, 0, 0, 0, 0, 0, 0, 0, 0, 0, 0, 0, 0, 0, 96, 96, 96, 96, 96, 96, 96, 96, 96, 96, 96, 96, 96, 96, 96, 0, 0, 0, 0, 24, 24, 24, 24, 0, 0, 0, 0, 0, 0, 0, 0, 0, 0, 0, 0, 0, 0, 0, 24, 24, 24, 24, 24]
def hw_lnM : List Nat := [0, 1443, 1443, 1443, 7, 24, 96, 12, 4, 96, 96, 10, 96, 4, 4, 4, 96, 5, 5, 5, 120, 24, 60]
/-- the kind of a cell: below 10 a class of vwCl, 10 .. 13 rows of numbers, 20 .. 23 rows of cells, 99 none -/
def hw_kd (t : Nat) : Nat := if t < 200 then hw_kdH.getD t 99 else hw_kdM.getD (t - 200) 99
def hw_ln (t : Nat) : Nat := if t < 200 then hw_lnH.getD t 0 else hw_lnM.getD (t - 200) 0
/-- field kinds: 0 a number, 1 a cell that stays, 2 a cell that may change -/
def hw_fkL : List (List Nat) := [[0, 0, 1, 0], [2, 0, 2, 0, 0, 0, 0], [1, 1, 1, 1, 1, 0, 0, 0, 0, 0], [0, 0, 1], [0, 0, 1, 1], [0, 0, 0, 0, 0, 0, 0], [1, 1, 1, 0, 1, 1, 0, 1, 1, 1, 1, 0], [1, 1, 1, 0, 1, 0, 0, 0, 1, 1, 0, 0, 0, 0, 0, 0, 0, 1, 1, 1, 0, 0, 1, 0, 1, 1, 1, 1, 1, 1, 1, 1, 1, 1, 1, 1, 0]]
def hw_fk (ci k : Nat) : Nat := (hw_fkL.getD ci []).getD k 0
def hw_nf (ci : Nat) : Nat := (hw_fkL.getD ci []).length
def hw_flL : List (List Nat) := [[9, 1, 2, 999, 11, 12, 999, 13, 14, 15, 16], [9, 10, 3, 5, 7], [9, 10, 4, 6, 8], [], [], [], [], [], [], [], [], [], [], [], [], [], [], [], [], [], [], [], [], [], [], [], [], [], [], [], [999, 999, 45], [999, 999, 46], [999, 999, 47], [999, 999, 48], [999, 999, 49], [999, 999, 50], [999, 999, 51], [999, 999, 52], [999, 999, 53], [999, 999, 54], [999, 999, 55], [999, 999, 56], [999, 999, 57], [999, 999, 58], [999, 999, 59], [], [], [], [], [], [], [], [], [], [], [], [], [], [], [], [999, 999, 64], [999, 999, 65], [999, 999, 66], [999, 999, 67], [], [], [], [], [999, 999, 73, 78], [999, 999, 74, 79], [999, 999, 75, 80], [999, 999, 76, 81], [999, 999, 77, 82], [], [], [], [], [], [999, 999, 83], [999, 999, 84], [999, 999, 85], [999, 999, 86], [999, 999, 87], [], [], [], [], []]
def hw_flM : List Nat := [201, 202, 203, 999, 204, 999, 999, 999, 205, 206, 999, 999, 999, 999, 999, 999, 999, 207, 208, 209, 999, 999, 210, 999, 211, 212, 213, 214, 215, 216, 217, 218, 219, 220, 221, 222, 999]
def hw_fl (t k : Nat) : Nat := if t < 200 then (hw_flL.getD t []).getD k 999 else if t = 200 then hw_flM.getD k 999 else 999
def hw_elL : List (List Nat) := [[], [], [], [], [], [18, 19, 20, 21, 22, 23], [24, 25, 26, 27, 28, 29], [], [], [30, 31, 32, 33, 34, 35, 36, 37, 38, 39, 40, 41, 42, 43, 44], [], [], [], [], [60, 61, 62, 63], [68, 69, 70, 71, 72]]
def hw_el (t j : Nat) : Nat := (hw_elL.getD t []).getD j 999
def hw_TH : List Nat := List.range 88
def hw_TM : List Nat := List.range' 200 23
theorem hw_TH_in {t : Nat} (h : t < 88) : t ∈ hw_TH := List.mem_range.mpr h
theorem hw_TM_in {t : Nat} (h : 200 ≤ t) (h2 : t < 223) : t ∈ hw_TM := List.mem_range'_1.mpr ⟨h, h2⟩
/-- a cell of the class's (the reference's) of a kind -/
def hw_gH (t c : Nat) : Bool := decide (t < 88) && decide (hw_kd t = c)
def hw_gM (t c : Nat) : Bool := decide (200 ≤ t) && (decide (t < 223) && decide (hw_kd t = c))
def hw_T (TL : List Nat) (t c : Nat) : Prop := t ∈ TL ∧ hw_kd t = c
theorem hw_gH_T {t c : Nat} (h : hw_gH t c = true) : hw_T hw_TH t c := by
  simp only [hw_gH, Bool.and_eq_true, decide_eq_true_eq] at h
  exact ⟨hw_TH_in h.1, h.2⟩
theorem hw_gM_T {t c : Nat} (h : hw_gM t c = true) : hw_T hw_TM t c := by
  simp only [hw_gM, Bool.and_eq_true, decide_eq_true_eq] at h
  exact ⟨hw_TM_in h.1 h.2.1, h.2.2⟩
theorem hw_T0 : hw_T hw_TH 0 6 := ⟨hw_TH_in (by decide), by decide⟩
theorem hw_T1 : hw_T hw_TH 1 2 := ⟨hw_TH_in (by decide), by decide⟩
theorem hw_T2 : hw_T hw_TH 2 2 := ⟨hw_TH_in (by decide), by decide⟩
theorem hw_T3 : hw_T hw_TH 3 10 := ⟨hw_TH_in (by decide), by decide⟩
theorem hw_T4 : hw_T hw_TH 4 10 := ⟨hw_TH_in (by decide), by decide⟩
theorem hw_T5 : hw_T hw_TH 5 21 := ⟨hw_TH_in (by decide), by decide⟩
theorem hw_T6 : hw_T hw_TH 6 21 := ⟨hw_TH_in (by decide), by decide⟩
theorem hw_T7 : hw_T hw_TH 7 10 := ⟨hw_TH_in (by decide), by decide⟩
theorem hw_T8 : hw_T hw_TH 8 10 := ⟨hw_TH_in (by decide), by decide⟩
theorem hw_T9 : hw_T hw_TH 9 20 := ⟨hw_TH_in (by decide), by decide⟩
theorem hw_T10 : hw_T hw_TH 10 10 := ⟨hw_TH_in (by decide), by decide⟩
theorem hw_T11 : hw_T hw_TH 11 5 := ⟨hw_TH_in (by decide), by decide⟩
theorem hw_T12 : hw_T hw_TH 12 11 := ⟨hw_TH_in (by decide), by decide⟩
theorem hw_T13 : hw_T hw_TH 13 1 := ⟨hw_TH_in (by decide), by decide⟩
theorem hw_T14 : hw_T hw_TH 14 22 := ⟨hw_TH_in (by decide), by decide⟩
theorem hw_T15 : hw_T hw_TH 15 23 := ⟨hw_TH_in (by decide), by decide⟩
theorem hw_T16 : hw_T hw_TH 16 10 := ⟨hw_TH_in (by decide), by decide⟩
theorem hw_T17 : hw_T hw_TH 17 11 := ⟨hw_TH_in (by decide), by decide⟩
theorem hw_T18 : hw_T hw_TH 18 5 := ⟨hw_TH_in (by decide), by decide⟩
theorem hw_T19 : hw_T hw_TH 19 5 := ⟨hw_TH_in (by decide), by decide⟩
theorem hw_T20 : hw_T hw_TH 20 5 := ⟨hw_TH_in (by decide), by decide⟩
theorem hw_T21 : hw_T hw_TH 21 5 := ⟨hw_TH_in (by decide), by decide⟩
theorem hw_T22 : hw_T hw_TH 22 5 := ⟨hw_TH_in (by decide), by decide⟩
theorem hw_T23 : hw_T hw_TH 23 5 := ⟨hw_TH_in (by decide), by decide⟩
theorem hw_T24 : hw_T hw_TH 24 5 := ⟨hw_TH_in (by decide), by decide⟩
theorem hw_T25 : hw_T hw_TH 25 5 := ⟨hw_TH_in (by decide), by decide⟩
theorem hw_T26 : hw_T hw_TH 26 5 := ⟨hw_TH_in (by decide), by decide⟩
theorem hw_T27 : hw_T hw_TH 27 5 := ⟨hw_TH_in (by decide), by decide⟩
theorem hw_T28 : hw_T hw_TH 28 5 := ⟨hw_TH_in (by decide), by decide⟩
theorem hw_T29 : hw_T hw_TH 29 5 := ⟨hw_TH_in (by decide), by decide⟩
theorem hw_T30 : hw_T hw_TH 30 0 := ⟨hw_TH_in (by decide), by decide⟩
theorem hw_T31 : hw_T hw_TH 31 0 := ⟨hw_TH_in (by decide), by decide⟩
theorem hw_T32 : hw_T hw_TH 32 0 := ⟨hw_TH_in (by decide), by decide⟩
theorem hw_T33 : hw_T hw_TH 33 0 := ⟨hw_TH_in (by decide), by decide⟩
theorem hw_T34 : hw_T hw_TH 34 0 := ⟨hw_TH_in (by decide), by decide⟩
theorem hw_T35 : hw_T hw_TH 35 0 := ⟨hw_TH_in (by decide), by decide⟩
theorem hw_T36 : hw_T hw_TH 36 0 := ⟨hw_TH_in (by decide), by decide⟩
theorem hw_T37 : hw_T hw_TH 37 0 := ⟨hw_TH_in (by decide), by decide⟩
theorem hw_T38 : hw_T hw_TH 38 0 := ⟨hw_TH_in (by decide), by decide⟩
theorem hw_T39 : hw_T hw_TH 39 0 := ⟨hw_TH_in (by decide), by decide⟩
theorem hw_T40 : hw_T hw_TH 40 0 := ⟨hw_TH_in (by decide), by decide⟩
theorem hw_T41 : hw_T hw_TH 41 0 := ⟨hw_TH_in (by decide), by decide⟩
theorem hw_T42 : hw_T hw_TH 42 0 := ⟨hw_TH_in (by decide), by decide⟩
theorem hw_T43 : hw_T hw_TH 43 0 := ⟨hw_TH_in (by decide), by decide⟩
theorem hw_T44 : hw_T hw_TH 44 0 := ⟨hw_TH_in (by decide), by decide⟩
theorem hw_T45 : hw_T hw_TH 45 10 := ⟨hw_TH_in (by decide), by decide⟩
theorem hw_T46 : hw_T hw_TH 46 10 := ⟨hw_TH_in (by decide), by decide⟩
theorem hw_T47 : hw_T hw_TH 47 10 := ⟨hw_TH_in (by decide), by decide⟩
theorem hw_T48 : hw_T hw_TH 48 10 := ⟨hw_TH_in (by decide), by decide⟩
theorem hw_T49 : hw_T hw_TH 49 10 := ⟨hw_TH_in (by decide), by decide⟩
theorem hw_T50 : hw_T hw_TH 50 10 := ⟨hw_TH_in (by decide), by decide⟩
theorem hw_T51 : hw_T hw_TH 51 10 := ⟨hw_TH_in (by decide), by decide⟩
theorem hw_T52 : hw_T hw_TH 52 10 := ⟨hw_TH_in (by decide), by decide⟩
theorem hw_T53 : hw_T hw_TH 53 10 := ⟨hw_TH_in (by decide), by decide⟩
theorem hw_T54 : hw_T hw_TH 54 10 := ⟨hw_TH_in (by decide), by decide⟩
theorem hw_T55 : hw_T hw_TH 55 10 := ⟨hw_TH_in (by decide), by decide⟩
theorem hw_T56 : hw_T hw_TH 56 10 := ⟨hw_TH_in (by decide), by decide⟩
theorem hw_T57 : hw_T hw_TH 57 10 := ⟨hw_TH_in (by decide), by decide⟩
theorem hw_T58 : hw_T hw_TH 58 10 := ⟨hw_TH_in (by decide), by decide⟩
theorem hw_T59 : hw_T hw_TH 59 10 := ⟨hw_TH_in (by decide), by decide⟩
theorem hw_T60 : hw_T hw_TH 60 3 := ⟨hw_TH_in (by decide), by decide⟩
theorem hw_T61 : hw_T hw_TH 61 3 := ⟨hw_TH_in (by decide), by decide⟩
theorem hw_T62 : hw_T hw_TH 62 3 := ⟨hw_TH_in (by decide), by decide⟩
theorem hw_T63 : hw_T hw_TH 63 3 := ⟨hw_TH_in (by decide), by decide⟩
theorem hw_T64 : hw_T hw_TH 64 10 := ⟨hw_TH_in (by decide), by decide⟩
theorem hw_T65 : hw_T hw_TH 65 10 := ⟨hw_TH_in (by decide), by decide⟩
theorem hw_T66 : hw_T hw_TH 66 10 := ⟨hw_TH_in (by decide), by decide⟩
theorem hw_T67 : hw_T hw_TH 67 10 := ⟨hw_TH_in (by decide), by decide⟩
theorem hw_T68 : hw_T hw_TH 68 4 := ⟨hw_TH_in (by decide), by decide⟩
theorem hw_T69 : hw_T hw_TH 69 4 := ⟨hw_TH_in (by decide), by decide⟩
theorem hw_T70 : hw_T hw_TH 70 4 := ⟨hw_TH_in (by decide), by decide⟩
theorem hw_T71 : hw_T hw_TH 71 4 := ⟨hw_TH_in (by decide), by decide⟩
theorem hw_T72 : hw_T hw_TH 72 4 := ⟨hw_TH_in (by decide), by decide⟩
theorem hw_T73 : hw_T hw_TH 73 5 := ⟨hw_TH_in (by decide), by decide⟩
theorem hw_T74 : hw_T hw_TH 74 5 := ⟨hw_TH_in (by decide), by decide⟩
theorem hw_T75 : hw_T hw_TH 75 5 := ⟨hw_TH_in (by decide), by decide⟩
theorem hw_T76 : hw_T hw_TH 76 5 := ⟨hw_TH_in (by decide), by decide⟩
theorem hw_T77 : hw_T hw_TH 77 5 := ⟨hw_TH_in (by decide), by decide⟩
theorem hw_T78 : hw_T hw_TH 78 3 := ⟨hw_TH_in (by decide), by decide⟩
theorem hw_T79 : hw_T hw_TH 79 3 := ⟨hw_TH_in (by decide), by decide⟩
theorem hw_T80 : hw_T hw_TH 80 3 := ⟨hw_TH_in (by decide), by decide⟩
theorem hw_T81 : hw_T hw_TH 81 3 := ⟨hw_TH_in (by decide), by decide⟩
theorem hw_T82 : hw_T hw_TH 82 3 := ⟨hw_TH_in (by decide), by decide⟩
theorem hw_T83 : hw_T hw_TH 83 10 := ⟨hw_TH_in (by decide), by decide⟩
theorem hw_T84 : hw_T hw_TH 84 10 := ⟨hw_TH_in (by decide), by decide⟩
theorem hw_T85 : hw_T hw_TH 85 10 := ⟨hw_TH_in (by decide), by decide⟩
theorem hw_T86 : hw_T hw_TH 86 10 := ⟨hw_TH_in (by decide), by decide⟩
theorem hw_T87 : hw_T hw_TH 87 10 := ⟨hw_TH_in (by decide), by decide⟩
theorem hw_T200 : hw_T hw_TM 200 7 := ⟨hw_TM_in (by decide) (by decide), by decide⟩
theorem hw_T201 : hw_T hw_TM 201 10 := ⟨hw_TM_in (by decide) (by decide), by decide⟩
theorem hw_T202 : hw_T hw_TM 202 10 := ⟨hw_TM_in (by decide) (by decide), by decide⟩
theorem hw_T203 : hw_T hw_TM 203 10 := ⟨hw_TM_in (by decide) (by decide), by decide⟩
theorem hw_T204 : hw_T hw_TM 204 10 := ⟨hw_TM_in (by decide) (by decide), by decide⟩
theorem hw_T205 : hw_T hw_TM 205 10 := ⟨hw_TM_in (by decide) (by decide), by decide⟩
theorem hw_T206 : hw_T hw_TM 206 10 := ⟨hw_TM_in (by decide) (by decide), by decide⟩
theorem hw_T207 : hw_T hw_TM 207 12 := ⟨hw_TM_in (by decide) (by decide), by decide⟩
theorem hw_T208 : hw_T hw_TM 208 10 := ⟨hw_TM_in (by decide) (by decide), by decide⟩
theorem hw_T209 : hw_T hw_TM 209 10 := ⟨hw_TM_in (by decide) (by decide), by decide⟩
theorem hw_T210 : hw_T hw_TM 210 10 := ⟨hw_TM_in (by decide) (by decide), by decide⟩
theorem hw_T211 : hw_T hw_TM 211 13 := ⟨hw_TM_in (by decide) (by decide), by decide⟩
theorem hw_T212 : hw_T hw_TM 212 10 := ⟨hw_TM_in (by decide) (by decide), by decide⟩
theorem hw_T213 : hw_T hw_TM 213 10 := ⟨hw_TM_in (by decide) (by decide), by decide⟩
theorem hw_T214 : hw_T hw_TM 214 10 := ⟨hw_TM_in (by decide) (by decide), by decide⟩
theorem hw_T215 : hw_T hw_TM 215 10 := ⟨hw_TM_in (by decide) (by decide), by decide⟩
theorem hw_T216 : hw_T hw_TM 216 10 := ⟨hw_TM_in (by decide) (by decide), by decide⟩
theorem hw_T217 : hw_T hw_TM 217 10 := ⟨hw_TM_in (by decide) (by decide), by decide⟩
theorem hw_T218 : hw_T hw_TM 218 10 := ⟨hw_TM_in (by decide) (by decide), by decide⟩
theorem hw_T219 : hw_T hw_TM 219 10 := ⟨hw_TM_in (by decide) (by decide), by decide⟩
theorem hw_T220 : hw_T hw_TM 220 10 := ⟨hw_TM_in (by decide) (by decide), by decide⟩
theorem hw_T221 : hw_T hw_TM 221 10 := ⟨hw_TM_in (by decide) (by decide), by decide⟩
theorem hw_T222 : hw_T hw_TM 222 10 := ⟨hw_TM_in (by decide) (by decide), by decide⟩
def hw_ka : List Int32 := [-1000000005, 0, 0, 1, 2, 0]
def hw_sl : List Nat := [4, 4, 4, 3, 2, 3]
def hw_sb : List (List Int32) := [[98, 97, 110, 100], [112, 117, 115, 104], [116, 105, 114, 101], [101, 111, 115], [97, 115], [115, 108, 104]]
end
section
/-! states, cells, worlds -/
abbrev hw_St : Type := Nat → Nat → Int32
def hw_upA (σ : hw_St) (t : Nat) (f : Nat → Int32) : hw_St := fun a => if a = t then f else σ a
def hw_up (σ : hw_St) (t k : Nat) (v : Int32) : hw_St := hw_upA σ t (upd (σ t) k v)
def hw_nm {α β : Type} (a : α) (f : α → β) : β := f a
def hw_gd {α : Type} (b : Bool) (x : Option α) : Option α := if b = true then x else none
def hw_inb (i : Int32) (n : Nat) : Bool := decide (¬ (i < 0 ∨ n ≤ i.toNatClampNeg))
theorem hw_inb_in {i : Int32} {n : Nat} (h : hw_inb i n = true) : vp_in i n := of_decide_eq_true (p := ¬ (i < 0 ∨ n ≤ i.toNatClampNeg)) h
def hw_nz (y : Int32) : Bool := decide (¬ y = 0)
def hw_isb (x : Int32) : Bool := decide (x = 0 ∨ x = 1)
def hw_rem (x y : Int32) : Int32 := x - x / y * y
def hw_ushr (x y : Int32) : Int32 := (x.toUInt32 >>> (y.toUInt32 &&& Int32.toUInt32 31)).toInt32
def hw_i2c (x : Int32) : Int32 := (x.toUInt32 % 65536).toInt32
def hw_max (x y : Int32) : Int32 := if x < y then y else x
def hw_min (x y : Int32) : Int32 := if y < x then y else x
def hw_abs (x : Int32) : Int32 := if 0 ≤ x then x else 0 - x
def hw_cpo (sp dp n : Int32) (n0 n1 : Nat) : Bool := decide (¬ sp < 0 ∧ ¬ dp < 0 ∧ ¬ n < 0 ∧ sp.toNatClampNeg + n.toNatClampNeg ≤ n0 ∧ dp.toNatClampNeg + n.toNatClampNeg ≤ n1)
/-- a reference by its tag; 999 is null -/
def hw_rv (ad : Nat → Nat) (t : Nat) : Value := if t = 999 then .null else .ref (ad t)
theorem hw_rv_ref {ad : Nat → Nat} {t : Nat} (h : t ≠ 999) : hw_rv ad t = .ref (ad t) := if_neg h
theorem hw_rv_cat (ad : Nat → Nat) (t : Nat) : (hw_rv ad t).category = 1 := by
  unfold hw_rv; split <;> rfl
def hw_fv (ad : Nat → Nat) (ci t : Nat) (f : Nat → Int32) (k : Nat) : Value := if hw_fk ci k = 0 then .int (f k) else if hw_fk ci k = 1 then hw_rv ad (hw_fl t k) else hw_rv ad (f k).toNatClampNeg
def hw_fs (ad : Nat → Nat) (ci t : Nat) (f : Nat → Int32) : List Value := (List.range (hw_nf ci)).map (hw_fv ad ci t f)
def hw_re (cA : Nat → ClassId) (ad : Nat → Nat) (t : Nat) (f : Nat → Int32) : va_E :=
  if hw_kd t < 10 then .inr (hw_kd t, hw_fs ad (hw_kd t) t f)
  else if hw_kd t < 20 then .inl (cA (hw_kd t), hw_ln t, .inl f)
  else .inl (cA (hw_kd t), hw_ln t, .inr (.inr (.inr (.inr (fun j => some (ad (hw_el t j)))))))
def hw_ty (cA : Nat → ClassId) : List (ClassId × FieldType) := [(cA 10, .int), (cA 11, .byte), (cA 12, .char), (cA 13, .boolean), (cA 20, .object "HumWire$Law"), (cA 21, .object "HumWire$Wire"), (cA 22, .object "HumWire$Sheet"), (cA 23, .object "HumWire$Slot")]
def hw_ws (TL : List Nat) (cA : Nat → ClassId) (ad : Nat → Nat) (σ : hw_St) : va_W := TL.map (fun t => (ad t, hw_re cA ad t (σ t)))
/-- launch, classes and slots, array classes, tags, addresses -/
abbrev hw_E : Type := Launch × va_G × (Nat → ClassId) × List Nat × (Nat → Nat)
abbrev hw_eL (E : hw_E) : Launch := E.1
abbrev hw_eD (E : hw_E) : va_G := E.2.1
abbrev hw_eC (E : hw_E) : Nat → ClassId := E.2.2.1
abbrev hw_eT (E : hw_E) : List Nat := E.2.2.2.1
abbrev hw_ea (E : hw_E) : Nat → Nat := E.2.2.2.2
def hw_W (E : hw_E) (σ : hw_St) (H : Heap) : Prop := va_P (hw_eD E) vwCl (hw_ws (hw_eT E) (hw_eC E) (hw_ea E) σ) H
def hw_A (E : hw_E) : Nat → Prop := fun q => ∃ t, t ∈ hw_eT E ∧ q = hw_ea E t
def hw_Ap (E : hw_E) : Prop := (∀ (i j t : Nat), (hw_eT E)[i]? = some t → (hw_eT E)[j]? = some t → i = j) ∧ ∀ t ∈ hw_eT E, ∀ u ∈ hw_eT E, hw_ea E t = hw_ea E u → t = u
def hw_Cs (E : hw_E) (U : State) (H : Heap) : Prop :=
  va_Z "HumWire" "KIND_ABOVE" "[I" (.ref (hw_ea E 950)) (hw_A E) U H ∧ va_T .int (hw_ea E 950) 6 (fun j => .int (hw_ka.getD j 0)) (hw_A E) U H ∧
  vk_S 6 hw_sl hw_sb (fun i => hw_ea E (900 + i)) (fun i => hw_ea E (910 + i)) (hw_A E) U H ∧ va_Z "java/lang/String" "COMPACT_STRINGS" "Z" (.int 1) (hw_A E) U H
theorem hw_Cs.moved {E : hw_E} {u U : State} {H : Heap} (hvm : u.vm.Alike U.vm) (h : hw_Cs E u H) : hw_Cs E U H :=
  ⟨h.1.moved hvm, h.2.1.moved hvm, h.2.2.1.moved hvm, h.2.2.2.moved hvm⟩
theorem hw_Cs.kept {E : hw_E} {U : State} {H H1 : Heap} (h : hw_Cs E U H) (hq : ∀ a : Nat, a < H.size → ¬ hw_A E a → H1[a]? = H[a]?) : hw_Cs E U H1 :=
  ⟨h.1.kept hq, h.2.1.kept hq, h.2.2.1.kept hq, h.2.2.2.kept hq⟩
/-- words that want the tables' own warmth: nest mates' private methods, String constants -/
def hw_Nw (E : hw_E) (U : State) : Prop :=
  va_Nw (.methodLinkNest RX2 65 yX6_isWithin RX6) U ∧ va_Nw (.methodLinkNest RX2 74 yX6_within RX6) U ∧ va_Nw (.methodLinkNest RX3 34 yX6_isWithin RX6) U ∧
  vk_R RX1 67 "band" (hw_ea E 900) U ∧ vk_R RX1 73 "push" (hw_ea E 901) U ∧ vk_R RX1 75 "tire" (hw_ea E 902) U ∧ vk_R RX1 121 "eos" (hw_ea E 903) U ∧ vk_R RX1 123 "as" (hw_ea E 904) U ∧ vk_R RX1 125 "slh" (hw_ea E 905) U
theorem hw_Nw.warm {E : hw_E} {s U : State} (hW : s.WarmedH U.vm) (h : hw_Nw E s) : hw_Nw E U := by
  obtain ⟨h1, h2, h3, h4, h5, h6, h7, h8, h9⟩ := h
  exact ⟨va_Nw.warmM hW h1, va_Nw.warmM hW h2, va_Nw.warmM hW h3, h4.warm hW, h5.warm hW, h6.warm hW, h7.warm hW, h8.warm hW, h9.warm hW⟩
theorem hw_Nw.same {E : hw_E} {u U : State} (hv : U.vm = u.vm) (h : hw_Nw E u) : hw_Nw E U := by
  obtain ⟨h1, h2, h3, h4, h5, h6, h7, h8, h9⟩ := h
  exact ⟨h1.same rfl hv.symm, h2.same rfl hv.symm, h3.same rfl hv.symm, h4.same hv, h5.same hv, h6.same hv, h7.same hv, h8.same hv, h9.same hv⟩
def hw_Wd (E : hw_E) (σ : hw_St) (U : State) : Prop := hw_W E σ U.heap ∧ va_K (hw_eD E) vwCl (hw_ty (hw_eC E)) U ∧ hw_Ap E ∧ hw_Nw E U ∧ hw_Cs E U U.heap
def hw_rm (d : Nat) : Room := { frames := d + 1, cells := 0, slots := 0, locals := 40 * (d + 1) }
def hw_Q {α : Type} (E : hw_E) (rr : α → Option Value) (r : α) (σ : hw_St) : Array Value → State → Outcome → State → Prop := fun _ st oc t => oc = .returned (rr r) ∧ hw_W E σ t.heap ∧ va_F (hw_A E) st t
/-- the contract: where the pure function X gives an answer, the method gives it -/
def hw_M {α : Type} (E : hw_E) (y : MethodName) (cc : ByteArray) (mL : Nat) (ret : Option FieldType) (d : Nat) (av : List Value) (σ : hw_St) (rr : α → Option Value) (X : Option (α × hw_St)) : Prop :=
  ∀ (r : α) (σ' : hw_St), X = some (r, σ') → Met (hw_eL E) y (.code y cc mL ret :: hw_all) (hw_rm d) (va_Pc av (hw_Wd E σ)) (hw_Q E rr r σ') 0 0 (hw_A E)
abbrev hw_G : Type := hw_E × Program × Env × Room × State × MethodId × Array Value × List Frame × Method × Code
abbrev hw_gE (G : hw_G) : hw_E := G.1
abbrev hw_gp (G : hw_G) : Program := G.2.1
abbrev hw_ge (G : hw_G) : Env := G.2.2.1
abbrev hw_gR (G : hw_G) : Room := G.2.2.2.1
abbrev hw_gs (G : hw_G) : State := G.2.2.2.2.1
abbrev hw_gm (G : hw_G) : MethodId := G.2.2.2.2.2.1
abbrev hw_ga (G : hw_G) : Array Value := G.2.2.2.2.2.2.1
abbrev hw_gb (G : hw_G) : List Frame := G.2.2.2.2.2.2.2.1
abbrev hw_gM_ (G : hw_G) : Method := G.2.2.2.2.2.2.2.2.1
abbrev hw_gc (G : hw_G) : Code := G.2.2.2.2.2.2.2.2.2
def hw_Ok (G : hw_G) (cc : ByteArray) (own : String) (nL d : Nat) (ret : Option FieldType) (TL : List Nat) : Prop :=
  (hw_gp G).tables.exec = Jvm.exec ∧ (hw_gc G).code = cc ∧ (hw_gc G).maxLocals = nL ∧ (hw_gs G).vm.findClass own = some (hw_gm G).cls ∧ (∀ w ∈ hw_all, w.before (hw_ga G) (hw_gs G) = true) ∧ va_K (hw_eD (hw_gE G)) vwCl (hw_ty (hw_eC (hw_gE G))) (hw_gs G) ∧ hw_Ap (hw_gE G) ∧ hw_Nw (hw_gE G) (hw_gs G) ∧ hw_Cs (hw_gE G) (hw_gs G) (hw_gs G).heap ∧ (hw_gM_ G).locks = false ∧ (hw_gM_ G).sig.returnType = ret ∧ hw_gR G = hw_rm d ∧ hw_eT (hw_gE G) = TL
def hw_c1 (lv : List (Nat × Value)) (st : List Value) : Prop := (∀ q ∈ lv, q.2.category = 1) ∧ ∀ v ∈ st, v.category = 1
abbrev hw_WW {α : Type} (G : hw_G) (rr : α → Option Value) (r : α) (σ' : hw_St) (H : Heap) (locs : List Loc) (g : JFrame) : Prop :=
  W (hw_gp G) (hw_eL (hw_gE G)) (hw_ge G) (hw_gR G) (hw_gs G) (hw_gm G) (hw_ga G) (hw_gb G) (hw_gM_ G) (hw_gc G) H locs 0 0 (MQ (hw_gb G) (hw_Q (hw_gE G) rr r σ') (hw_ga G) (hw_gs G) 0 0 (hw_A (hw_gE G))) g
/-- the judgement: from pc on, with these locals, this stack, this state, the machine does what X says -/
def hw_K {α : Type} (G : hw_G) (nL : Nat) (rr : α → Option Value) (X : Option (α × hw_St)) (pc : Nat) (lv : List (Nat × Value)) (st : List Value) (σ : hw_St) : Prop :=
  ∀ (r : α) (σ' : hw_St), X = some (r, σ') → hw_c1 lv st → ∀ (H : Heap) (locs : List Loc) (ls : Array Slot), hw_W (hw_gE G) σ H → va_S (hw_A (hw_gE G)) (hw_gs G).heap H locs → lv_has ls nL lv → hw_WW G rr r σ' H locs (F0 (hw_gm G) pc ls st)
def hw_ri (r : Int32) : Option Value := some (.int r)
def hw_r0 (_ : Unit) : Option Value := none
def hw_rq (ad : Nat → Nat) (t : Nat) : Option Value := some (hw_rv ad t)
/-! the world's list -/
theorem hw_ws_at {TL : List Nat} {cA : Nat → ClassId} {ad : Nat → Nat} {σ : hw_St} {i t : Nat} (h : TL[i]? = some t) : (hw_ws TL cA ad σ)[i]? = some (ad t, hw_re cA ad t (σ t)) := by
  simp [hw_ws, h]
theorem hw_ws_of {TL : List Nat} {cA : Nat → ClassId} {ad : Nat → Nat} {σ : hw_St} {i : Nat} {q : Nat × va_E} (h : (hw_ws TL cA ad σ)[i]? = some q) : ∃ t, TL[i]? = some t ∧ q = (ad t, hw_re cA ad t (σ t)) := by
  rw [hw_ws, List.getElem?_map] at h
  cases hi : TL[i]? with
  | none => rw [hi] at h; cases h
  | some t => rw [hi] at h; exact ⟨t, rfl, (Option.some.inj h).symm⟩
theorem hw_ws_set {E : hw_E} (hA : hw_Ap E) {σ : hw_St} {i t : Nat} {f : Nat → Int32} (h : (hw_eT E)[i]? = some t) : (hw_ws (hw_eT E) (hw_eC E) (hw_ea E) σ).set i (hw_ea E t, hw_re (hw_eC E) (hw_ea E) t f) = hw_ws (hw_eT E) (hw_eC E) (hw_ea E) (hw_upA σ t f) := by
  apply List.ext_getElem?
  intro j
  rw [List.getElem?_set]
  by_cases hj : i = j
  · subst hj
    have hl : i < (hw_ws (hw_eT E) (hw_eC E) (hw_ea E) σ).length := (List.getElem?_eq_some_iff.mp (hw_ws_at h)).1
    rw [if_pos rfl, if_pos hl, hw_ws_at h]
    simp [hw_upA]
  · rw [if_neg hj]
    cases hc : (hw_eT E)[j]? with
    | none => simp [hw_ws, hc]
    | some u =>
      have hne : u ≠ t := fun e => hj (hA.1 i j t h (by rw [hc, e]))
      rw [hw_ws_at hc, hw_ws_at hc]
      simp [hw_upA, hne]
theorem hw_D {E : hw_E} (hA : hw_Ap E) (σ : hw_St) : va_D (hw_A E) (hw_ws (hw_eT E) (hw_eC E) (hw_ea E) σ) := by
  refine ⟨fun i j p q hp hq e => ?_, fun k q h => ?_⟩
  · obtain ⟨t, h1, rfl⟩ := hw_ws_of hp
    obtain ⟨u, h2, rfl⟩ := hw_ws_of hq
    have : t = u := hA.2 t (List.mem_of_getElem? h1) u (List.mem_of_getElem? h2) e
    subst this
    exact hA.1 i j t h1 h2
  · obtain ⟨t, h1, rfl⟩ := hw_ws_of h
    exact ⟨t, List.mem_of_getElem? h1, rfl⟩
theorem hw_tag {TL : List Nat} {t c : Nat} (h : hw_T TL t c) : ∃ i : Nat, TL[i]? = some t := List.getElem?_of_mem h.1
theorem hw_kd999 : hw_kd 999 = 99 := by decide
theorem hw_T.ne {TL : List Nat} {t c : Nat} (h : hw_T TL t c) (hc : c < 90) : t ≠ 999 := fun e => by
  have h2 := h.2
  rw [e, hw_kd999] at h2
  omega
theorem hw_re_o {cA : Nat → ClassId} {ad : Nat → Nat} {t c : Nat} {f : Nat → Int32} (h : hw_kd t = c) (hc : c < 10) : hw_re cA ad t f = .inr (c, hw_fs ad c t f) := by
  subst h; unfold hw_re; rw [if_pos hc]
theorem hw_re_i {cA : Nat → ClassId} {ad : Nat → Nat} {t c : Nat} {f : Nat → Int32} (h : hw_kd t = c) (hc : ¬ c < 10) (hd : c < 20) : hw_re cA ad t f = .inl (cA c, hw_ln t, .inl f) := by
  subst h; unfold hw_re; rw [if_neg hc, if_pos hd]
theorem hw_re_q {cA : Nat → ClassId} {ad : Nat → Nat} {t c : Nat} {f : Nat → Int32} (h : hw_kd t = c) (hc : ¬ c < 10) (hd : ¬ c < 20) : hw_re cA ad t f = .inl (cA c, hw_ln t, .inr (.inr (.inr (.inr (fun j => some (ad (hw_el t j))))))) := by
  subst h; unfold hw_re; rw [if_neg hc, if_neg hd]
theorem hw_rg {α : Type} (N : Nat) (g : Nat → α) (j : Nat) : ((List.range N).map g)[j]? = if j < N then some (g j) else none := by
  rw [List.getElem?_map]
  by_cases h : j < N
  · rw [if_pos h, List.getElem?_range h]; rfl
  · rw [if_neg h, List.getElem?_eq_none (by rw [List.length_range]; omega)]; rfl
theorem hw_fs_at {ad : Nat → Nat} {ci t k : Nat} {f : Nat → Int32} (h : k < hw_nf ci) : (hw_fs ad ci t f)[k]? = some (hw_fv ad ci t f k) := by
  rw [hw_fs, hw_rg, if_pos h]
theorem hw_fs_len (ad : Nat → Nat) (ci t : Nat) (f : Nat → Int32) : (hw_fs ad ci t f).length = hw_nf ci := by
  rw [hw_fs, List.length_map, List.length_range]
theorem hw_fs_set {ad : Nat → Nat} {ci t k : Nat} {f : Nat → Int32} {x : Int32} {v : Value} (h : k < hw_nf ci) (hv : hw_fv ad ci t (upd f k x) k = v) : (hw_fs ad ci t f).set k v = hw_fs ad ci t (upd f k x) := by
  apply List.ext_getElem?
  intro j
  rw [List.getElem?_set]
  by_cases hj : k = j
  · subst hj
    rw [if_pos rfl, if_pos (by rw [hw_fs_len]; exact h), hw_fs_at h, hv]
  · rw [if_neg hj, hw_fs, hw_fs, hw_rg, hw_rg]
    have hu : upd f k x j = f j := by unfold upd; rw [if_neg (fun e => hj e.symm)]
    have e : hw_fv ad ci t f j = hw_fv ad ci t (upd f k x) j := by
      unfold hw_fv
      rw [hu]
    rw [e]
end
section
section HWR
variable {α : Type} {G : hw_G} {cc : ByteArray} {own : String} {nL d : Nat} {ret : Option FieldType} {TL : List Nat} {rr : α → Option Value} {X : Option (α × hw_St)} {pc : Nat} {lv : List (Nat × Value)} {st : List Value} {σ : hw_St}
theorem hw_c1i {lv : List (Nat × Value)} {st : List Value} {x : Int32} (h : hw_c1 lv st) : hw_c1 lv (.int x :: st) := ⟨h.1, fun v hv => by
  rcases List.mem_cons.mp hv with rfl | h1
  · rfl
  · exact h.2 v h1⟩
theorem hw_c1r {lv : List (Nat × Value)} {st : List Value} {ad : Nat → Nat} {t : Nat} (h : hw_c1 lv st) : hw_c1 lv (hw_rv ad t :: st) := ⟨h.1, fun v hv => by
  rcases List.mem_cons.mp hv with rfl | h1
  · exact hw_rv_cat ad t
  · exact h.2 v h1⟩
theorem hw_c1t {lv : List (Nat × Value)} {st : List Value} {w : Value} (h : hw_c1 lv (w :: st)) : hw_c1 lv st := ⟨h.1, fun v hv => h.2 v (List.mem_cons_of_mem _ hv)⟩
theorem hw_c1v {lv : List (Nat × Value)} {st : List Value} {w : Value} (h : hw_c1 lv st) (hw : w.category = 1) : hw_c1 lv (w :: st) := ⟨h.1, fun v hv => by
  rcases List.mem_cons.mp hv with rfl | h1
  · exact hw
  · exact h.2 v h1⟩
theorem hw_c1s {lv lv' : List (Nat × Value)} {st : List Value} {i : Nat} {w : Value} (h : hw_c1 lv st) (hw : w.category = 1) (hl : (i, w) :: lv.filter (fun q => !(q.1 == i)) = lv') : hw_c1 lv' st := ⟨fun q hq => by
  rw [← hl] at hq
  rcases List.mem_cons.mp hq with rfl | h1
  · exact hw
  · exact h.1 q (List.mem_filter.mp h1).1, h.2⟩
theorem hw_filt {lv : List (Nat × Value)} {i : Nat} (h : ∀ q ∈ lv, q.2.category = 1) : lv.filter (fun q => !(q.1 == i) && !(q.1 + 1 == i && q.2.category == 2)) = lv.filter (fun q => !(q.1 == i)) := by
  apply List.filter_congr
  intro q hq
  rw [h q hq]
  simp
theorem hw_sum {st : List Value} (h : ∀ v ∈ st, v.category = 1) : (st.map fun v => v.category).sum = st.length := by
  induction st with
  | nil => rfl
  | cons a l ih =>
    rw [List.map_cons, List.sum_cons, ih (fun v hv => h v (List.mem_cons_of_mem _ hv)), h a List.mem_cons_self, List.length_cons]
    omega
theorem hw_nil : hw_K G nL rr none pc lv st σ := fun _ _ h => by cases h
theorem hw_eq {Y : Option (α × hw_St)} (h : X = Y) (k : hw_K G nL rr Y pc lv st σ) : hw_K G nL rr X pc lv st σ := h ▸ k
theorem hw_gdK {b : Bool} (k : b = true → hw_K G nL rr X pc lv st σ) : hw_K G nL rr (hw_gd b X) pc lv st σ := by
  intro r σ' hX
  unfold hw_gd at hX
  split at hX
  · next h => exact k h r σ' hX
  · cases hX
theorem hw_ifK {c : Prop} [Decidable c] {Y : Option (α × hw_St)} (kt : c → hw_K G nL rr X pc lv st σ) (kf : ¬ c → hw_K G nL rr Y pc lv st σ) : hw_K G nL rr (if c then X else Y) pc lv st σ := by
  by_cases h : c
  · rw [if_pos h]; exact kt h
  · rw [if_neg h]; exact kf h
theorem hw_lv {lv2 : List (Nat × Value)} (ks : List Nat) (h : lv_pick lv ks = lv2) (k : hw_K G nL rr X pc lv2 st σ) : hw_K G nL rr X pc lv st σ := by
  intro r σ' hX hc H locs ls hP hS hl
  refine k r σ' hX ⟨fun q hq => ?_, hc.2⟩ H locs ls hP hS (lv_sub hl ks h)
  rw [← h] at hq
  obtain ⟨i, -, hi⟩ := List.mem_filterMap.mp hq
  exact hc.1 q (List.mem_of_getElem? hi)
theorem hw_iconst (C : hw_Ok G cc own nL d ret TL) {n : Int} {v : Int32} (dg : decode cc pc = .ok (.iconst n, 1)) (hv : Int32.ofInt n = v) (k : hw_K G nL rr X (pc + 1) lv (.int v :: st) σ) : hw_K G nL rr X (pc) lv (st) σ := fun r σ' hX hc H locs ls hP hS hl => lv_iconst C.1 C.2.1 dg hv (k r σ' hX (hw_c1i hc) H locs ls hP hS hl)
theorem hw_bipush (C : hw_Ok G cc own nL d ret TL) {n : Int} {v : Int32} (dg : decode cc pc = .ok (.bipush n, 2)) (hv : (Int8.ofInt n).toInt32 = v) (k : hw_K G nL rr X (pc + 2) lv (.int v :: st) σ) : hw_K G nL rr X (pc) lv (st) σ := fun r σ' hX hc H locs ls hP hS hl => lv_bipush C.1 C.2.1 dg hv (k r σ' hX (hw_c1i hc) H locs ls hP hS hl)
theorem hw_sipush (C : hw_Ok G cc own nL d ret TL) {n : Int} {v : Int32} (dg : decode cc pc = .ok (.sipush n, 3)) (hv : (Int16.ofInt n).toInt32 = v) (k : hw_K G nL rr X (pc + 3) lv (.int v :: st) σ) : hw_K G nL rr X (pc) lv (st) σ := fun r σ' hX hc H locs ls hP hS hl => lv_sipush C.1 C.2.1 dg hv (k r σ' hX (hw_c1i hc) H locs ls hP hS hl)
theorem hw_ldc (C : hw_Ok G cc own nL d ret TL) {idx : Nat} {v : Int32} (hw : Cond.constant own idx v ∈ hw_all) (dg : decode cc pc = .ok (.ldc idx, 2)) (k : hw_K G nL rr X (pc + 2) lv (.int v :: st) σ) : hw_K G nL rr X (pc) lv (st) σ := fun r σ' hX hc H locs ls hP hS hl => lv_ldc C.1 C.2.1 C.2.2.2.1 (C.2.2.2.2.1 _ hw) dg (k r σ' hX (hw_c1i hc) H locs ls hP hS hl)
theorem hw_ldcw (C : hw_Ok G cc own nL d ret TL) {idx : Nat} {v : Int32} (hw : Cond.constant own idx v ∈ hw_all) (dg : decode cc pc = .ok (.ldc_w idx, 3)) (k : hw_K G nL rr X (pc + 3) lv (.int v :: st) σ) : hw_K G nL rr X (pc) lv (st) σ := fun r σ' hX hc H locs ls hP hS hl => lv_ldcw C.1 C.2.1 C.2.2.2.1 (C.2.2.2.2.1 _ hw) dg (k r σ' hX (hw_c1i hc) H locs ls hP hS hl)
theorem hw_null (C : hw_Ok G cc own nL d ret TL) (dg : decode cc pc = .ok (.aconst_null, 1)) (k : hw_K G nL rr X (pc + 1) lv (hw_rv (hw_ea (hw_gE G)) 999 :: st) σ) : hw_K G nL rr X (pc) lv (st) σ := fun r σ' hX hc H locs ls hP hS hl => lv_null C.1 C.2.1 dg (k r σ' hX (hw_c1r hc) H locs ls hP hS hl)
theorem hw_iload_n (C : hw_Ok G cc own nL d ret TL) {n : Fin 4} {i : Nat} {x : Int32} (dg : decode cc pc = .ok (.iload_n n, 1)) (hi : (n : Nat) = i) (j : Nat) (hj : lv[j]? = some (i, .int x)) (k : hw_K G nL rr X (pc + 1) lv (.int x :: st) σ) : hw_K G nL rr X (pc) lv (st) σ := fun r σ' hX hc H locs ls hP hS hl => lv_iload_n C.1 C.2.1 dg hi (lv_at hl j hj) (k r σ' hX (hw_c1i hc) H locs ls hP hS hl)
theorem hw_iload (C : hw_Ok G cc own nL d ret TL) {i : Nat} {x : Int32} (dg : decode cc pc = .ok (.iload i, 2)) (j : Nat) (hj : lv[j]? = some (i, .int x)) (k : hw_K G nL rr X (pc + 2) lv (.int x :: st) σ) : hw_K G nL rr X (pc) lv (st) σ := fun r σ' hX hc H locs ls hP hS hl => lv_iload C.1 C.2.1 dg (lv_at hl j hj) (k r σ' hX (hw_c1i hc) H locs ls hP hS hl)
theorem hw_aload_n (C : hw_Ok G cc own nL d ret TL) {n : Fin 4} {i t : Nat} {ad : Nat → Nat} (dg : decode cc pc = .ok (.aload_n n, 1)) (hi : (n : Nat) = i) (j : Nat) (hj : lv[j]? = some (i, hw_rv ad t)) (k : hw_K G nL rr X (pc + 1) lv (hw_rv ad t :: st) σ) : hw_K G nL rr X (pc) lv (st) σ := by
  intro r σ' hX hc H locs ls hP hS hl
  have h := lv_at hl j hj
  have k2 := k r σ' hX (hw_c1r hc) H locs ls hP hS hl
  unfold hw_rv at h k2
  split at h
  · next e => rw [if_pos e] at k2; exact lv_aload_nN C.1 C.2.1 dg hi h k2
  · next e => rw [if_neg e] at k2; exact lv_aload_n C.1 C.2.1 dg hi h k2
theorem hw_aload (C : hw_Ok G cc own nL d ret TL) {i t : Nat} {ad : Nat → Nat} (dg : decode cc pc = .ok (.aload i, 2)) (j : Nat) (hj : lv[j]? = some (i, hw_rv ad t)) (k : hw_K G nL rr X (pc + 2) lv (hw_rv ad t :: st) σ) : hw_K G nL rr X (pc) lv (st) σ := by
  intro r σ' hX hc H locs ls hP hS hl
  have h := lv_at hl j hj
  have k2 := k r σ' hX (hw_c1r hc) H locs ls hP hS hl
  unfold hw_rv at h k2
  split at h
  · next e => rw [if_pos e] at k2; exact lv_aloadN C.1 C.2.1 dg h k2
  · next e => rw [if_neg e] at k2; exact lv_aload C.1 C.2.1 dg h k2
theorem hw_istore_n (C : hw_Ok G cc own nL d ret TL) {n : Fin 4} {i : Nat} {e : Int32} (dg : decode cc pc = .ok (.istore_n n, 1)) (hi : (n : Nat) = i) (hn : i < nL) {lv2 : List (Nat × Value)} (hl2 : (i, Value.int e) :: lv.filter (fun q => !(q.1 == i)) = lv2) (k : hw_K G nL rr X (pc + 1) lv2 st σ) : hw_K G nL rr X pc lv (.int e :: st) σ := by
  intro r σ' hX hc H locs ls hP hS hl
  exact lv_istore_n C.1 C.2.1 dg hi hl hn (by rw [hw_filt hc.1]; exact hl2) (fun ls' hl' => k r σ' hX (hw_c1s (hw_c1t hc) rfl hl2) H locs ls' hP hS hl')
theorem hw_istore_nN (C : hw_Ok G cc own nL d ret TL) {n : Fin 4} {i : Nat} {e : Int32} {f : Int32 → Option (α × hw_St)} (dg : decode cc pc = .ok (.istore_n n, 1)) (hi : (n : Nat) = i) (hn : i < nL) {lv2 : Int32 → List (Nat × Value)} (hl2 : ∀ x : Int32, (i, Value.int x) :: lv.filter (fun q => !(q.1 == i)) = lv2 x) (k : ∀ x : Int32, hw_K G nL rr (f x) (pc + 1) (lv2 x) st σ) : hw_K G nL rr (hw_nm e f) pc lv (.int e :: st) σ := by
  intro r σ' hX hc H locs ls hP hS hl
  exact lv_istore_n C.1 C.2.1 dg hi hl hn (by rw [hw_filt hc.1]; exact hl2 e) (fun ls' hl' => k e r σ' hX (hw_c1s (hw_c1t hc) rfl (hl2 e)) H locs ls' hP hS hl')
theorem hw_istore (C : hw_Ok G cc own nL d ret TL) {i : Nat} {e : Int32} (dg : decode cc pc = .ok (.istore i, 2)) (hn : i < nL) {lv2 : List (Nat × Value)} (hl2 : (i, Value.int e) :: lv.filter (fun q => !(q.1 == i)) = lv2) (k : hw_K G nL rr X (pc + 2) lv2 st σ) : hw_K G nL rr X pc lv (.int e :: st) σ := by
  intro r σ' hX hc H locs ls hP hS hl
  exact lv_istore C.1 C.2.1 dg hl hn (by rw [hw_filt hc.1]; exact hl2) (fun ls' hl' => k r σ' hX (hw_c1s (hw_c1t hc) rfl hl2) H locs ls' hP hS hl')
theorem hw_istoreN (C : hw_Ok G cc own nL d ret TL) {i : Nat} {e : Int32} {f : Int32 → Option (α × hw_St)} (dg : decode cc pc = .ok (.istore i, 2)) (hn : i < nL) {lv2 : Int32 → List (Nat × Value)} (hl2 : ∀ x : Int32, (i, Value.int x) :: lv.filter (fun q => !(q.1 == i)) = lv2 x) (k : ∀ x : Int32, hw_K G nL rr (f x) (pc + 2) (lv2 x) st σ) : hw_K G nL rr (hw_nm e f) pc lv (.int e :: st) σ := by
  intro r σ' hX hc H locs ls hP hS hl
  exact lv_istore C.1 C.2.1 dg hl hn (by rw [hw_filt hc.1]; exact hl2 e) (fun ls' hl' => k e r σ' hX (hw_c1s (hw_c1t hc) rfl (hl2 e)) H locs ls' hP hS hl')
theorem hw_astore_n (C : hw_Ok G cc own nL d ret TL) {n : Fin 4} {i t : Nat} {ad : Nat → Nat} (dg : decode cc pc = .ok (.astore_n n, 1)) (hi : (n : Nat) = i) (hn : i < nL) {lv2 : List (Nat × Value)} (hl2 : (i, hw_rv ad t) :: lv.filter (fun q => !(q.1 == i)) = lv2) (k : hw_K G nL rr X (pc + 1) lv2 st σ) : hw_K G nL rr X pc lv (hw_rv ad t :: st) σ := by
  intro r σ' hX hc H locs ls hP hS hl
  have hc2 := hw_c1s (hw_c1t hc) (hw_rv_cat ad t) hl2
  have k2 := fun ls' hl' => k r σ' hX hc2 H locs ls' hP hS hl'
  have hl3 : (i, hw_rv ad t) :: lv.filter (fun q => !(q.1 == i) && !(q.1 + 1 == i && q.2.category == 2)) = lv2 := by rw [hw_filt hc.1]; exact hl2
  by_cases e : t = 999
  · have e2 : hw_rv ad t = .null := if_pos e
    rw [e2] at hl3 ⊢
    exact lv_astore_nN C.1 C.2.1 dg hi hl hn hl3 k2
  · have e2 : hw_rv ad t = .ref (ad t) := if_neg e
    rw [e2] at hl3 ⊢
    exact lv_astore_n C.1 C.2.1 dg hi hl hn hl3 k2
theorem hw_astore (C : hw_Ok G cc own nL d ret TL) {i t : Nat} {ad : Nat → Nat} (dg : decode cc pc = .ok (.astore i, 2)) (hn : i < nL) {lv2 : List (Nat × Value)} (hl2 : (i, hw_rv ad t) :: lv.filter (fun q => !(q.1 == i)) = lv2) (k : hw_K G nL rr X (pc + 2) lv2 st σ) : hw_K G nL rr X pc lv (hw_rv ad t :: st) σ := by
  intro r σ' hX hc H locs ls hP hS hl
  have hc2 := hw_c1s (hw_c1t hc) (hw_rv_cat ad t) hl2
  have k2 := fun ls' hl' => k r σ' hX hc2 H locs ls' hP hS hl'
  have hl3 : (i, hw_rv ad t) :: lv.filter (fun q => !(q.1 == i) && !(q.1 + 1 == i && q.2.category == 2)) = lv2 := by rw [hw_filt hc.1]; exact hl2
  by_cases e : t = 999
  · have e2 : hw_rv ad t = .null := if_pos e
    rw [e2] at hl3 ⊢
    exact lv_astoreN C.1 C.2.1 dg hl hn hl3 k2
  · have e2 : hw_rv ad t = .ref (ad t) := if_neg e
    rw [e2] at hl3 ⊢
    exact lv_astore C.1 C.2.1 dg hl hn hl3 k2
theorem hw_iinc (C : hw_Ok G cc own nL d ret TL) {i : Nat} {z : Int} {x v : Int32} (dg : decode cc pc = .ok (.iinc i z, 3)) (j : Nat) (hj : lv[j]? = some (i, .int x)) (hv : Int32.ofInt z = v) (hn : i < nL) {lv2 : List (Nat × Value)} (hl2 : (i, Value.int (x + v)) :: lv.filter (fun q => !(q.1 == i)) = lv2) (k : hw_K G nL rr X (pc + 3) lv2 st σ) : hw_K G nL rr X pc lv st σ := by
  intro r σ' hX hc H locs ls hP hS hl
  exact lv_iinc C.1 C.2.1 dg hl hj (by rw [hv]) hn (by rw [hw_filt hc.1]; exact hl2) (fun ls' hl' => k r σ' hX (hw_c1s hc rfl hl2) H locs ls' hP hS hl')
theorem hw_iadd (C : hw_Ok G cc own nL d ret TL) {x y : Int32} (dg : decode cc pc = .ok (.iadd, 1)) (k : hw_K G nL rr X (pc + 1) lv (.int (x + y) :: st) σ) : hw_K G nL rr X (pc) lv (.int y :: .int x :: st) σ := fun r σ' hX hc H locs ls hP hS hl => lv_iadd C.1 C.2.1 dg (k r σ' hX (hw_c1i (hw_c1t (hw_c1t hc))) H locs ls hP hS hl)
theorem hw_isub (C : hw_Ok G cc own nL d ret TL) {x y : Int32} (dg : decode cc pc = .ok (.isub, 1)) (k : hw_K G nL rr X (pc + 1) lv (.int (x - y) :: st) σ) : hw_K G nL rr X (pc) lv (.int y :: .int x :: st) σ := fun r σ' hX hc H locs ls hP hS hl => lv_isub C.1 C.2.1 dg (k r σ' hX (hw_c1i (hw_c1t (hw_c1t hc))) H locs ls hP hS hl)
theorem hw_imul (C : hw_Ok G cc own nL d ret TL) {x y : Int32} (dg : decode cc pc = .ok (.imul, 1)) (k : hw_K G nL rr X (pc + 1) lv (.int (x * y) :: st) σ) : hw_K G nL rr X (pc) lv (.int y :: .int x :: st) σ := fun r σ' hX hc H locs ls hP hS hl => lv_imul C.1 C.2.1 dg (k r σ' hX (hw_c1i (hw_c1t (hw_c1t hc))) H locs ls hP hS hl)
theorem hw_iand (C : hw_Ok G cc own nL d ret TL) {x y : Int32} (dg : decode cc pc = .ok (.iand, 1)) (k : hw_K G nL rr X (pc + 1) lv (.int (x &&& y) :: st) σ) : hw_K G nL rr X (pc) lv (.int y :: .int x :: st) σ := fun r σ' hX hc H locs ls hP hS hl => lv_iand C.1 C.2.1 dg (k r σ' hX (hw_c1i (hw_c1t (hw_c1t hc))) H locs ls hP hS hl)
theorem hw_ior (C : hw_Ok G cc own nL d ret TL) {x y : Int32} (dg : decode cc pc = .ok (.ior, 1)) (k : hw_K G nL rr X (pc + 1) lv (.int (x ||| y) :: st) σ) : hw_K G nL rr X (pc) lv (.int y :: .int x :: st) σ := fun r σ' hX hc H locs ls hP hS hl => lv_ior C.1 C.2.1 dg (k r σ' hX (hw_c1i (hw_c1t (hw_c1t hc))) H locs ls hP hS hl)
theorem hw_ixor (C : hw_Ok G cc own nL d ret TL) {x y : Int32} (dg : decode cc pc = .ok (.ixor, 1)) (k : hw_K G nL rr X (pc + 1) lv (.int (x ^^^ y) :: st) σ) : hw_K G nL rr X (pc) lv (.int y :: .int x :: st) σ := fun r σ' hX hc H locs ls hP hS hl => lv_ixor C.1 C.2.1 dg (k r σ' hX (hw_c1i (hw_c1t (hw_c1t hc))) H locs ls hP hS hl)
theorem hw_ishl (C : hw_Ok G cc own nL d ret TL) {x y : Int32} (dg : decode cc pc = .ok (.ishl, 1)) (k : hw_K G nL rr X (pc + 1) lv (.int (x <<< (y &&& 31)) :: st) σ) : hw_K G nL rr X (pc) lv (.int y :: .int x :: st) σ := fun r σ' hX hc H locs ls hP hS hl => lv_ishl C.1 C.2.1 dg (k r σ' hX (hw_c1i (hw_c1t (hw_c1t hc))) H locs ls hP hS hl)
theorem hw_ishr (C : hw_Ok G cc own nL d ret TL) {x y : Int32} (dg : decode cc pc = .ok (.ishr, 1)) (k : hw_K G nL rr X (pc + 1) lv (.int (x >>> (y &&& 31)) :: st) σ) : hw_K G nL rr X (pc) lv (.int y :: .int x :: st) σ := fun r σ' hX hc H locs ls hP hS hl => lv_ishr C.1 C.2.1 dg (k r σ' hX (hw_c1i (hw_c1t (hw_c1t hc))) H locs ls hP hS hl)
theorem hw_iushr (C : hw_Ok G cc own nL d ret TL) {x y : Int32} (dg : decode cc pc = .ok (.iushr, 1)) (k : hw_K G nL rr X (pc + 1) lv (.int (hw_ushr x y) :: st) σ) : hw_K G nL rr X (pc) lv (.int y :: .int x :: st) σ := fun r σ' hX hc H locs ls hP hS hl => lv_iushr C.1 C.2.1 dg rfl (k r σ' hX (hw_c1i (hw_c1t (hw_c1t hc))) H locs ls hP hS hl)
theorem hw_idivC (C : hw_Ok G cc own nL d ret TL) {x y : Int32} (dg : decode cc pc = .ok (.idiv, 1)) (hne : ¬ y = 0) (k : hw_K G nL rr X (pc + 1) lv (.int (x / y) :: st) σ) : hw_K G nL rr X (pc) lv (.int y :: .int x :: st) σ := fun r σ' hX hc H locs ls hP hS hl => lv_idiv C.1 C.2.1 dg hne (k r σ' hX (hw_c1i (hw_c1t (hw_c1t hc))) H locs ls hP hS hl)
theorem hw_idiv (C : hw_Ok G cc own nL d ret TL) {x y : Int32} (dg : decode cc pc = .ok (.idiv, 1)) (k : hw_K G nL rr X (pc + 1) lv (.int (x / y) :: st) σ) : hw_K G nL rr (hw_gd (hw_nz y) X) (pc) lv (.int y :: .int x :: st) σ := hw_gdK (fun h => hw_idivC C dg (of_decide_eq_true h) k)
theorem hw_iremC (C : hw_Ok G cc own nL d ret TL) {x y : Int32} (dg : decode cc pc = .ok (.irem, 1)) (hne : ¬ y = 0) (k : hw_K G nL rr X (pc + 1) lv (.int (hw_rem x y) :: st) σ) : hw_K G nL rr X (pc) lv (.int y :: .int x :: st) σ := fun r σ' hX hc H locs ls hP hS hl => lv_irem C.1 C.2.1 dg hne (k r σ' hX (hw_c1i (hw_c1t (hw_c1t hc))) H locs ls hP hS hl)
theorem hw_irem (C : hw_Ok G cc own nL d ret TL) {x y : Int32} (dg : decode cc pc = .ok (.irem, 1)) (k : hw_K G nL rr X (pc + 1) lv (.int (hw_rem x y) :: st) σ) : hw_K G nL rr (hw_gd (hw_nz y) X) (pc) lv (.int y :: .int x :: st) σ := hw_gdK (fun h => hw_iremC C dg (of_decide_eq_true h) k)
theorem hw_ineg (C : hw_Ok G cc own nL d ret TL) {x : Int32} (dg : decode cc pc = .ok (.ineg, 1)) (k : hw_K G nL rr X (pc + 1) lv (.int (-x) :: st) σ) : hw_K G nL rr X (pc) lv (.int x :: st) σ := fun r σ' hX hc H locs ls hP hS hl => lv_ineg C.1 C.2.1 dg (k r σ' hX (hw_c1i (hw_c1t hc)) H locs ls hP hS hl)
theorem hw_c_i2b (C : hw_Ok G cc own nL d ret TL) {x : Int32} (dg : decode cc pc = .ok (.i2b, 1)) (k : hw_K G nL rr X (pc + 1) lv (.int (x.toInt8.toInt32) :: st) σ) : hw_K G nL rr X (pc) lv (.int x :: st) σ := fun r σ' hX hc H locs ls hP hS hl => lv_i2b C.1 C.2.1 dg rfl (k r σ' hX (hw_c1i (hw_c1t hc)) H locs ls hP hS hl)
theorem hw_c_i2s (C : hw_Ok G cc own nL d ret TL) {x : Int32} (dg : decode cc pc = .ok (.i2s, 1)) (k : hw_K G nL rr X (pc + 1) lv (.int (x.toInt16.toInt32) :: st) σ) : hw_K G nL rr X (pc) lv (.int x :: st) σ := fun r σ' hX hc H locs ls hP hS hl => lv_i2s C.1 C.2.1 dg rfl (k r σ' hX (hw_c1i (hw_c1t hc)) H locs ls hP hS hl)
theorem hw_c_i2c (C : hw_Ok G cc own nL d ret TL) {x : Int32} (dg : decode cc pc = .ok (.i2c, 1)) (k : hw_K G nL rr X (pc + 1) lv (.int (hw_i2c x) :: st) σ) : hw_K G nL rr X (pc) lv (.int x :: st) σ := fun r σ' hX hc H locs ls hP hS hl => lv_i2c C.1 C.2.1 dg rfl (k r σ' hX (hw_c1i (hw_c1t hc)) H locs ls hP hS hl)
theorem hw_dup (C : hw_Ok G cc own nL d ret TL) {v : Value} (dg : decode cc pc = .ok (.dup, 1)) (k : hw_K G nL rr X (pc + 1) lv (v :: v :: st) σ) : hw_K G nL rr X pc lv (v :: st) σ :=
  fun r σ' hX hc H locs ls hP hS hl => lv_dup C.1 C.2.1 dg (hc.2 v List.mem_cons_self) (k r σ' hX (hw_c1v hc (hc.2 v List.mem_cons_self)) H locs ls hP hS hl)
theorem hw_pop (C : hw_Ok G cc own nL d ret TL) {v : Value} (dg : decode cc pc = .ok (.pop, 1)) (k : hw_K G nL rr X (pc + 1) lv st σ) : hw_K G nL rr X pc lv (v :: st) σ :=
  fun r σ' hX hc H locs ls hP hS hl => lv_pop C.1 C.2.1 dg (hc.2 v List.mem_cons_self) (k r σ' hX (hw_c1t hc) H locs ls hP hS hl)
theorem hw_dup2 (C : hw_Ok G cc own nL d ret TL) {v w : Value} (dg : decode cc pc = .ok (.dup2, 1)) (k : hw_K G nL rr X (pc + 1) lv (v :: w :: v :: w :: st) σ) : hw_K G nL rr X pc lv (v :: w :: st) σ :=
  fun r σ' hX hc H locs ls hP hS hl => lv_dup2_11 C.1 C.2.1 dg (hc.2 v List.mem_cons_self) (hc.2 w (List.mem_cons_of_mem _ List.mem_cons_self)) (k r σ' hX (hw_c1v (hw_c1v hc (hc.2 w (List.mem_cons_of_mem _ List.mem_cons_self))) (hc.2 v List.mem_cons_self)) H locs ls hP hS hl)
theorem hw_dup_x1 (C : hw_Ok G cc own nL d ret TL) {v w : Value} (dg : decode cc pc = .ok (.dup_x1, 1)) (k : hw_K G nL rr X (pc + 1) lv (v :: w :: v :: st) σ) : hw_K G nL rr X pc lv (v :: w :: st) σ :=
  fun r σ' hX hc H locs ls hP hS hl => lv_dup_x1 C.1 C.2.1 dg (hc.2 v List.mem_cons_self) (hc.2 w (List.mem_cons_of_mem _ List.mem_cons_self)) (k r σ' hX (hw_c1v (hw_c1v (hw_c1v (hw_c1t (hw_c1t hc)) (hc.2 v List.mem_cons_self)) (hc.2 w (List.mem_cons_of_mem _ List.mem_cons_self))) (hc.2 v List.mem_cons_self)) H locs ls hP hS hl)
theorem hw_if_eq (C : hw_Ok G cc own nL d ret TL) {x : Int32} {off : Int} {tgt : Nat} {Y : Option (α × hw_St)} (dg : decode cc pc = .ok (.ifCond .eq off, 3)) (ht : (pc : Int) + off = (tgt : Int)) (kt : x = 0 → hw_K G nL rr X tgt lv st σ) (kf : ¬ (x = 0) → hw_K G nL rr Y (pc + 3) lv st σ) : hw_K G nL rr (if x = 0 then X else Y) pc lv (.int x :: st) σ :=
  hw_ifK (fun h r σ' hX hc H locs ls hP hS hl => lv_if_eq C.1 C.2.1 dg ht (fun _ => kt h r σ' hX (hw_c1t hc) H locs ls hP hS hl) (fun g => absurd h g)) (fun h r σ' hX hc H locs ls hP hS hl => lv_if_eq C.1 C.2.1 dg ht (fun g => absurd g h) (fun _ => kf h r σ' hX (hw_c1t hc) H locs ls hP hS hl))
theorem hw_icmp_eq (C : hw_Ok G cc own nL d ret TL) {x y : Int32} {off : Int} {tgt : Nat} {Y : Option (α × hw_St)} (dg : decode cc pc = .ok (.if_icmp .eq off, 3)) (ht : (pc : Int) + off = (tgt : Int)) (kt : x = y → hw_K G nL rr X tgt lv st σ) (kf : ¬ (x = y) → hw_K G nL rr Y (pc + 3) lv st σ) : hw_K G nL rr (if x = y then X else Y) pc lv (.int y :: .int x :: st) σ :=
  hw_ifK (fun h r σ' hX hc H locs ls hP hS hl => lv_icmp_eq C.1 C.2.1 dg ht (fun _ => kt h r σ' hX (hw_c1t (hw_c1t hc)) H locs ls hP hS hl) (fun g => absurd h g)) (fun h r σ' hX hc H locs ls hP hS hl => lv_icmp_eq C.1 C.2.1 dg ht (fun g => absurd g h) (fun _ => kf h r σ' hX (hw_c1t (hw_c1t hc)) H locs ls hP hS hl))
theorem hw_if_ne (C : hw_Ok G cc own nL d ret TL) {x : Int32} {off : Int} {tgt : Nat} {Y : Option (α × hw_St)} (dg : decode cc pc = .ok (.ifCond .ne off, 3)) (ht : (pc : Int) + off = (tgt : Int)) (kt : ¬ x = 0 → hw_K G nL rr X tgt lv st σ) (kf : x = 0 → hw_K G nL rr Y (pc + 3) lv st σ) : hw_K G nL rr (if x = 0 then Y else X) pc lv (.int x :: st) σ :=
  hw_ifK (fun h r σ' hX hc H locs ls hP hS hl => lv_if_ne C.1 C.2.1 dg ht (fun g => absurd h g) (fun _ => kf h r σ' hX (hw_c1t hc) H locs ls hP hS hl)) (fun h r σ' hX hc H locs ls hP hS hl => lv_if_ne C.1 C.2.1 dg ht (fun _ => kt h r σ' hX (hw_c1t hc) H locs ls hP hS hl) (fun g => absurd g h))
theorem hw_icmp_ne (C : hw_Ok G cc own nL d ret TL) {x y : Int32} {off : Int} {tgt : Nat} {Y : Option (α × hw_St)} (dg : decode cc pc = .ok (.if_icmp .ne off, 3)) (ht : (pc : Int) + off = (tgt : Int)) (kt : ¬ x = y → hw_K G nL rr X tgt lv st σ) (kf : x = y → hw_K G nL rr Y (pc + 3) lv st σ) : hw_K G nL rr (if x = y then Y else X) pc lv (.int y :: .int x :: st) σ :=
  hw_ifK (fun h r σ' hX hc H locs ls hP hS hl => lv_icmp_ne C.1 C.2.1 dg ht (fun g => absurd h g) (fun _ => kf h r σ' hX (hw_c1t (hw_c1t hc)) H locs ls hP hS hl)) (fun h r σ' hX hc H locs ls hP hS hl => lv_icmp_ne C.1 C.2.1 dg ht (fun _ => kt h r σ' hX (hw_c1t (hw_c1t hc)) H locs ls hP hS hl) (fun g => absurd g h))
theorem hw_if_lt (C : hw_Ok G cc own nL d ret TL) {x : Int32} {off : Int} {tgt : Nat} {Y : Option (α × hw_St)} (dg : decode cc pc = .ok (.ifCond .lt off, 3)) (ht : (pc : Int) + off = (tgt : Int)) (kt : x < 0 → hw_K G nL rr X tgt lv st σ) (kf : ¬ (x < 0) → hw_K G nL rr Y (pc + 3) lv st σ) : hw_K G nL rr (if x < 0 then X else Y) pc lv (.int x :: st) σ :=
  hw_ifK (fun h r σ' hX hc H locs ls hP hS hl => lv_if_lt C.1 C.2.1 dg ht (fun _ => kt h r σ' hX (hw_c1t hc) H locs ls hP hS hl) (fun g => absurd h g)) (fun h r σ' hX hc H locs ls hP hS hl => lv_if_lt C.1 C.2.1 dg ht (fun g => absurd g h) (fun _ => kf h r σ' hX (hw_c1t hc) H locs ls hP hS hl))
theorem hw_icmp_lt (C : hw_Ok G cc own nL d ret TL) {x y : Int32} {off : Int} {tgt : Nat} {Y : Option (α × hw_St)} (dg : decode cc pc = .ok (.if_icmp .lt off, 3)) (ht : (pc : Int) + off = (tgt : Int)) (kt : x < y → hw_K G nL rr X tgt lv st σ) (kf : ¬ (x < y) → hw_K G nL rr Y (pc + 3) lv st σ) : hw_K G nL rr (if x < y then X else Y) pc lv (.int y :: .int x :: st) σ :=
  hw_ifK (fun h r σ' hX hc H locs ls hP hS hl => lv_icmp_lt C.1 C.2.1 dg ht (fun _ => kt h r σ' hX (hw_c1t (hw_c1t hc)) H locs ls hP hS hl) (fun g => absurd h g)) (fun h r σ' hX hc H locs ls hP hS hl => lv_icmp_lt C.1 C.2.1 dg ht (fun g => absurd g h) (fun _ => kf h r σ' hX (hw_c1t (hw_c1t hc)) H locs ls hP hS hl))
theorem hw_if_ge (C : hw_Ok G cc own nL d ret TL) {x : Int32} {off : Int} {tgt : Nat} {Y : Option (α × hw_St)} (dg : decode cc pc = .ok (.ifCond .ge off, 3)) (ht : (pc : Int) + off = (tgt : Int)) (kt : 0 ≤ x → hw_K G nL rr X tgt lv st σ) (kf : ¬ (0 ≤ x) → hw_K G nL rr Y (pc + 3) lv st σ) : hw_K G nL rr (if 0 ≤ x then X else Y) pc lv (.int x :: st) σ :=
  hw_ifK (fun h r σ' hX hc H locs ls hP hS hl => lv_if_ge C.1 C.2.1 dg ht (fun _ => kt h r σ' hX (hw_c1t hc) H locs ls hP hS hl) (fun g => absurd h g)) (fun h r σ' hX hc H locs ls hP hS hl => lv_if_ge C.1 C.2.1 dg ht (fun g => absurd g h) (fun _ => kf h r σ' hX (hw_c1t hc) H locs ls hP hS hl))
theorem hw_icmp_ge (C : hw_Ok G cc own nL d ret TL) {x y : Int32} {off : Int} {tgt : Nat} {Y : Option (α × hw_St)} (dg : decode cc pc = .ok (.if_icmp .ge off, 3)) (ht : (pc : Int) + off = (tgt : Int)) (kt : y ≤ x → hw_K G nL rr X tgt lv st σ) (kf : ¬ (y ≤ x) → hw_K G nL rr Y (pc + 3) lv st σ) : hw_K G nL rr (if y ≤ x then X else Y) pc lv (.int y :: .int x :: st) σ :=
  hw_ifK (fun h r σ' hX hc H locs ls hP hS hl => lv_icmp_ge C.1 C.2.1 dg ht (fun _ => kt h r σ' hX (hw_c1t (hw_c1t hc)) H locs ls hP hS hl) (fun g => absurd h g)) (fun h r σ' hX hc H locs ls hP hS hl => lv_icmp_ge C.1 C.2.1 dg ht (fun g => absurd g h) (fun _ => kf h r σ' hX (hw_c1t (hw_c1t hc)) H locs ls hP hS hl))
theorem hw_if_gt (C : hw_Ok G cc own nL d ret TL) {x : Int32} {off : Int} {tgt : Nat} {Y : Option (α × hw_St)} (dg : decode cc pc = .ok (.ifCond .gt off, 3)) (ht : (pc : Int) + off = (tgt : Int)) (kt : 0 < x → hw_K G nL rr X tgt lv st σ) (kf : ¬ (0 < x) → hw_K G nL rr Y (pc + 3) lv st σ) : hw_K G nL rr (if 0 < x then X else Y) pc lv (.int x :: st) σ :=
  hw_ifK (fun h r σ' hX hc H locs ls hP hS hl => lv_if_gt C.1 C.2.1 dg ht (fun _ => kt h r σ' hX (hw_c1t hc) H locs ls hP hS hl) (fun g => absurd h g)) (fun h r σ' hX hc H locs ls hP hS hl => lv_if_gt C.1 C.2.1 dg ht (fun g => absurd g h) (fun _ => kf h r σ' hX (hw_c1t hc) H locs ls hP hS hl))
theorem hw_icmp_gt (C : hw_Ok G cc own nL d ret TL) {x y : Int32} {off : Int} {tgt : Nat} {Y : Option (α × hw_St)} (dg : decode cc pc = .ok (.if_icmp .gt off, 3)) (ht : (pc : Int) + off = (tgt : Int)) (kt : y < x → hw_K G nL rr X tgt lv st σ) (kf : ¬ (y < x) → hw_K G nL rr Y (pc + 3) lv st σ) : hw_K G nL rr (if y < x then X else Y) pc lv (.int y :: .int x :: st) σ :=
  hw_ifK (fun h r σ' hX hc H locs ls hP hS hl => lv_icmp_gt C.1 C.2.1 dg ht (fun _ => kt h r σ' hX (hw_c1t (hw_c1t hc)) H locs ls hP hS hl) (fun g => absurd h g)) (fun h r σ' hX hc H locs ls hP hS hl => lv_icmp_gt C.1 C.2.1 dg ht (fun g => absurd g h) (fun _ => kf h r σ' hX (hw_c1t (hw_c1t hc)) H locs ls hP hS hl))
theorem hw_if_le (C : hw_Ok G cc own nL d ret TL) {x : Int32} {off : Int} {tgt : Nat} {Y : Option (α × hw_St)} (dg : decode cc pc = .ok (.ifCond .le off, 3)) (ht : (pc : Int) + off = (tgt : Int)) (kt : x ≤ 0 → hw_K G nL rr X tgt lv st σ) (kf : ¬ (x ≤ 0) → hw_K G nL rr Y (pc + 3) lv st σ) : hw_K G nL rr (if x ≤ 0 then X else Y) pc lv (.int x :: st) σ :=
  hw_ifK (fun h r σ' hX hc H locs ls hP hS hl => lv_if_le C.1 C.2.1 dg ht (fun _ => kt h r σ' hX (hw_c1t hc) H locs ls hP hS hl) (fun g => absurd h g)) (fun h r σ' hX hc H locs ls hP hS hl => lv_if_le C.1 C.2.1 dg ht (fun g => absurd g h) (fun _ => kf h r σ' hX (hw_c1t hc) H locs ls hP hS hl))
theorem hw_icmp_le (C : hw_Ok G cc own nL d ret TL) {x y : Int32} {off : Int} {tgt : Nat} {Y : Option (α × hw_St)} (dg : decode cc pc = .ok (.if_icmp .le off, 3)) (ht : (pc : Int) + off = (tgt : Int)) (kt : x ≤ y → hw_K G nL rr X tgt lv st σ) (kf : ¬ (x ≤ y) → hw_K G nL rr Y (pc + 3) lv st σ) : hw_K G nL rr (if x ≤ y then X else Y) pc lv (.int y :: .int x :: st) σ :=
  hw_ifK (fun h r σ' hX hc H locs ls hP hS hl => lv_icmp_le C.1 C.2.1 dg ht (fun _ => kt h r σ' hX (hw_c1t (hw_c1t hc)) H locs ls hP hS hl) (fun g => absurd h g)) (fun h r σ' hX hc H locs ls hP hS hl => lv_icmp_le C.1 C.2.1 dg ht (fun g => absurd g h) (fun _ => kf h r σ' hX (hw_c1t (hw_c1t hc)) H locs ls hP hS hl))
theorem hw_goto (C : hw_Ok G cc own nL d ret TL) {off : Int} {tgt : Nat} (dg : decode cc pc = .ok (.goto off, 3)) (ht : (pc : Int) + off = (tgt : Int)) (k : hw_K G nL rr X tgt lv st σ) : hw_K G nL rr X pc lv st σ :=
  fun r σ' hX hc H locs ls hP hS hl => lv_goto C.1 C.2.1 dg ht (k r σ' hX hc H locs ls hP hS hl)
theorem hw_ifnull (C : hw_Ok G cc own nL d ret TL) {t : Nat} {ad : Nat → Nat} {off : Int} {tgt : Nat} {Y : Option (α × hw_St)} (dg : decode cc pc = .ok (.ifnull off, 3)) (ht : (pc : Int) + off = (tgt : Int)) (kt : t = 999 → hw_K G nL rr X tgt lv st σ) (kf : ¬ t = 999 → hw_K G nL rr Y (pc + 3) lv st σ) : hw_K G nL rr (if t = 999 then X else Y) pc lv (hw_rv ad t :: st) σ := by
  refine hw_ifK (fun h => ?_) (fun h => ?_)
  · intro r σ' hX hc H locs ls hP hS hl
    rw [show hw_rv ad t = .null from if_pos h]
    exact lv_ifnullN C.1 C.2.1 dg ht (kt h r σ' hX (hw_c1t hc) H locs ls hP hS hl)
  · intro r σ' hX hc H locs ls hP hS hl
    rw [show hw_rv ad t = .ref (ad t) from if_neg h]
    exact lv_ifnull C.1 C.2.1 dg (kf h r σ' hX (hw_c1t hc) H locs ls hP hS hl)
theorem hw_ifnonnull (C : hw_Ok G cc own nL d ret TL) {t : Nat} {ad : Nat → Nat} {off : Int} {tgt : Nat} {Y : Option (α × hw_St)} (dg : decode cc pc = .ok (.ifnonnull off, 3)) (ht : (pc : Int) + off = (tgt : Int)) (kt : ¬ t = 999 → hw_K G nL rr X tgt lv st σ) (kf : t = 999 → hw_K G nL rr Y (pc + 3) lv st σ) : hw_K G nL rr (if t = 999 then Y else X) pc lv (hw_rv ad t :: st) σ := by
  refine hw_ifK (fun h => ?_) (fun h => ?_)
  · intro r σ' hX hc H locs ls hP hS hl
    rw [show hw_rv ad t = .null from if_pos h]
    exact lv_ifnonnullN C.1 C.2.1 dg (kf h r σ' hX (hw_c1t hc) H locs ls hP hS hl)
  · intro r σ' hX hc H locs ls hP hS hl
    rw [show hw_rv ad t = .ref (ad t) from if_neg h]
    exact lv_ifnonnull C.1 C.2.1 dg ht (kt h r σ' hX (hw_c1t hc) H locs ls hP hS hl)
theorem hw_tabIn (C : hw_Ok G cc own nL d ret TL) {dflt lo hi : Int} {offs : Array Int} {len : Nat} {x v : Int32} {off : Int} {tgt : Nat} (dg : decode cc pc = .ok (.tableswitch dflt lo hi offs, len)) (hx : x = v) (hd : ¬ v.toInt < lo ∧ ¬ hi < v.toInt ∧ offs[(v.toInt - lo).toNat]? = some off ∧ (pc : Int) + off = (tgt : Int)) (k : hw_K G nL rr X tgt lv st σ) : hw_K G nL rr X pc lv (.int x :: st) σ :=
  fun r σ' hX hc H locs ls hP hS hl => lv_tableIn C.1 C.2.1 dg (by rw [hx]; exact hd.1) (by rw [hx]; exact hd.2.1) (by rw [hx]; exact hd.2.2.1) hd.2.2.2 (k r σ' hX (hw_c1t hc) H locs ls hP hS hl)
theorem hw_tabOut (C : hw_Ok G cc own nL d ret TL) {dflt lo hi : Int} {offs : Array Int} {len : Nat} {x : Int32} {tgt : Nat} (dg : decode cc pc = .ok (.tableswitch dflt lo hi offs, len)) (h : x.toInt < lo ∨ hi < x.toInt) (ht : (pc : Int) + dflt = (tgt : Int)) (k : hw_K G nL rr X tgt lv st σ) : hw_K G nL rr X pc lv (.int x :: st) σ :=
  fun r σ' hX hc H locs ls hP hS hl => lv_tableOut C.1 C.2.1 dg h ht (k r σ' hX (hw_c1t hc) H locs ls hP hS hl)
theorem hw_look (C : hw_Ok G cc own nL d ret TL) {dflt : Int} {ps : Array (Int × Int)} {len : Nat} {x : Int32} {off : Int} {tgt : Nat} (dg : decode cc pc = .ok (.lookupswitch dflt ps, len)) (hp : (ps.toList.zip (ps.toList.drop 1)).all (fun (a, next) => a.1 < next.1) = true) (ho : Op.lookupswitch.offset ps.toList dflt x.toInt = off) (ht : (pc : Int) + off = (tgt : Int)) (k : hw_K G nL rr X tgt lv st σ) : hw_K G nL rr X pc lv (.int x :: st) σ :=
  fun r σ' hX hc H locs ls hP hS hl => lv_lookup C.1 C.2.1 dg hp ho ht (k r σ' hX (hw_c1t hc) H locs ls hP hS hl)
theorem hw_ni {x c : Int32} {z : Int} (h : ¬ x = c) (hz : c.toInt = z) : x.toInt ≠ z := fun e => h (Int32.toInt_inj.mp (e.trans hz.symm))
theorem hw_post {β : Type} {G : hw_G} {rr : β → Option Value} {r : β} {σ : hw_St} {H : Heap} {locs : List Loc} {v : Option Value} (hv : v = rr r) (hP : hw_W (hw_gE G) σ H) (hS : va_S (hw_A (hw_gE G)) (hw_gs G).heap H locs) : ∀ t : State, t.heap = H → (hw_gs G).WarmedH t.vm → hw_Q (hw_gE G) rr r σ (hw_ga G) (hw_gs G) (.returned v) t :=
  fun t ht _ => ⟨by rw [hv], by rw [ht]; exact hP, hS.F ht⟩
theorem hw_iret {G : hw_G} {x : Int32} (C : hw_Ok G cc own nL d (some .int) TL) (dg : decode cc pc = .ok (.ireturn, 1)) : hw_K G nL hw_ri (some (x, σ)) pc lv [.int x] σ := by
  intro r σ' hX hc H locs ls hP hS hl
  cases hX
  exact W.iret C.1 C.2.1 C.2.2.2.2.2.2.2.2.2.2.1 (hw_post rfl hP hS) hS.2.2 dg C.2.2.2.2.2.2.2.2.2.1
theorem hw_zret1 {G : hw_G} {x : Int32} {ty : FieldType} (C : hw_Ok G cc own nL d (some ty) TL) (hn : narrow ty (.int x) = .int x) (dg : decode cc pc = .ok (.ireturn, 1)) : hw_K G nL hw_ri (some (x, σ)) pc lv [.int x] σ := by
  intro r σ' hX hc H locs ls hP hS hl
  cases hX
  exact W.zret C.1 C.2.1 C.2.2.2.2.2.2.2.2.2.2.1 hn (hw_post rfl hP hS) hS.2.2 dg C.2.2.2.2.2.2.2.2.2.1
theorem hw_isb_n {x : Int32} (h : hw_isb x = true) : narrow .boolean (.int x) = .int x ∧ fits .boolean (.int x) = true := by
  rcases of_decide_eq_true h with rfl | rfl <;> decide
theorem hw_zret {G : hw_G} {x : Int32} (C : hw_Ok G cc own nL d (some .boolean) TL) (dg : decode cc pc = .ok (.ireturn, 1)) : hw_K G nL hw_ri (hw_gd (hw_isb x) (some (x, σ))) pc lv [.int x] σ :=
  hw_gdK (fun h => hw_zret1 C (hw_isb_n h).1 dg)
theorem hw_vret {G : hw_G} (C : hw_Ok G cc own nL d none TL) (dg : decode cc pc = .ok (.return_, 1)) : hw_K G nL hw_r0 (some ((), σ)) pc lv [] σ := by
  intro r σ' hX hc H locs ls hP hS hl
  cases hX
  exact W.vret C.1 C.2.1 C.2.2.2.2.2.2.2.2.2.2.1 (hw_post rfl hP hS) hS.2.2 dg C.2.2.2.2.2.2.2.2.2.1
theorem hw_aret {G : hw_G} {t : Nat} {C0 : String} (C : hw_Ok G cc own nL d (some (.object C0)) TL) (dg : decode cc pc = .ok (.areturn, 1)) : hw_K G nL (hw_rq (hw_ea (hw_gE G))) (some (t, σ)) pc lv [hw_rv (hw_ea (hw_gE G)) t] σ := by
  intro r σ' hX hc H locs ls hP hS hl
  cases hX
  exact W.aret C.1 C.2.1 C.2.2.2.2.2.2.2.2.2.2.1 (Or.inl ⟨C0, rfl⟩) (by unfold hw_rv; split; · exact Or.inl rfl
                                                                        · exact Or.inr ⟨_, rfl⟩) (hw_post rfl hP hS) hS.2.2 dg C.2.2.2.2.2.2.2.2.2.1
end HWR
end
section
section HWH
variable {α : Type} {G : hw_G} {cc : ByteArray} {own : String} {nL d : Nat} {ret : Option FieldType} {TL : List Nat} {rr : α → Option Value} {X : Option (α × hw_St)} {pc : Nat} {lv : List (Nat × Value)} {st : List Value} {σ : hw_St}
/-- what is known of a class: its number, name, fields -/
def hw_CF (ci : Nat) (Cn : String) (T : u_T) (N : Nat) (ty : Nat → FieldType) : Prop := vwCl[ci]? = some (Cn, T, N) ∧ hw_nf ci = N ∧ ci < 10 ∧ (∀ w ∈ u_ws Cn T N, w ∈ hw_all) ∧ (∀ k, k < N → parseFieldDescriptor (T k).2.2.1 = some (ty k)) ∧ (∀ a, a < N → ∀ b, b < N → a ≠ b → (T a).2.1 ≠ (T b).2.1)
/-- what is known of a field's entry in a class's pool: field k of class ci, of kind fv -/
def hw_LF (own : String) (idx : Nat) (Cn : String) (T : u_T) (N ci k fv : Nat) : Prop := k < N ∧ hw_fk ci k = fv ∧ Cond.fieldLink own idx Cn (T k).2.1 (T k).2.2.1 ∈ hw_all ∧ (T k).1 = Cn
theorem hw_getV {Cn : String} {T : u_T} {N ci k fv idx t : Nat} {ty : Nat → FieldType} (C : hw_Ok G cc own nL d ret TL) (cf : hw_CF ci Cn T N ty) (lf : hw_LF own idx Cn T N ci k fv) (hT : hw_T TL t ci) (dg : decode cc pc = .ok (.getfield idx, 3)) (hv1 : (hw_fv (hw_ea (hw_gE G)) ci t (σ t) k).category = 1)
    (kk : hw_K G nL rr X (pc + 3) lv (hw_fv (hw_ea (hw_gE G)) ci t (σ t) k :: st) σ) : hw_K G nL rr X pc lv (hw_rv (hw_ea (hw_gE G)) t :: st) σ := by
  intro r σ' hX hc H locs ls hP hS hl
  obtain ⟨hx, hb, -, hown, hts, hK, -, -, -, -, -, -, hTL⟩ := C
  obtain ⟨i, hi⟩ := hw_tag hT
  rw [← hTL] at hi
  rw [hw_rv_ref (hT.ne (Nat.lt_trans cf.2.2.1 (by decide)))]
  have he := hw_ws_at (cA := hw_eC (hw_gE G)) (ad := hw_ea (hw_gE G)) (σ := σ) hi
  rw [hw_re_o hT.2 cf.2.2.1] at he
  exact va_get hx hb hts cf.2.2.2.1 hown hK hP i he cf.1 k lf.1 (hts _ lf.2.2.1) (by rw [lf.2.2.2]; exact fun _ h => h) (hw_fs_at (by rw [cf.2.1]; exact lf.1)) dg (kk r σ' hX (hw_c1v (hw_c1t hc) hv1) H locs ls hP hS hl)
theorem hw_getI {Cn : String} {T : u_T} {N ci k idx t : Nat} {ty : Nat → FieldType} (C : hw_Ok G cc own nL d ret TL) (cf : hw_CF ci Cn T N ty) (lf : hw_LF own idx Cn T N ci k 0) (hT : hw_T TL t ci) (dg : decode cc pc = .ok (.getfield idx, 3))
    (kk : hw_K G nL rr X (pc + 3) lv (.int (σ t k) :: st) σ) : hw_K G nL rr X pc lv (hw_rv (hw_ea (hw_gE G)) t :: st) σ := by
  have e : hw_fv (hw_ea (hw_gE G)) ci t (σ t) k = .int (σ t k) := by unfold hw_fv; rw [if_pos lf.2.1]
  exact hw_getV C cf lf hT dg (by rw [e]; rfl) (by rw [e]; exact kk)
theorem hw_getR {Cn : String} {T : u_T} {N ci k idx t t2 : Nat} {ty : Nat → FieldType} (C : hw_Ok G cc own nL d ret TL) (cf : hw_CF ci Cn T N ty) (lf : hw_LF own idx Cn T N ci k 1) (hT : hw_T TL t ci) (ht : hw_fl t k = t2) (dg : decode cc pc = .ok (.getfield idx, 3))
    (kk : hw_K G nL rr X (pc + 3) lv (hw_rv (hw_ea (hw_gE G)) t2 :: st) σ) : hw_K G nL rr X pc lv (hw_rv (hw_ea (hw_gE G)) t :: st) σ := by
  have e : hw_fv (hw_ea (hw_gE G)) ci t (σ t) k = hw_rv (hw_ea (hw_gE G)) t2 := by unfold hw_fv; rw [if_neg (by rw [lf.2.1]; decide), if_pos lf.2.1, ht]
  exact hw_getV C cf lf hT dg (by rw [e]; exact hw_rv_cat _ _) (by rw [e]; exact kk)
theorem hw_getM {Cn : String} {T : u_T} {N ci k idx t : Nat} {ty : Nat → FieldType} (C : hw_Ok G cc own nL d ret TL) (cf : hw_CF ci Cn T N ty) (lf : hw_LF own idx Cn T N ci k 2) (hT : hw_T TL t ci) (dg : decode cc pc = .ok (.getfield idx, 3))
    (kk : hw_K G nL rr X (pc + 3) lv (hw_rv (hw_ea (hw_gE G)) (σ t k).toNatClampNeg :: st) σ) : hw_K G nL rr X pc lv (hw_rv (hw_ea (hw_gE G)) t :: st) σ := by
  have e : hw_fv (hw_ea (hw_gE G)) ci t (σ t) k = hw_rv (hw_ea (hw_gE G)) (σ t k).toNatClampNeg := by unfold hw_fv; rw [if_neg (by rw [lf.2.1]; decide), if_neg (by rw [lf.2.1]; decide)]
  exact hw_getV C cf lf hT dg (by rw [e]; exact hw_rv_cat _ _) (by rw [e]; exact kk)
theorem hw_putV {Cn : String} {T : u_T} {N ci k fv idx t : Nat} {ty : Nat → FieldType} {f : hw_St → Option (α × hw_St)} {x : Int32} {v : Value} (C : hw_Ok G cc own nL d ret TL) (cf : hw_CF ci Cn T N ty) (lf : hw_LF own idx Cn T N ci k fv) (hT : hw_T TL t ci) (hfin : (T k).2.2.2 = false) (hv : hw_fv (hw_ea (hw_gE G)) ci t (upd (σ t) k x) k = v) (hn : narrow (ty k) v = v) (hfit : fits (ty k) v = true) (dg : decode cc pc = .ok (.putfield idx, 3))
    (kk : ∀ σ1 : hw_St, hw_K G nL rr (f σ1) (pc + 3) lv st σ1) : hw_K G nL rr (hw_nm (hw_up σ t k x) f) pc lv (v :: hw_rv (hw_ea (hw_gE G)) t :: st) σ := by
  intro r σ' hX hc H locs ls hP hS hl
  obtain ⟨hx, hb, -, hown, hts, hK, hAp, -, -, -, -, -, hTL⟩ := C
  obtain ⟨i, hi⟩ := hw_tag hT
  rw [← hTL] at hi
  rw [hw_rv_ref (hT.ne (Nat.lt_trans cf.2.2.1 (by decide)))]
  have he := hw_ws_at (cA := hw_eC (hw_gE G)) (ad := hw_ea (hw_gE G)) (σ := σ) hi
  rw [hw_re_o hT.2 cf.2.2.1] at he
  have hk : k < hw_nf ci := by rw [cf.2.1]; exact lf.1
  refine va_put hx hb hts cf.2.2.2.1 ty cf.2.2.2.2.1 cf.2.2.2.2.2 hown hK hP (hw_D hAp σ) hS i he cf.1 k lf.1 (hts _ lf.2.2.1) (by rw [lf.2.2.2]; exact fun _ h => h) hfin (cf.2.2.2.2.1 k lf.1) hn hfit (by rw [hw_fs_len]; exact hk) dg (fun H1 locs1 hP1 _ hS1 => ?_)
  rw [hw_fs_set hk hv, ← hw_re_o (cA := hw_eC (hw_gE G)) hT.2 cf.2.2.1, hw_ws_set hAp hi] at hP1
  exact kk (hw_up σ t k x) r σ' hX (hw_c1t (hw_c1t hc)) H1 locs1 ls hP1 hS1 hl
theorem hw_putI {Cn : String} {T : u_T} {N ci k idx t : Nat} {ty : Nat → FieldType} {f : hw_St → Option (α × hw_St)} {x : Int32} (C : hw_Ok G cc own nL d ret TL) (cf : hw_CF ci Cn T N ty) (lf : hw_LF own idx Cn T N ci k 0) (hT : hw_T TL t ci) (hfin : (T k).2.2.2 = false) (hty : ty k = .int) (dg : decode cc pc = .ok (.putfield idx, 3))
    (kk : ∀ σ1 : hw_St, hw_K G nL rr (f σ1) (pc + 3) lv st σ1) : hw_K G nL rr (hw_nm (hw_up σ t k x) f) pc lv (.int x :: hw_rv (hw_ea (hw_gE G)) t :: st) σ := by
  have e : hw_fv (hw_ea (hw_gE G)) ci t (upd (σ t) k x) k = .int x := by unfold hw_fv; rw [if_pos lf.2.1]; simp [upd]
  exact hw_putV C cf lf hT hfin e (by rw [hty]; rfl) (by rw [hty]; rfl) dg kk
theorem hw_putZ {Cn : String} {T : u_T} {N ci k idx t : Nat} {ty : Nat → FieldType} {f : hw_St → Option (α × hw_St)} {x : Int32} (C : hw_Ok G cc own nL d ret TL) (cf : hw_CF ci Cn T N ty) (lf : hw_LF own idx Cn T N ci k 0) (hT : hw_T TL t ci) (hfin : (T k).2.2.2 = false) (hty : ty k = .boolean) (dg : decode cc pc = .ok (.putfield idx, 3))
    (kk : ∀ σ1 : hw_St, hw_K G nL rr (f σ1) (pc + 3) lv st σ1) : hw_K G nL rr (hw_gd (hw_isb x) (hw_nm (hw_up σ t k x) f)) pc lv (.int x :: hw_rv (hw_ea (hw_gE G)) t :: st) σ := by
  refine hw_gdK (fun h => ?_)
  have e : hw_fv (hw_ea (hw_gE G)) ci t (upd (σ t) k x) k = .int x := by unfold hw_fv; rw [if_pos lf.2.1]; simp [upd]
  exact hw_putV C cf lf hT hfin e (by rw [hty]; exact (hw_isb_n h).1) (by rw [hty]; exact (hw_isb_n h).2) dg kk
/-- a reference is put: its tag is kept as a number -/
theorem hw_putM {Cn : String} {T : u_T} {N ci k idx t u : Nat} {ty : Nat → FieldType} {f : hw_St → Option (α × hw_St)} (C : hw_Ok G cc own nL d ret TL) (cf : hw_CF ci Cn T N ty) (lf : hw_LF own idx Cn T N ci k 2) (hT : hw_T TL t ci) (hfin : (T k).2.2.2 = false) (hu : u < 999) (hn : ∀ a : Nat, narrow (ty k) (.ref a) = .ref a) (hf : ∀ a : Nat, fits (ty k) (.ref a) = true) (dg : decode cc pc = .ok (.putfield idx, 3))
    (kk : ∀ σ1 : hw_St, hw_K G nL rr (f σ1) (pc + 3) lv st σ1) : hw_K G nL rr (hw_nm (hw_up σ t k (nI u)) f) pc lv (hw_rv (hw_ea (hw_gE G)) u :: hw_rv (hw_ea (hw_gE G)) t :: st) σ := by
  have hr : hw_rv (hw_ea (hw_gE G)) u = .ref (hw_ea (hw_gE G) u) := hw_rv_ref (by omega)
  have e : hw_fv (hw_ea (hw_gE G)) ci t (upd (σ t) k (nI u)) k = hw_rv (hw_ea (hw_gE G)) u := by
    unfold hw_fv; rw [if_neg (by rw [lf.2.1]; decide), if_neg (by rw [lf.2.1]; decide)]
    rw [pk_us, nI_clamp (by omega)]
  exact hw_putV C cf lf hT hfin e (by rw [hr]; exact hn _) (by rw [hr]; exact hf _) dg kk
/-! rows -/
theorem hw_at_i {c t : Nat} (C : hw_Ok G cc own nL d ret TL) (hT : hw_T TL t c) (h1 : ¬ c < 10) (h2 : c < 20) (σ : hw_St) : ∃ i : Nat, (hw_eT (hw_gE G))[i]? = some t ∧ (hw_ws (hw_eT (hw_gE G)) (hw_eC (hw_gE G)) (hw_ea (hw_gE G)) σ)[i]? = some (hw_ea (hw_gE G) t, (.inl (hw_eC (hw_gE G) c, hw_ln t, .inl (σ t)) : va_E)) := by
  obtain ⟨-, -, -, -, -, -, -, -, -, -, -, -, hTL⟩ := C
  obtain ⟨i, hi⟩ := hw_tag hT
  rw [← hTL] at hi
  have he := hw_ws_at (cA := hw_eC (hw_gE G)) (ad := hw_ea (hw_gE G)) (σ := σ) hi
  rw [hw_re_i hT.2 h1 h2] at he
  exact ⟨i, hi, he⟩
theorem hw_iald {t : Nat} {i : Int32} (C : hw_Ok G cc own nL d ret TL) (hT : hw_T TL t 10) (dg : decode cc pc = .ok (.iaload, 1)) (kk : hw_inb i (hw_ln t) = true → hw_K G nL rr X (pc + 1) lv (.int (σ t i.toNatClampNeg) :: st) σ) : hw_K G nL rr (hw_gd (hw_inb i (hw_ln t)) X) pc lv (.int i :: hw_rv (hw_ea (hw_gE G)) t :: st) σ := by
  refine hw_gdK (fun h => ?_)
  intro r σ' hX hc H locs ls hP hS hl
  obtain ⟨j, hj, he⟩ := hw_at_i C hT (by decide) (by decide) σ
  rw [hw_rv_ref (hT.ne (by decide))]
  exact va_iald C.1 C.2.1 C.2.2.2.2.2.1 hP j 0 he rfl (hw_inb_in h) dg (kk h r σ' hX (hw_c1i (hw_c1t (hw_c1t hc))) H locs ls hP hS hl)
theorem hw_bald {t : Nat} {i : Int32} (C : hw_Ok G cc own nL d ret TL) (hT : hw_T TL t 11) (dg : decode cc pc = .ok (.baload, 1)) (kk : hw_inb i (hw_ln t) = true → hw_K G nL rr X (pc + 1) lv (.int (σ t i.toNatClampNeg) :: st) σ) : hw_K G nL rr (hw_gd (hw_inb i (hw_ln t)) X) pc lv (.int i :: hw_rv (hw_ea (hw_gE G)) t :: st) σ := by
  refine hw_gdK (fun h => ?_)
  intro r σ' hX hc H locs ls hP hS hl
  obtain ⟨j, hj, he⟩ := hw_at_i C hT (by decide) (by decide) σ
  rw [hw_rv_ref (hT.ne (by decide))]
  exact va_bald C.1 C.2.1 C.2.2.2.2.2.1 hP j 1 he rfl (hw_inb_in h) dg (kk h r σ' hX (hw_c1i (hw_c1t (hw_c1t hc))) H locs ls hP hS hl)
theorem hw_cald {t : Nat} {i : Int32} (C : hw_Ok G cc own nL d ret TL) (hT : hw_T TL t 12) (dg : decode cc pc = .ok (.caload, 1)) (kk : hw_inb i (hw_ln t) = true → hw_K G nL rr X (pc + 1) lv (.int (σ t i.toNatClampNeg) :: st) σ) : hw_K G nL rr (hw_gd (hw_inb i (hw_ln t)) X) pc lv (.int i :: hw_rv (hw_ea (hw_gE G)) t :: st) σ := by
  refine hw_gdK (fun h => ?_)
  intro r σ' hX hc H locs ls hP hS hl
  obtain ⟨j, hj, he⟩ := hw_at_i C hT (by decide) (by decide) σ
  rw [hw_rv_ref (hT.ne (by decide))]
  exact va_cald C.1 C.2.1 C.2.2.2.2.2.1 hP j 2 he rfl (hw_inb_in h) dg (kk h r σ' hX (hw_c1i (hw_c1t (hw_c1t hc))) H locs ls hP hS hl)
theorem hw_zald {t : Nat} {i : Int32} (C : hw_Ok G cc own nL d ret TL) (hT : hw_T TL t 13) (dg : decode cc pc = .ok (.baload, 1)) (kk : hw_inb i (hw_ln t) = true → hw_K G nL rr X (pc + 1) lv (.int (σ t i.toNatClampNeg) :: st) σ) : hw_K G nL rr (hw_gd (hw_inb i (hw_ln t)) X) pc lv (.int i :: hw_rv (hw_ea (hw_gE G)) t :: st) σ := by
  refine hw_gdK (fun h => ?_)
  intro r σ' hX hc H locs ls hP hS hl
  obtain ⟨j, hj, he⟩ := hw_at_i C hT (by decide) (by decide) σ
  rw [hw_rv_ref (hT.ne (by decide))]
  exact va_zald C.1 C.2.1 C.2.2.2.2.2.1 hP j 3 he rfl (hw_inb_in h) dg (kk h r σ' hX (hw_c1i (hw_c1t (hw_c1t hc))) H locs ls hP hS hl)
theorem hw_iast {t : Nat} {i x : Int32} {f : hw_St → Option (α × hw_St)} (C : hw_Ok G cc own nL d ret TL) (hT : hw_T TL t 10) (dg : decode cc pc = .ok (.iastore, 1)) (kk : hw_inb i (hw_ln t) = true → ∀ σ1 : hw_St, hw_K G nL rr (f σ1) (pc + 1) lv st σ1) : hw_K G nL rr (hw_gd (hw_inb i (hw_ln t)) (hw_nm (hw_up σ t i.toNatClampNeg x) f)) pc lv (.int x :: .int i :: hw_rv (hw_ea (hw_gE G)) t :: st) σ := by
  refine hw_gdK (fun h => ?_)
  intro r σ' hX hc H locs ls hP hS hl
  obtain ⟨j, hj, he⟩ := hw_at_i C hT (by decide) (by decide) σ
  have hAp := C.2.2.2.2.2.2.1
  rw [hw_rv_ref (hT.ne (by decide))]
  refine va_iast C.1 C.2.1 C.2.2.2.2.2.1 hP (hw_D hAp σ) hS j 0 he rfl (hw_inb_in h) dg (fun H1 locs1 hP1 _ hS1 => ?_)
  rw [← hw_re_i (cA := hw_eC (hw_gE G)) (ad := hw_ea (hw_gE G)) hT.2 (by decide) (by decide), hw_ws_set hAp hj] at hP1
  exact kk h (hw_up σ t i.toNatClampNeg x) r σ' hX (hw_c1t (hw_c1t (hw_c1t hc))) H1 locs1 ls hP1 hS1 hl
theorem hw_bast {t : Nat} {i x : Int32} {f : hw_St → Option (α × hw_St)} (C : hw_Ok G cc own nL d ret TL) (hT : hw_T TL t 11) (dg : decode cc pc = .ok (.bastore, 1)) (kk : hw_inb i (hw_ln t) = true → ∀ σ1 : hw_St, hw_K G nL rr (f σ1) (pc + 1) lv st σ1) : hw_K G nL rr (hw_gd (hw_inb i (hw_ln t)) (hw_nm (hw_up σ t i.toNatClampNeg x.toInt8.toInt32) f)) pc lv (.int x :: .int i :: hw_rv (hw_ea (hw_gE G)) t :: st) σ := by
  refine hw_gdK (fun h => ?_)
  intro r σ' hX hc H locs ls hP hS hl
  obtain ⟨j, hj, he⟩ := hw_at_i C hT (by decide) (by decide) σ
  have hAp := C.2.2.2.2.2.2.1
  rw [hw_rv_ref (hT.ne (by decide))]
  refine va_bast C.1 C.2.1 C.2.2.2.2.2.1 hP (hw_D hAp σ) hS j 1 he rfl (hw_inb_in h) dg (fun H1 locs1 hP1 _ hS1 => ?_)
  rw [vp_nar_byte, ← hw_re_i (cA := hw_eC (hw_gE G)) (ad := hw_ea (hw_gE G)) hT.2 (by decide) (by decide), hw_ws_set hAp hj] at hP1
  exact kk h (hw_up σ t i.toNatClampNeg x.toInt8.toInt32) r σ' hX (hw_c1t (hw_c1t (hw_c1t hc))) H1 locs1 ls hP1 hS1 hl
theorem hw_zast {t : Nat} {i x : Int32} {f : hw_St → Option (α × hw_St)} (C : hw_Ok G cc own nL d ret TL) (hT : hw_T TL t 13) (dg : decode cc pc = .ok (.bastore, 1)) (kk : hw_inb i (hw_ln t) = true → ∀ σ1 : hw_St, hw_K G nL rr (f σ1) (pc + 1) lv st σ1) : hw_K G nL rr (hw_gd (hw_inb i (hw_ln t)) (hw_nm (hw_up σ t i.toNatClampNeg (vp_nar .boolean x)) f)) pc lv (.int x :: .int i :: hw_rv (hw_ea (hw_gE G)) t :: st) σ := by
  refine hw_gdK (fun h => ?_)
  intro r σ' hX hc H locs ls hP hS hl
  obtain ⟨j, hj, he⟩ := hw_at_i C hT (by decide) (by decide) σ
  have hAp := C.2.2.2.2.2.2.1
  rw [hw_rv_ref (hT.ne (by decide))]
  refine va_zast C.1 C.2.1 C.2.2.2.2.2.1 hP (hw_D hAp σ) hS j 3 he rfl (hw_inb_in h) dg (fun H1 locs1 hP1 _ hS1 => ?_)
  rw [← hw_re_i (cA := hw_eC (hw_gE G)) (ad := hw_ea (hw_gE G)) hT.2 (by decide) (by decide), hw_ws_set hAp hj] at hP1
  exact kk h (hw_up σ t i.toNatClampNeg (vp_nar .boolean x)) r σ' hX (hw_c1t (hw_c1t (hw_c1t hc))) H1 locs1 ls hP1 hS1 hl
/-- a row of cells: kind c in 20 .. 23, of the cells' kind e -/
theorem hw_aald {t c t0 : Nat} {Cn : String} {i : Int32} (C : hw_Ok G cc own nL d ret TL) (hT : hw_T TL t c) (hc0 : ¬ c < 10 ∧ ¬ c < 20 ∧ c < 90) (ht0 : ∀ cA, (hw_ty cA)[t0]? = some (cA c, .object Cn)) (dg : decode cc pc = .ok (.aaload, 1)) (hne : hw_el t i.toNatClampNeg ≠ 999) (hin : hw_inb i (hw_ln t) = true) (kk : hw_K G nL rr X (pc + 1) lv (hw_rv (hw_ea (hw_gE G)) (hw_el t i.toNatClampNeg) :: st) σ) : hw_K G nL rr X pc lv (.int i :: hw_rv (hw_ea (hw_gE G)) t :: st) σ := by
  intro r σ' hX hc H locs ls hP hS hl
  have hTL := C.2.2.2.2.2.2.2.2.2.2.2.2
  obtain ⟨j, hj⟩ := hw_tag hT
  rw [← hTL] at hj
  have he := hw_ws_at (cA := hw_eC (hw_gE G)) (ad := hw_ea (hw_gE G)) (σ := σ) hj
  rw [hw_re_q hT.2 hc0.1 hc0.2.1] at he
  rw [hw_rv_ref (hT.ne hc0.2.2)]
  refine va_aldq C.1 C.2.1 C.2.2.2.2.2.1 hP j t0 he (ht0 _) (hw_inb_in hin) dg ?_
  have k2 := kk r σ' hX (hw_c1r (hw_c1t (hw_c1t hc))) H locs ls hP hS hl
  rw [hw_rv_ref hne] at k2
  exact k2
theorem hw_aaldH {t c t0 e : Nat} {Cn : String} {i : Int32} (C : hw_Ok G cc own nL d ret TL) (hT : hw_T TL t c) (hc0 : ¬ c < 10 ∧ ¬ c < 20 ∧ c < 90) (ht0 : ∀ cA, (hw_ty cA)[t0]? = some (cA c, .object Cn)) (he : e < 90) (dg : decode cc pc = .ok (.aaload, 1)) (kk : hw_T hw_TH (hw_el t i.toNatClampNeg) e → hw_K G nL rr X (pc + 1) lv (hw_rv (hw_ea (hw_gE G)) (hw_el t i.toNatClampNeg) :: st) σ) : hw_K G nL rr (hw_gd (hw_inb i (hw_ln t)) (hw_gd (hw_gH (hw_el t i.toNatClampNeg) e) X)) pc lv (.int i :: hw_rv (hw_ea (hw_gE G)) t :: st) σ := by
  refine hw_gdK (fun h => ?_)
  intro r σ' hX
  unfold hw_gd at hX
  split at hX
  · next h2 => exact hw_aald C hT hc0 ht0 dg ((hw_gH_T h2).ne he) h (kk (hw_gH_T h2)) r σ' hX
  · cases hX
theorem hw_alen {t c : Nat} {ty : FieldType} (t0 : Nat) (C : hw_Ok G cc own nL d ret TL) (hT : hw_T TL t c) (hc0 : ¬ c < 10 ∧ c < 20) (ht0 : ∀ cA, (hw_ty cA)[t0]? = some (cA c, ty)) (dg : decode cc pc = .ok (.arraylength, 1)) (kk : hw_K G nL rr X (pc + 1) lv (.int (nI (hw_ln t)) :: st) σ) : hw_K G nL rr X pc lv (hw_rv (hw_ea (hw_gE G)) t :: st) σ := by
  intro r σ' hX hc H locs ls hP hS hl
  obtain ⟨j, hj, he⟩ := hw_at_i C hT hc0.1 hc0.2 σ
  rw [hw_rv_ref (hT.ne (by omega))]
  exact va_alen C.1 C.2.1 C.2.2.2.2.2.1 hP j t0 he (ht0 _) rfl dg (kk r σ' hX (hw_c1i (hw_c1t hc)) H locs ls hP hS hl)
/-! Math, arraycopy -/
theorem hw_room {n : Nat} {m : Nat} (C : hw_Ok G cc own nL d ret TL) (h : n + m ≤ 40) : n + m ≤ (hw_gR G).locals ∧ 1 ≤ (hw_gR G).frames := by
  have hR := C.2.2.2.2.2.2.2.2.2.2.2.1
  rw [hR]
  unfold hw_rm
  dsimp only
  omega
theorem hw_mmax {x y : Int32} {idx : Nat} (C : hw_Ok G cc own nL d ret TL) (hl0 : Cond.methodLink own idx Lib.Math.max.name ∈ hw_all) (hw : Cond.static Lib.Math.max.name ∈ hw_all ∧ Cond.initialized "java/lang/Math" ∈ hw_all ∧ Cond.code Lib.Math.max.name Lib.Math.max.code 2 (some .int) ∈ hw_all) (hst : st.length ≤ 8) (dg : decode cc pc = .ok (.invokestatic idx, 3)) (kk : hw_K G nL rr X (pc + 3) lv (.int (hw_max x y) :: st) σ) : hw_K G nL rr X pc lv (.int y :: .int x :: st) σ := by
  intro r σ' hX hc H locs ls hP hS hl
  have hts := C.2.2.2.2.1
  have hr := hw_room (n := (st.map fun v => v.category).sum) (m := 13) C (by rw [hw_sum (hw_c1t (hw_c1t hc)).2]; omega)
  exact va_mmax C.1 C.2.1 (C.2.2.1.trans hl.1.symm) C.2.2.2.1 (hts _ hl0) (hts _ hw.1) (hts _ hw.2.1) (hts _ hw.2.2) hr.2 hr.1 (Nat.zero_le _) (Nat.zero_le _) dg (kk r σ' hX (hw_c1i (hw_c1t (hw_c1t hc))) H locs ls hP hS hl)
theorem hw_mmin {x y : Int32} {idx : Nat} (C : hw_Ok G cc own nL d ret TL) (hl0 : Cond.methodLink own idx Lib.Math.min.name ∈ hw_all) (hw : Cond.static Lib.Math.min.name ∈ hw_all ∧ Cond.initialized "java/lang/Math" ∈ hw_all ∧ Cond.code Lib.Math.min.name Lib.Math.min.code 2 (some .int) ∈ hw_all) (hst : st.length ≤ 8) (dg : decode cc pc = .ok (.invokestatic idx, 3)) (kk : hw_K G nL rr X (pc + 3) lv (.int (hw_min x y) :: st) σ) : hw_K G nL rr X pc lv (.int y :: .int x :: st) σ := by
  intro r σ' hX hc H locs ls hP hS hl
  have hts := C.2.2.2.2.1
  have hr := hw_room (n := (st.map fun v => v.category).sum) (m := 13) C (by rw [hw_sum (hw_c1t (hw_c1t hc)).2]; omega)
  exact va_mmin C.1 C.2.1 (C.2.2.1.trans hl.1.symm) C.2.2.2.1 (hts _ hl0) (hts _ hw.1) (hts _ hw.2.1) (hts _ hw.2.2) hr.2 hr.1 (Nat.zero_le _) (Nat.zero_le _) dg (kk r σ' hX (hw_c1i (hw_c1t (hw_c1t hc))) H locs ls hP hS hl)
theorem hw_mabs {x : Int32} {idx : Nat} (C : hw_Ok G cc own nL d ret TL) (hl0 : Cond.methodLink own idx Lib.Math.abs.name ∈ hw_all) (hw : Cond.static Lib.Math.abs.name ∈ hw_all ∧ Cond.initialized "java/lang/Math" ∈ hw_all ∧ Cond.code Lib.Math.abs.name Lib.Math.abs.code 1 (some .int) ∈ hw_all) (hst : st.length ≤ 8) (dg : decode cc pc = .ok (.invokestatic idx, 3)) (kk : hw_K G nL rr X (pc + 3) lv (.int (hw_abs x) :: st) σ) : hw_K G nL rr X pc lv (.int x :: st) σ := by
  intro r σ' hX hc H locs ls hP hS hl
  have hts := C.2.2.2.2.1
  have hr := hw_room (n := (st.map fun v => v.category).sum) (m := 13) C (by rw [hw_sum (hw_c1t hc).2]; omega)
  exact va_mabs C.1 C.2.1 (C.2.2.1.trans hl.1.symm) C.2.2.2.1 (hts _ hl0) (hts _ hw.1) (hts _ hw.2.1) (hts _ hw.2.2) hr.2 hr.1 (Nat.zero_le _) (Nat.zero_le _) dg (kk r σ' hX (hw_c1i (hw_c1t hc)) H locs ls hP hS hl)
theorem hw_copy {t0 t1 : Nat} {sp dp n : Int32} {idx : Nat} {f : hw_St → Option (α × hw_St)} (C : hw_Ok G cc own nL d ret TL) (hT0 : hw_T TL t0 10) (hT1 : hw_T TL t1 10) (hl0 : Cond.methodLink own idx arraycopyName ∈ hw_all) (hw : Cond.native arraycopyName ∈ hw_all ∧ Cond.static arraycopyName ∈ hw_all ∧ Cond.initialized "java/lang/System" ∈ hw_all) (hst : st.length ≤ 8) (dg : decode cc pc = .ok (.invokestatic idx, 3)) (kk : ∀ σ1 : hw_St, hw_K G nL rr (f σ1) (pc + 3) lv st σ1) :
    hw_K G nL rr (hw_gd (hw_cpo sp dp n (hw_ln t0) (hw_ln t1)) (hw_nm (hw_upA σ t1 (va_cpy (σ t0) (σ t1) sp.toNatClampNeg dp.toNatClampNeg n.toNatClampNeg)) f)) pc lv (.int n :: .int dp :: hw_rv (hw_ea (hw_gE G)) t1 :: .int sp :: hw_rv (hw_ea (hw_gE G)) t0 :: st) σ := by
  refine hw_gdK (fun h => ?_)
  intro r σ' hX hc H locs ls hP hS hl
  obtain ⟨g1, g2, g3, g4, g5⟩ := of_decide_eq_true h
  obtain ⟨j0, hj0, he0⟩ := hw_at_i C hT0 (by decide) (by decide) σ
  obtain ⟨j1, hj1, he1⟩ := hw_at_i C hT1 (by decide) (by decide) σ
  have hts := C.2.2.2.2.1
  have hAp := C.2.2.2.2.2.2.1
  have hc2 := hw_c1t (hw_c1t (hw_c1t (hw_c1t (hw_c1t hc))))
  have h30 : nativeFrameWords "java/lang/System" "arraycopy" 5 + 11 ≤ 30 := by decide
  have hr := hw_room (n := (st.map fun v => v.category).sum) (m := nativeFrameWords "java/lang/System" "arraycopy" 5 + 11) C (by rw [hw_sum hc2.2]; omega)
  rw [hw_rv_ref (hT0.ne (by decide)), hw_rv_ref (hT1.ne (by decide))]
  refine va_copyi C.1 C.2.1 (C.2.2.1.trans hl.1.symm) C.2.2.2.1 (hts _ hl0) (hts _ hw.1) (hts _ hw.2.1) (hts _ hw.2.2) C.2.2.2.2.2.1 hP (hw_D hAp σ) hS j0 j1 0 0 he0 he1 rfl rfl rfl g1 g2 g3 g4 g5 (fun _ _ => rfl) hr.2 hr.1 dg (fun H1 locs1 hP1 _ hS1 => ?_)
  rw [← hw_re_i (cA := hw_eC (hw_gE G)) (ad := hw_ea (hw_gE G)) hT1.2 (by decide) (by decide), hw_ws_set hAp hj1] at hP1
  exact kk _ r σ' hX hc2 H1 locs1 ls hP1 hS1 hl
/-! the static row KIND_ABOVE -/
theorem hw_gets {idx : Nat} (C : hw_Ok G cc own nL d ret TL) (hl0 : Cond.fieldLink own idx "HumWire" "KIND_ABOVE" "[I" ∈ hw_all) (dg : decode cc pc = .ok (.getstatic idx, 3)) (kk : hw_K G nL rr X (pc + 3) lv (hw_rv (hw_ea (hw_gE G)) 950 :: st) σ) : hw_K G nL rr X pc lv st σ := by
  intro r σ' hX hc H locs ls hP hS hl
  have k2 := kk r σ' hX (hw_c1r hc) H locs ls hP hS hl
  rw [hw_rv_ref (by decide)] at k2
  exact va_gets C.1 C.2.1 C.2.2.2.2.2.2.2.2.1.1 hS C.2.2.2.1 (C.2.2.2.2.1 _ hl0) (fun _ h => h) dg k2
theorem hw_ialdK {i : Int32} (C : hw_Ok G cc own nL d ret TL) (dg : decode cc pc = .ok (.iaload, 1)) (kk : hw_inb i 6 = true → hw_K G nL rr X (pc + 1) lv (.int (hw_ka.getD i.toNatClampNeg 0) :: st) σ) : hw_K G nL rr (hw_gd (hw_inb i 6) X) pc lv (.int i :: hw_rv (hw_ea (hw_gE G)) 950 :: st) σ := by
  refine hw_gdK (fun h => ?_)
  intro r σ' hX hc H locs ls hP hS hl
  rw [hw_rv_ref (by decide)]
  exact va_ti C.1 C.2.1 C.2.2.2.2.2.2.2.2.1.2.1 hS (hw_inb_in h) rfl dg (kk h r σ' hX (hw_c1i (hw_c1t (hw_c1t hc))) H locs ls hP hS hl)
end HWH
end
section
section HWC
variable {α β : Type} {G : hw_G} {cc : ByteArray} {own : String} {nL d : Nat} {ret : Option FieldType} {TL : List Nat} {rr : α → Option Value} {rb : β → Option Value} {pc : Nat} {lv : List (Nat × Value)} {st : List Value} {σ : hw_St}
theorem hw_blind (E : hw_E) (av : List Value) (σ : hw_St) : FrameBlind (va_Pc av (hw_Wd E σ)) := by
  intro a U g mk h
  obtain ⟨h1, hP, hK, hA, hN, hC⟩ := h
  exact ⟨h1, hP, va_K.moved (u := U) (U := U.calling g mk a) (Vm.Alike.refl U.vm) hK, hA, hN.same rfl, hC.moved (U := U.calling g mk a) (Vm.Alike.refl U.vm)⟩
theorem hw_pre {H : Heap} {locs : List Loc} (C : hw_Ok G cc own nL d ret TL) (hP : hw_W (hw_gE G) σ H) (hS : va_S (hw_A (hw_gE G)) (hw_gs G).heap H locs) (av : List Value) : ∀ U : State, U.heap = H → (hw_gs G).WarmedH U.vm → va_Pc av (hw_Wd (hw_gE G) σ) av.toArray U := by
  intro U hU hW
  obtain ⟨-, -, -, -, -, hK, hAp, hN, hCs, -⟩ := C
  exact ⟨rfl, by rw [hU]; exact hP, va_K.moved hW.alike hK, hAp, hN.warm hW, by rw [hU]; exact (hCs.kept hS.2.1).moved hW.alike⟩
/-- a method's own words: its code, that its class is there, how many arguments it takes -/
def hw_MW (y : MethodName) (cy : ByteArray) (mL : Nat) (ry : Option FieldType) (n : Nat) : Prop := Cond.code y cy mL ry ∈ hw_all ∧ Cond.initialized y.cls ∈ hw_all ∧ mL ≤ 20 ∧ (y.cls ≠ "java/lang/invoke/MethodHandle" ∧ y.cls ≠ "java/lang/invoke/VarHandle" ∧ (parseMethodDescriptor y.desc).map (fun q => q.parameters.length) = some n)
theorem hw_goodIn {y : MethodName} {cy : ByteArray} {mL : Nat} {ry : Option FieldType} (h : Cond.code y cy mL ry ∈ hw_all) : GoodIn hw_all (.code y cy mL ry :: hw_all) := by
  intro w hw
  rcases List.mem_cons.mp hw with rfl | hw
  · exact ⟨h, good_of_word (hw_all_good h)⟩
  · exact ⟨hw, good_of_word (hw_all_good hw)⟩
theorem hw_cw {y : MethodName} {cy : ByteArray} {mL n idx d2 : Nat} {ry : Option FieldType} (C : hw_Ok G cc own nL d ret TL) (hw : hw_MW y cy mL ry n) (hl0 : Cond.methodLink own idx y ∈ hw_all) (hd : d2 < d) : CallB (hw_gR G) (hw_gs G) (hw_ga G) own idx y cy mL ry (.code y cy mL ry :: hw_all) (hw_rm d2) 0 0 n := by
  have hts := C.2.2.2.2.1
  have hR := C.2.2.2.2.2.2.2.2.2.2.2.1
  refine callB_of n hts (hw_goodIn hw.1) rfl rfl rfl (hts _ hw.2.1) (hts _ hl0) hw.2.2.2 ?_
  rw [hR]
  have := hw.2.2.1
  unfold hw_rm
  dsimp only
  omega
theorem hw_cont {H : Heap} {locs : List Loc} {ls : Array Slot} {st0 rest : List Value} {r1 : β} {σ1 : hw_St} {a : Array Value} {Q : State → Prop}
    (hr : va_Run (hw_gp G) (hw_eL (hw_gE G)) (hw_ge G) (hw_gR G) (hw_gs G) (hw_gm G) (hw_ga G) (hw_gb G) (hw_gM_ G) (hw_gc G) H locs 0 0 0 0 (F0 (hw_gm G) pc ls st0) rest (hw_Q (hw_gE G) rb r1 σ1 a) (hw_A (hw_gE G))) (hS : va_S (hw_A (hw_gE G)) (hw_gs G).heap H locs)
    (kk : ∀ (H1 : Heap) (locs1 : List Loc), hw_W (hw_gE G) σ1 H1 → va_S (hw_A (hw_gE G)) (hw_gs G).heap H1 locs1 → W (hw_gp G) (hw_eL (hw_gE G)) (hw_ge G) (hw_gR G) (hw_gs G) (hw_gm G) (hw_ga G) (hw_gb G) (hw_gM_ G) (hw_gc G) H1 locs1 0 0 Q (F0 (hw_gm G) (pc + 3) ls ((rb r1).toList ++ rest))) :
    W (hw_gp G) (hw_eL (hw_gE G)) (hw_ge G) (hw_gR G) (hw_gs G) (hw_gm G) (hw_ga G) (hw_gb G) (hw_gM_ G) (hw_gc G) H locs 0 0 Q (F0 (hw_gm G) pc ls st0) := by
  intro T hT X
  obtain ⟨v, st₀, t, T', L, h0, X', hL, e1, e2, ⟨hv, hb, hz, hk⟩, stp⟩ := hr T hT X
  cases hv
  rw [h0] at hz hk
  obtain ⟨t2, a1, b1⟩ := kk T'.heap (locs ++ L) (by rw [e1]; exact hb)
    ⟨Nat.le_trans hS.1 (by rw [e1]; exact hz), fun q h1 h2 => by rw [e1, hk q (Nat.lt_of_lt_of_le h1 hS.1) h2]; exact hS.2.1 q h1 h2, fun q hq => by
      rcases List.mem_append.mp hq with h | h
      · exact hS.2.2 q h
      · exact hL q h⟩ T' rfl X'
  exact ⟨t2, stp t2 a1, b1⟩
theorem hw_c1a {lv : List (Nat × Value)} {as st : List Value} (h : hw_c1 lv (as ++ st)) : hw_c1 lv st := ⟨h.1, fun v hv => h.2 v (List.mem_append_right _ hv)⟩
theorem hw_c1b {lv : List (Nat × Value)} {o : Option Value} {st : List Value} (h : hw_c1 lv st) (ho : ∀ v, o = some v → v.category = 1) : hw_c1 lv (o.toList ++ st) := ⟨h.1, fun v hv => by
  rcases List.mem_append.mp hv with h1 | h1
  · cases o with
    | none => cases h1
    | some w => rw [List.mem_singleton.mp h1]; exact ho w rfl
  · exact h.2 v h1⟩
/-- a pure function behind a call: f is what comes after -/
def hw_bd (Y : Option (β × hw_St)) (f : β → hw_St → Option (α × hw_St)) : Option (α × hw_St) := match Y with
  | none => none
  | some q => f q.1 q.2
theorem hw_bd_some {Y : Option (β × hw_St)} {f : β → hw_St → Option (α × hw_St)} {z : α × hw_St} (h : hw_bd Y f = some z) : ∃ r1 σ1, Y = some (r1, σ1) ∧ f r1 σ1 = some z := by
  cases Y with
  | none => cases h
  | some q => exact ⟨q.1, q.2, rfl, h⟩
theorem hw_callS {Y : Option (β × hw_St)} {f : β → hw_St → Option (α × hw_St)} {y : MethodName} {cy : ByteArray} {mL n idx d2 : Nat} {ry : Option FieldType} {As st0 : List Value} (C : hw_Ok G cc own nL d ret TL) (hM : hw_M (hw_gE G) y cy mL ry d2 As σ rb Y) (hw : hw_MW y cy mL ry n) (hs : Cond.static y ∈ hw_all) (hl0 : Cond.methodLink own idx y ∈ hw_all) (hd : d2 < d) (hst : st0 = As.reverse ++ st) (hn : As.length = n ∧ st.length ≤ 8) (hb1 : ∀ r1 v, rb r1 = some v → v.category = 1) (dg : decode cc pc = .ok (.invokestatic idx, 3))
    (kk : ∀ r1 σ1, hw_K G nL rr (f r1 σ1) (pc + 3) lv ((rb r1).toList ++ st) σ1) : hw_K G nL rr (hw_bd Y f) pc lv st0 σ := by
  intro r σ' hX hc H locs ls hP hS hl
  obtain ⟨r1, σ1, hY, hf⟩ := hw_bd_some hX
  subst hst
  have hc2 := hw_c1a hc
  have hr := va_runS (Ts := hw_all) (p := hw_gp G) (e := hw_ge G) (R := hw_gR G) (below := hw_gb G) (meth := hw_gM_ G) (H := H) (locs := locs) (cells := 0) (slots := 0) (g := F0 (hw_gm G) pc ls (As.reverse ++ st)) (rest := st) ⟨C.1, C.2.1, C.2.2.1, C.2.2.2.1, C.2.2.2.2.1⟩ (hM r1 σ1 hY) ⟨hw_cw C hw hl0 hd, C.2.2.2.2.1 _ hs⟩ ⟨hw_blind _ _ _, hw_pre C hP hS As⟩ rfl hn.1 hl.1 rfl (lv_room (by rw [hw_sum hc2.2]; exact hn.2)) dg ⟨Nat.zero_le _, Nat.zero_le _⟩
  exact hw_cont hr hS (fun H1 locs1 hP1 hS1 => kk r1 σ1 r σ' hf (hw_c1b hc2 (hb1 r1)) H1 locs1 ls hP1 hS1 hl)
theorem hw_callSN {Y : Option (β × hw_St)} {f : β → hw_St → Option (α × hw_St)} {y : MethodName} {cy : ByteArray} {mL n idx d2 : Nat} {ry : Option FieldType} {As st0 : List Value} {host : String} (C : hw_Ok G cc own nL d ret TL) (hM : hw_M (hw_gE G) y cy mL ry d2 As σ rb Y) (hw : hw_MW y cy mL ry n) (hs : Cond.static y ∈ hw_all) (hl0 : va_Nw (.methodLinkNest own idx y host) (hw_gs G)) (hd : d2 < d) (hst : st0 = As.reverse ++ st) (hn : As.length = n ∧ st.length ≤ 8) (hb1 : ∀ r1 v, rb r1 = some v → v.category = 1) (dg : decode cc pc = .ok (.invokestatic idx, 3))
    (kk : ∀ r1 σ1, hw_K G nL rr (f r1 σ1) (pc + 3) lv ((rb r1).toList ++ st) σ1) : hw_K G nL rr (hw_bd Y f) pc lv st0 σ := by
  intro r σ' hX hc H locs ls hP hS hl
  obtain ⟨r1, σ1, hY, hf⟩ := hw_bd_some hX
  subst hst
  have hc2 := hw_c1a hc
  have hts := C.2.2.2.2.1
  have hR := C.2.2.2.2.2.2.2.2.2.2.2.1
  have hcn : va_CN (hw_gR G) (hw_gs G) (hw_ga G) own idx y host cy mL ry (.code y cy mL ry :: hw_all) (hw_rm d2) 0 0 n := by
    refine va_cnB n hts (hw_goodIn hw.1) rfl rfl rfl hl0 (hts _ hw.2.1) hw.2.2.2 ?_
    rw [hR]
    have := hw.2.2.1
    unfold hw_rm
    dsimp only
    omega
  have hr := va_runSN (Ts := hw_all) (p := hw_gp G) (e := hw_ge G) (R := hw_gR G) (below := hw_gb G) (meth := hw_gM_ G) (H := H) (locs := locs) (cells := 0) (slots := 0) (g := F0 (hw_gm G) pc ls (As.reverse ++ st)) (rest := st) ⟨C.1, C.2.1, C.2.2.1, C.2.2.2.1, C.2.2.2.2.1⟩ (hM r1 σ1 hY) ⟨hcn, hts _ hs, trivial⟩ ⟨hw_blind _ _ _, hw_pre C hP hS As⟩ rfl hn.1 hl.1 rfl (lv_room (by rw [hw_sum hc2.2]; exact hn.2)) dg ⟨Nat.zero_le _, Nat.zero_le _⟩
  exact hw_cont hr hS (fun H1 locs1 hP1 hS1 => kk r1 σ1 r σ' hf (hw_c1b hc2 (hb1 r1)) H1 locs1 ls hP1 hS1 hl)
theorem hw_callV {Y : Option (β × hw_St)} {f : β → hw_St → Option (α × hw_St)} {y : MethodName} {cy : ByteArray} {mL n idx d2 t ci N : Nat} {Cn : String} {T : u_T} {ty : Nat → FieldType} {ry : Option FieldType} {As st0 : List Value} (C : hw_Ok G cc own nL d ret TL) (hM : hw_M (hw_gE G) y cy mL ry d2 (hw_rv (hw_ea (hw_gE G)) t :: As) σ rb Y) (hw : hw_MW y cy mL ry n) (hs : Cond.instanceMethod y ∈ hw_all ∧ Cond.selects Cn y y ∈ hw_all) (cf : hw_CF ci Cn T N ty) (hT : hw_T TL t ci) (hl0 : Cond.methodLink own idx y ∈ hw_all) (hd : d2 < d) (hst : st0 = As.reverse ++ hw_rv (hw_ea (hw_gE G)) t :: st) (hn : As.length = n ∧ st.length ≤ 8) (hb1 : ∀ r1 v, rb r1 = some v → v.category = 1) (dg : decode cc pc = .ok (.invokevirtual idx, 3))
    (kk : ∀ r1 σ1, hw_K G nL rr (f r1 σ1) (pc + 3) lv ((rb r1).toList ++ st) σ1) : hw_K G nL rr (hw_bd Y f) pc lv st0 σ := by
  intro r σ' hX hc H locs ls hP hS hl
  obtain ⟨r1, σ1, hY, hf⟩ := hw_bd_some hX
  subst hst
  have hc2 := hw_c1t (hw_c1a hc)
  have hM2 := hM r1 σ1 hY
  have hrv : hw_rv (hw_ea (hw_gE G)) t = .ref (hw_ea (hw_gE G) t) := hw_rv_ref (hT.ne (Nat.lt_trans cf.2.2.1 (by decide)))
  rw [hrv] at hM2 ⊢
  obtain ⟨i, hi⟩ := hw_tag hT
  rw [← C.2.2.2.2.2.2.2.2.2.2.2.2] at hi
  have he := hw_ws_at (cA := hw_eC (hw_gE G)) (ad := hw_ea (hw_gE G)) (σ := σ) hi
  rw [hw_re_o hT.2 cf.2.2.1] at he
  have hr := va_runV (Ts := hw_all) (p := hw_gp G) (e := hw_ge G) (R := hw_gR G) (below := hw_gb G) (meth := hw_gM_ G) (H := H) (locs := locs) (cells := 0) (slots := 0) (C := Cn) (b := hw_ea (hw_gE G) t) (g := F0 (hw_gm G) pc ls (As.reverse ++ .ref (hw_ea (hw_gE G) t) :: st)) (rest := st) ⟨C.1, C.2.1, C.2.2.1, C.2.2.2.1, C.2.2.2.2.1⟩ hM2 ⟨hw_cw C hw hl0 hd, C.2.2.2.2.1 _ hs.1, C.2.2.2.2.1 _ hs.2⟩ ⟨hw_blind _ _ _, va_recv C.2.2.2.2.2.1 hP cf.1 he, hw_pre C hP hS (.ref (hw_ea (hw_gE G) t) :: As)⟩ rfl hn.1 hl.1 rfl (lv_room (by rw [hw_sum hc2.2]; exact hn.2)) dg ⟨Nat.zero_le _, Nat.zero_le _⟩
  exact hw_cont hr hS (fun H1 locs1 hP1 hS1 => kk r1 σ1 r σ' hf (hw_c1b hc2 (hb1 r1)) H1 locs1 ls hP1 hS1 hl)
theorem hw_bi : ∀ (r1 : Int32) (v : Value), hw_ri r1 = some v → v.category = 1 := fun _ _ h => by cases h; rfl
theorem hw_b0 : ∀ (r1 : Unit) (v : Value), hw_r0 r1 = some v → v.category = 1 := fun _ _ h => by cases h
theorem hw_bq (ad : Nat → Nat) : ∀ (r1 : Nat) (v : Value), hw_rq ad r1 = some v → v.category = 1 := fun _ _ h => by cases h; exact hw_rv_cat _ _
theorem hw_args : ∀ (i : Nat) (av : List Value), (∀ v ∈ av, v.category = 1) → (lg_sl av).length = av.length := by
  intro i av
  induction av with
  | nil => intro _; rfl
  | cons v l ih =>
    intro h
    have hv := h v List.mem_cons_self
    have h2 := ih (fun w hw => h w (List.mem_cons_of_mem _ hw))
    simp [lg_sl, hv] at h2 ⊢
    try omega
/-- the locals at the start, values of one word each -/
def hw_la : Nat → List Value → List (Nat × Value)
  | _, [] => []
  | i, v :: vs => (i, v) :: hw_la (i + 1) vs
theorem hw_la_eq : ∀ (av : List Value) (i : Nat), (∀ v ∈ av, v.category = 1) → lv_args i av = hw_la i av := by
  intro av
  induction av with
  | nil => intro i _; rfl
  | cons v l ih =>
    intro i h
    have hv := h v List.mem_cons_self
    rw [lv_args, hw_la, if_neg (by rw [hv]; decide), ih (i + 1) (fun w hw => h w (List.mem_cons_of_mem _ hw))]
theorem hw_la_c1 : ∀ (av : List Value) (i : Nat), (∀ v ∈ av, v.category = 1) → ∀ q ∈ hw_la i av, q.2.category = 1 := by
  intro av
  induction av with
  | nil => intro i _ q hq; cases hq
  | cons v l ih =>
    intro i h q hq
    rcases List.mem_cons.mp hq with rfl | h1
    · exact h v List.mem_cons_self
    · exact ih (i + 1) (fun w hw => h w (List.mem_cons_of_mem _ hw)) q h1
theorem hw_entry {E : hw_E} {y : MethodName} {cy : ByteArray} {mL : Nat} {ry : Option FieldType} {av : List Value} {X : Option (α × hw_St)} (hy : plainName y.cls = true) (hown : y.cls = own) (hT : hw_eT E = TL) (hc1 : ∀ v ∈ av, v.category = 1) (hlen : av.length ≤ mL) (body : ∀ G : hw_G, hw_gE G = E → hw_Ok G cy own mL d ry TL → hw_K G mL rr X 0 (hw_la 0 av) [] σ) : hw_M E y cy mL ry d av σ rr X := by
  intro r σ' hX
  refine Met.ofW (cc := cy) (maxL := mL) (ret := ry) hy rfl ?_
  intro p e s m args below meth c s₁ B hml hv
  obtain ⟨rfl, hP, hK, hAp, hN, hCs⟩ := hv
  have hts := atoms_spec (ws := .code y cy mL ry :: hw_all) B.pre
  have hown2 : s.vm.findClass own = some m.cls := by rw [← hown]; exact findClass_of_methodNamed B.named
  have hl := lv_entry av (n := mL) (by rw [hw_args 0 av hc1]; exact hlen)
  rw [hw_la_eq av 0 hc1] at hl
  rw [lg_entry_eq]
  generalize (lg_sl av ++ List.replicate (mL - (lg_sl av).length) Slot.unset).toArray = ls at hl ⊢
  exact body (E, p, e, hw_rm d, s, m, av.toArray, below, meth, c) rfl ⟨B.exec, B.bytes, hml, hown2, fun w hw => hts w (List.mem_cons_of_mem _ hw), hK, hAp, hN, hCs, B.notSynchronized, B.returns, rfl, hT⟩ r σ' hX ⟨hw_la_c1 av 0 hc1, fun v hv => by cases hv⟩ s.heap [] ls hP va_S.rf hl
theorem hw_cN : ∀ v ∈ ([] : List Value), v.category = 1 := fun _ h => by cases h
theorem hw_cI {x : Int32} {l : List Value} (h : ∀ v ∈ l, v.category = 1) : ∀ v ∈ (.int x :: l : List Value), v.category = 1 := fun v hv => by
  rcases List.mem_cons.mp hv with rfl | h1
  · rfl
  · exact h v h1
theorem hw_cR {ad : Nat → Nat} {t : Nat} {l : List Value} (h : ∀ v ∈ l, v.category = 1) : ∀ v ∈ (hw_rv ad t :: l : List Value), v.category = 1 := fun v hv => by
  rcases List.mem_cons.mp hv with rfl | h1
  · exact hw_rv_cat ad t
  · exact h v h1
end HWC
end
