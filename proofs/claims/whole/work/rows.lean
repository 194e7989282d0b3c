section
-- ===== PART A: goes FIRST, ahead of the names: the tables' words, and 'selects' of the private methods out of them =====
/-- a private method of a class that the tables say can be made, by its rows of tables_1 -/
def lw_okq (q : MethodName × Nat) : Prop := (q.1.cls ≠ "java/lang/invoke/MethodHandle" ∧ q.1.cls ≠ "java/lang/invoke/VarHandle") ∧ Cond.instantiable q.1.cls q.2 ∈ tables_1 ∧ Cond.privateMethod q.1 ∈ tables_1 ∧ Cond.instanceMethod q.1 ∈ tables_1
theorem lw_p0 : lw_okq (⟨"CamDrum$Machine", "moveDrum", "()I"⟩, 13) := ⟨⟨by decide +kernel, by decide +kernel⟩, List.mem_of_getElem? (i := 29) (by decide +kernel), List.mem_of_getElem? (i := 322) (by decide +kernel), List.mem_of_getElem? (i := 323) (by decide +kernel)⟩
theorem lw_p1 : lw_okq (⟨"CamDrum$Machine", "moveOut", "(I)V"⟩, 13) := ⟨⟨by decide +kernel, by decide +kernel⟩, List.mem_of_getElem? (i := 29) (by decide +kernel), List.mem_of_getElem? (i := 341) (by decide +kernel), List.mem_of_getElem? (i := 342) (by decide +kernel)⟩
theorem lw_p2 : lw_okq (⟨"CamDrum$Machine", "holds", "(I)Z"⟩, 13) := ⟨⟨by decide +kernel, by decide +kernel⟩, List.mem_of_getElem? (i := 29) (by decide +kernel), List.mem_of_getElem? (i := 349) (by decide +kernel), List.mem_of_getElem? (i := 350) (by decide +kernel)⟩
theorem lw_p3 : lw_okq (⟨"CamDrum$Machine", "moveIn", "(I)V"⟩, 13) := ⟨⟨by decide +kernel, by decide +kernel⟩, List.mem_of_getElem? (i := 29) (by decide +kernel), List.mem_of_getElem? (i := 363) (by decide +kernel), List.mem_of_getElem? (i := 364) (by decide +kernel)⟩
theorem lw_p4 : lw_okq (⟨"CamDrum$Machine", "leakAt", "(I)V"⟩, 13) := ⟨⟨by decide +kernel, by decide +kernel⟩, List.mem_of_getElem? (i := 29) (by decide +kernel), List.mem_of_getElem? (i := 367) (by decide +kernel), List.mem_of_getElem? (i := 368) (by decide +kernel)⟩
theorem lw_p5 : lw_okq (⟨"CamDrum", "dwellSuffices", "(I)Z"⟩, 5) := ⟨⟨by decide +kernel, by decide +kernel⟩, List.mem_of_getElem? (i := 21) (by decide +kernel), List.mem_of_getElem? (i := 384) (by decide +kernel), List.mem_of_getElem? (i := 385) (by decide +kernel)⟩
theorem lw_p6 : lw_okq (⟨"CamDrum$TrackText", "byteAt", "(I)I"⟩, 6) := ⟨⟨by decide +kernel, by decide +kernel⟩, List.mem_of_getElem? (i := 222) (by decide +kernel), List.mem_of_getElem? (i := 420) (by decide +kernel), List.mem_of_getElem? (i := 421) (by decide +kernel)⟩
theorem lw_p7 : lw_okq (⟨"CamDrum$TrackText", "readSteps", "()V"⟩, 6) := ⟨⟨by decide +kernel, by decide +kernel⟩, List.mem_of_getElem? (i := 222) (by decide +kernel), List.mem_of_getElem? (i := 424) (by decide +kernel), List.mem_of_getElem? (i := 425) (by decide +kernel)⟩
theorem lw_p8 : lw_okq (⟨"CamDrum$TrackText", "isDigitAt", "(I)Z"⟩, 6) := ⟨⟨by decide +kernel, by decide +kernel⟩, List.mem_of_getElem? (i := 222) (by decide +kernel), List.mem_of_getElem? (i := 428) (by decide +kernel), List.mem_of_getElem? (i := 429) (by decide +kernel)⟩
theorem lw_p9 : lw_okq (⟨"CamDrum$TrackText", "passSign", "(I)V"⟩, 6) := ⟨⟨by decide +kernel, by decide +kernel⟩, List.mem_of_getElem? (i := 222) (by decide +kernel), List.mem_of_getElem? (i := 433) (by decide +kernel), List.mem_of_getElem? (i := 434) (by decide +kernel)⟩
theorem lw_p10 : lw_okq (⟨"CamDrum$TrackText", "readTrack", "()V"⟩, 6) := ⟨⟨by decide +kernel, by decide +kernel⟩, List.mem_of_getElem? (i := 222) (by decide +kernel), List.mem_of_getElem? (i := 437) (by decide +kernel), List.mem_of_getElem? (i := 438) (by decide +kernel)⟩
theorem lw_p11 : lw_okq (⟨"CamDrum$History", "newestPlace", "()LCamDrum$Machine;"⟩, 3) := ⟨⟨by decide +kernel, by decide +kernel⟩, List.mem_of_getElem? (i := 202) (by decide +kernel), List.mem_of_getElem? (i := 446) (by decide +kernel), List.mem_of_getElem? (i := 447) (by decide +kernel)⟩
theorem lw_p12 : lw_okq (⟨"CamDrum", "hashWithCylinders", "(J)J"⟩, 5) := ⟨⟨by decide +kernel, by decide +kernel⟩, List.mem_of_getElem? (i := 21) (by decide +kernel), List.mem_of_getElem? (i := 483) (by decide +kernel), List.mem_of_getElem? (i := 484) (by decide +kernel)⟩
theorem lw_p13 : lw_okq (⟨"CamDrum", "hashWithGuards", "(J)J"⟩, 5) := ⟨⟨by decide +kernel, by decide +kernel⟩, List.mem_of_getElem? (i := 21) (by decide +kernel), List.mem_of_getElem? (i := 492) (by decide +kernel), List.mem_of_getElem? (i := 493) (by decide +kernel)⟩
theorem lw_p14 : lw_okq (⟨"CamDrum", "hashWithSteps", "(J)J"⟩, 5) := ⟨⟨by decide +kernel, by decide +kernel⟩, List.mem_of_getElem? (i := 21) (by decide +kernel), List.mem_of_getElem? (i := 500) (by decide +kernel), List.mem_of_getElem? (i := 501) (by decide +kernel)⟩
theorem lw_p15 : lw_okq (⟨"java/lang/Throwable", "fillInStackTrace", "(I)Ljava/lang/Throwable;"⟩, 6) := ⟨⟨by decide +kernel, by decide +kernel⟩, List.mem_of_getElem? (i := 564) (by decide +kernel), List.mem_of_getElem? (i := 562) (by decide +kernel), List.mem_of_getElem? (i := 563) (by decide +kernel)⟩
def lw_privs_1 : List (MethodName × Nat) := [(⟨"CamDrum$Machine", "moveDrum", "()I"⟩, 13), (⟨"CamDrum$Machine", "moveOut", "(I)V"⟩, 13), (⟨"CamDrum$Machine", "holds", "(I)Z"⟩, 13), (⟨"CamDrum$Machine", "moveIn", "(I)V"⟩, 13), (⟨"CamDrum$Machine", "leakAt", "(I)V"⟩, 13), (⟨"CamDrum", "dwellSuffices", "(I)Z"⟩, 5), (⟨"CamDrum$TrackText", "byteAt", "(I)I"⟩, 6), (⟨"CamDrum$TrackText", "readSteps", "()V"⟩, 6), (⟨"CamDrum$TrackText", "isDigitAt", "(I)Z"⟩, 6), (⟨"CamDrum$TrackText", "passSign", "(I)V"⟩, 6), (⟨"CamDrum$TrackText", "readTrack", "()V"⟩, 6), (⟨"CamDrum$History", "newestPlace", "()LCamDrum$Machine;"⟩, 3), (⟨"CamDrum", "hashWithCylinders", "(J)J"⟩, 5), (⟨"CamDrum", "hashWithGuards", "(J)J"⟩, 5), (⟨"CamDrum", "hashWithSteps", "(J)J"⟩, 5), (⟨"java/lang/Throwable", "fillInStackTrace", "(I)Ljava/lang/Throwable;"⟩, 6)]
theorem lw_r1 : ∀ q ∈ lw_privs_1, lw_okq q := List.forall_mem_cons.mpr ⟨lw_p0, List.forall_mem_cons.mpr ⟨lw_p1, List.forall_mem_cons.mpr ⟨lw_p2, List.forall_mem_cons.mpr ⟨lw_p3, List.forall_mem_cons.mpr ⟨lw_p4, List.forall_mem_cons.mpr ⟨lw_p5, List.forall_mem_cons.mpr ⟨lw_p6, List.forall_mem_cons.mpr ⟨lw_p7, List.forall_mem_cons.mpr ⟨lw_p8, List.forall_mem_cons.mpr ⟨lw_p9, List.forall_mem_cons.mpr ⟨lw_p10, List.forall_mem_cons.mpr ⟨lw_p11, List.forall_mem_cons.mpr ⟨lw_p12, List.forall_mem_cons.mpr ⟨lw_p13, List.forall_mem_cons.mpr ⟨lw_p14, List.forall_mem_cons.mpr ⟨lw_p15, fun _ h => absurd h List.not_mem_nil⟩⟩⟩⟩⟩⟩⟩⟩⟩⟩⟩⟩⟩⟩⟩⟩
theorem lw_p16 : lw_okq (⟨"CamDrum", "requireStep", "(I)V"⟩, 5) := ⟨⟨by decide +kernel, by decide +kernel⟩, List.mem_of_getElem? (i := 21) (by decide +kernel), List.mem_of_getElem? (i := 594) (by decide +kernel), List.mem_of_getElem? (i := 595) (by decide +kernel)⟩
theorem lw_p17 : lw_okq (⟨"CamDrum", "requireGuard", "(I)V"⟩, 5) := ⟨⟨by decide +kernel, by decide +kernel⟩, List.mem_of_getElem? (i := 21) (by decide +kernel), List.mem_of_getElem? (i := 681) (by decide +kernel), List.mem_of_getElem? (i := 682) (by decide +kernel)⟩
theorem lw_p18 : lw_okq (⟨"CamDrum", "goesWithoutSkip", "(II)Z"⟩, 5) := ⟨⟨by decide +kernel, by decide +kernel⟩, List.mem_of_getElem? (i := 21) (by decide +kernel), List.mem_of_getElem? (i := 768) (by decide +kernel), List.mem_of_getElem? (i := 769) (by decide +kernel)⟩
theorem lw_p19 : lw_okq (⟨"CamDrumModel", "empties", "()V"⟩, 13) := ⟨⟨by decide +kernel, by decide +kernel⟩, List.mem_of_getElem? (i := 797) (by decide +kernel), List.mem_of_getElem? (i := 803) (by decide +kernel), List.mem_of_getElem? (i := 804) (by decide +kernel)⟩
theorem lw_p20 : lw_okq (⟨"CamDrumModel", "isStep", "(I)Z"⟩, 13) := ⟨⟨by decide +kernel, by decide +kernel⟩, List.mem_of_getElem? (i := 797) (by decide +kernel), List.mem_of_getElem? (i := 862) (by decide +kernel), List.mem_of_getElem? (i := 863) (by decide +kernel)⟩
theorem lw_p21 : lw_okq (⟨"CamDrumModel", "throwing", "(I)I"⟩, 13) := ⟨⟨by decide +kernel, by decide +kernel⟩, List.mem_of_getElem? (i := 797) (by decide +kernel), List.mem_of_getElem? (i := 866) (by decide +kernel), List.mem_of_getElem? (i := 867) (by decide +kernel)⟩
theorem lw_p22 : lw_okq (⟨"CamDrumModel", "save", "()V"⟩, 13) := ⟨⟨by decide +kernel, by decide +kernel⟩, List.mem_of_getElem? (i := 797) (by decide +kernel), List.mem_of_getElem? (i := 870) (by decide +kernel), List.mem_of_getElem? (i := 871) (by decide +kernel)⟩
theorem lw_p23 : lw_okq (⟨"CamDrumModel", "camsOf", "(I)I"⟩, 13) := ⟨⟨by decide +kernel, by decide +kernel⟩, List.mem_of_getElem? (i := 797) (by decide +kernel), List.mem_of_getElem? (i := 874) (by decide +kernel), List.mem_of_getElem? (i := 875) (by decide +kernel)⟩
theorem lw_p24 : lw_okq (⟨"CamDrumModel", "hasCam", "(II)Z"⟩, 13) := ⟨⟨by decide +kernel, by decide +kernel⟩, List.mem_of_getElem? (i := 797) (by decide +kernel), List.mem_of_getElem? (i := 878) (by decide +kernel), List.mem_of_getElem? (i := 879) (by decide +kernel)⟩
theorem lw_p25 : lw_okq (⟨"CamDrumModel", "fine", "(I)I"⟩, 13) := ⟨⟨by decide +kernel, by decide +kernel⟩, List.mem_of_getElem? (i := 797) (by decide +kernel), List.mem_of_getElem? (i := 882) (by decide +kernel), List.mem_of_getElem? (i := 883) (by decide +kernel)⟩
theorem lw_p26 : lw_okq (⟨"CamDrumModel", "out", "(I)I"⟩, 13) := ⟨⟨by decide +kernel, by decide +kernel⟩, List.mem_of_getElem? (i := 797) (by decide +kernel), List.mem_of_getElem? (i := 898) (by decide +kernel), List.mem_of_getElem? (i := 899) (by decide +kernel)⟩
theorem lw_p27 : lw_okq (⟨"CamDrumModel", "letsOff", "()V"⟩, 13) := ⟨⟨by decide +kernel, by decide +kernel⟩, List.mem_of_getElem? (i := 797) (by decide +kernel), List.mem_of_getElem? (i := 909) (by decide +kernel), List.mem_of_getElem? (i := 910) (by decide +kernel)⟩
theorem lw_p28 : lw_okq (⟨"CamDrumModel", "isGuard", "(I)Z"⟩, 13) := ⟨⟨by decide +kernel, by decide +kernel⟩, List.mem_of_getElem? (i := 797) (by decide +kernel), List.mem_of_getElem? (i := 922) (by decide +kernel), List.mem_of_getElem? (i := 923) (by decide +kernel)⟩
theorem lw_p29 : lw_okq (⟨"CamDrumModel", "tick", "()V"⟩, 13) := ⟨⟨by decide +kernel, by decide +kernel⟩, List.mem_of_getElem? (i := 797) (by decide +kernel), List.mem_of_getElem? (i := 935) (by decide +kernel), List.mem_of_getElem? (i := 936) (by decide +kernel)⟩
theorem lw_p30 : lw_okq (⟨"CamDrumModel", "areOut", "()Z"⟩, 13) := ⟨⟨by decide +kernel, by decide +kernel⟩, List.mem_of_getElem? (i := 797) (by decide +kernel), List.mem_of_getElem? (i := 939) (by decide +kernel), List.mem_of_getElem? (i := 940) (by decide +kernel)⟩
theorem lw_p31 : lw_okq (⟨"CamDrumModel", "moves", "(I)V"⟩, 13) := ⟨⟨by decide +kernel, by decide +kernel⟩, List.mem_of_getElem? (i := 797) (by decide +kernel), List.mem_of_getElem? (i := 943) (by decide +kernel), List.mem_of_getElem? (i := 944) (by decide +kernel)⟩
def lw_privs_2 : List (MethodName × Nat) := [(⟨"CamDrum", "requireStep", "(I)V"⟩, 5), (⟨"CamDrum", "requireGuard", "(I)V"⟩, 5), (⟨"CamDrum", "goesWithoutSkip", "(II)Z"⟩, 5), (⟨"CamDrumModel", "empties", "()V"⟩, 13), (⟨"CamDrumModel", "isStep", "(I)Z"⟩, 13), (⟨"CamDrumModel", "throwing", "(I)I"⟩, 13), (⟨"CamDrumModel", "save", "()V"⟩, 13), (⟨"CamDrumModel", "camsOf", "(I)I"⟩, 13), (⟨"CamDrumModel", "hasCam", "(II)Z"⟩, 13), (⟨"CamDrumModel", "fine", "(I)I"⟩, 13), (⟨"CamDrumModel", "out", "(I)I"⟩, 13), (⟨"CamDrumModel", "letsOff", "()V"⟩, 13), (⟨"CamDrumModel", "isGuard", "(I)Z"⟩, 13), (⟨"CamDrumModel", "tick", "()V"⟩, 13), (⟨"CamDrumModel", "areOut", "()Z"⟩, 13), (⟨"CamDrumModel", "moves", "(I)V"⟩, 13)]
theorem lw_r2 : ∀ q ∈ lw_privs_2, lw_okq q := List.forall_mem_cons.mpr ⟨lw_p16, List.forall_mem_cons.mpr ⟨lw_p17, List.forall_mem_cons.mpr ⟨lw_p18, List.forall_mem_cons.mpr ⟨lw_p19, List.forall_mem_cons.mpr ⟨lw_p20, List.forall_mem_cons.mpr ⟨lw_p21, List.forall_mem_cons.mpr ⟨lw_p22, List.forall_mem_cons.mpr ⟨lw_p23, List.forall_mem_cons.mpr ⟨lw_p24, List.forall_mem_cons.mpr ⟨lw_p25, List.forall_mem_cons.mpr ⟨lw_p26, List.forall_mem_cons.mpr ⟨lw_p27, List.forall_mem_cons.mpr ⟨lw_p28, List.forall_mem_cons.mpr ⟨lw_p29, List.forall_mem_cons.mpr ⟨lw_p30, List.forall_mem_cons.mpr ⟨lw_p31, fun _ h => absurd h List.not_mem_nil⟩⟩⟩⟩⟩⟩⟩⟩⟩⟩⟩⟩⟩⟩⟩⟩
theorem lw_p32 : lw_okq (⟨"CamDrumModel", "mayMove", "(I)I"⟩, 13) := ⟨⟨by decide +kernel, by decide +kernel⟩, List.mem_of_getElem? (i := 797) (by decide +kernel), List.mem_of_getElem? (i := 947) (by decide +kernel), List.mem_of_getElem? (i := 948) (by decide +kernel)⟩
theorem lw_p33 : lw_okq (⟨"CamDrumModel", "holds", "(I)Z"⟩, 13) := ⟨⟨by decide +kernel, by decide +kernel⟩, List.mem_of_getElem? (i := 797) (by decide +kernel), List.mem_of_getElem? (i := 951) (by decide +kernel), List.mem_of_getElem? (i := 952) (by decide +kernel)⟩
theorem lw_p34 : lw_okq (⟨"CamDrumModel", "leaks", "(I)V"⟩, 13) := ⟨⟨by decide +kernel, by decide +kernel⟩, List.mem_of_getElem? (i := 797) (by decide +kernel), List.mem_of_getElem? (i := 955) (by decide +kernel), List.mem_of_getElem? (i := 956) (by decide +kernel)⟩
theorem lw_p35 : lw_okq (⟨"CamDrumModel", "cylinderOf", "(II)I"⟩, 13) := ⟨⟨by decide +kernel, by decide +kernel⟩, List.mem_of_getElem? (i := 797) (by decide +kernel), List.mem_of_getElem? (i := 968) (by decide +kernel), List.mem_of_getElem? (i := 969) (by decide +kernel)⟩
theorem lw_p36 : lw_okq (⟨"CamDrumModel", "guardOf", "(II)I"⟩, 13) := ⟨⟨by decide +kernel, by decide +kernel⟩, List.mem_of_getElem? (i := 797) (by decide +kernel), List.mem_of_getElem? (i := 977) (by decide +kernel), List.mem_of_getElem? (i := 978) (by decide +kernel)⟩
theorem lw_p37 : lw_okq (⟨"CamDrumModel", "laysAside", "()V"⟩, 13) := ⟨⟨by decide +kernel, by decide +kernel⟩, List.mem_of_getElem? (i := 797) (by decide +kernel), List.mem_of_getElem? (i := 998) (by decide +kernel), List.mem_of_getElem? (i := 999) (by decide +kernel)⟩
theorem lw_p38 : lw_okq (⟨"CamDrumModel", "takesBack", "()V"⟩, 13) := ⟨⟨by decide +kernel, by decide +kernel⟩, List.mem_of_getElem? (i := 797) (by decide +kernel), List.mem_of_getElem? (i := 1002) (by decide +kernel), List.mem_of_getElem? (i := 1003) (by decide +kernel)⟩
theorem lw_p39 : lw_okq (⟨"CamDrumModel", "toCycle", "()I"⟩, 13) := ⟨⟨by decide +kernel, by decide +kernel⟩, List.mem_of_getElem? (i := 797) (by decide +kernel), List.mem_of_getElem? (i := 1010) (by decide +kernel), List.mem_of_getElem? (i := 1011) (by decide +kernel)⟩
theorem lw_p40 : lw_okq (⟨"CamDrumModel", "passes", "(I)I"⟩, 13) := ⟨⟨by decide +kernel, by decide +kernel⟩, List.mem_of_getElem? (i := 797) (by decide +kernel), List.mem_of_getElem? (i := 1014) (by decide +kernel), List.mem_of_getElem? (i := 1015) (by decide +kernel)⟩
theorem lw_p41 : lw_okq (⟨"CamDrumModel", "does", "(I)Z"⟩, 13) := ⟨⟨by decide +kernel, by decide +kernel⟩, List.mem_of_getElem? (i := 797) (by decide +kernel), List.mem_of_getElem? (i := 1027) (by decide +kernel), List.mem_of_getElem? (i := 1028) (by decide +kernel)⟩
theorem lw_p42 : lw_okq (⟨"CamDrumModel", "behind", "(I)I"⟩, 13) := ⟨⟨by decide +kernel, by decide +kernel⟩, List.mem_of_getElem? (i := 797) (by decide +kernel), List.mem_of_getElem? (i := 1035) (by decide +kernel), List.mem_of_getElem? (i := 1036) (by decide +kernel)⟩
theorem lw_p43 : lw_okq (⟨"CamDrumModel", "readsText", "()Z"⟩, 13) := ⟨⟨by decide +kernel, by decide +kernel⟩, List.mem_of_getElem? (i := 797) (by decide +kernel), List.mem_of_getElem? (i := 1056) (by decide +kernel), List.mem_of_getElem? (i := 1057) (by decide +kernel)⟩
theorem lw_p44 : lw_okq (⟨"CamDrumModel", "passesByte", "(I)Z"⟩, 13) := ⟨⟨by decide +kernel, by decide +kernel⟩, List.mem_of_getElem? (i := 797) (by decide +kernel), List.mem_of_getElem? (i := 1060) (by decide +kernel), List.mem_of_getElem? (i := 1061) (by decide +kernel)⟩
theorem lw_p45 : lw_okq (⟨"CamDrumModel", "here", "()I"⟩, 13) := ⟨⟨by decide +kernel, by decide +kernel⟩, List.mem_of_getElem? (i := 797) (by decide +kernel), List.mem_of_getElem? (i := 1064) (by decide +kernel), List.mem_of_getElem? (i := 1065) (by decide +kernel)⟩
theorem lw_p46 : lw_okq (⟨"CamDrumModel", "readsSteps", "()Z"⟩, 13) := ⟨⟨by decide +kernel, by decide +kernel⟩, List.mem_of_getElem? (i := 797) (by decide +kernel), List.mem_of_getElem? (i := 1068) (by decide +kernel), List.mem_of_getElem? (i := 1069) (by decide +kernel)⟩
theorem lw_p47 : lw_okq (⟨"CamDrumModel", "readsTrack", "()Z"⟩, 13) := ⟨⟨by decide +kernel, by decide +kernel⟩, List.mem_of_getElem? (i := 797) (by decide +kernel), List.mem_of_getElem? (i := 1076) (by decide +kernel), List.mem_of_getElem? (i := 1077) (by decide +kernel)⟩
def lw_privs_3 : List (MethodName × Nat) := [(⟨"CamDrumModel", "mayMove", "(I)I"⟩, 13), (⟨"CamDrumModel", "holds", "(I)Z"⟩, 13), (⟨"CamDrumModel", "leaks", "(I)V"⟩, 13), (⟨"CamDrumModel", "cylinderOf", "(II)I"⟩, 13), (⟨"CamDrumModel", "guardOf", "(II)I"⟩, 13), (⟨"CamDrumModel", "laysAside", "()V"⟩, 13), (⟨"CamDrumModel", "takesBack", "()V"⟩, 13), (⟨"CamDrumModel", "toCycle", "()I"⟩, 13), (⟨"CamDrumModel", "passes", "(I)I"⟩, 13), (⟨"CamDrumModel", "does", "(I)Z"⟩, 13), (⟨"CamDrumModel", "behind", "(I)I"⟩, 13), (⟨"CamDrumModel", "readsText", "()Z"⟩, 13), (⟨"CamDrumModel", "passesByte", "(I)Z"⟩, 13), (⟨"CamDrumModel", "here", "()I"⟩, 13), (⟨"CamDrumModel", "readsSteps", "()Z"⟩, 13), (⟨"CamDrumModel", "readsTrack", "()Z"⟩, 13)]
theorem lw_r3 : ∀ q ∈ lw_privs_3, lw_okq q := List.forall_mem_cons.mpr ⟨lw_p32, List.forall_mem_cons.mpr ⟨lw_p33, List.forall_mem_cons.mpr ⟨lw_p34, List.forall_mem_cons.mpr ⟨lw_p35, List.forall_mem_cons.mpr ⟨lw_p36, List.forall_mem_cons.mpr ⟨lw_p37, List.forall_mem_cons.mpr ⟨lw_p38, List.forall_mem_cons.mpr ⟨lw_p39, List.forall_mem_cons.mpr ⟨lw_p40, List.forall_mem_cons.mpr ⟨lw_p41, List.forall_mem_cons.mpr ⟨lw_p42, List.forall_mem_cons.mpr ⟨lw_p43, List.forall_mem_cons.mpr ⟨lw_p44, List.forall_mem_cons.mpr ⟨lw_p45, List.forall_mem_cons.mpr ⟨lw_p46, List.forall_mem_cons.mpr ⟨lw_p47, fun _ h => absurd h List.not_mem_nil⟩⟩⟩⟩⟩⟩⟩⟩⟩⟩⟩⟩⟩⟩⟩⟩
theorem lw_p48 : lw_okq (⟨"CamDrumModel", "hashSteps", "(J)J"⟩, 13) := ⟨⟨by decide +kernel, by decide +kernel⟩, List.mem_of_getElem? (i := 797) (by decide +kernel), List.mem_of_getElem? (i := 1091) (by decide +kernel), List.mem_of_getElem? (i := 1092) (by decide +kernel)⟩
def lw_privs_4 : List (MethodName × Nat) := [(⟨"CamDrumModel", "hashSteps", "(J)J"⟩, 13)]
theorem lw_r4 : ∀ q ∈ lw_privs_4, lw_okq q := List.forall_mem_cons.mpr ⟨lw_p48, fun _ h => absurd h List.not_mem_nil⟩
def lw_privs : List (MethodName × Nat) := lw_privs_1 ++ (lw_privs_2 ++ (lw_privs_3 ++ (lw_privs_4)))
def lw_tbl : List Cond := k2_sels lw_privs ++ tables_1
theorem lw_privs_ok : ∀ q ∈ lw_privs, lw_okq q := by
  show ∀ q ∈ lw_privs_1 ++ (lw_privs_2 ++ (lw_privs_3 ++ (lw_privs_4))), lw_okq q
  exact List.forall_mem_append.mpr ⟨lw_r1, List.forall_mem_append.mpr ⟨lw_r2, List.forall_mem_append.mpr ⟨lw_r3, lw_r4⟩⟩⟩
/-- the streams that the claim lets the run draw from -/
abbrev lw_cs : List Choice := [Jvm.Choice.named "NaN.bits"]
theorem lw_bits : nanBits ∈ lw_cs := by first | decide | exact List.mem_cons_self | simp [lw_cs, nanBits]
-- ===== end of PART A; then your names; then what follows =====
end
section
/-! ===== BEGIN words of one list among another's, by their places ===== -/
theorem goodIn_r {big : List Cond} (ws : List Cond) (ps : List Nat) (hp : ws = ps.filterMap (fun i => big[i]?)) (h : ws.all goodWord = true) : GoodIn big ws := by
  intro w hw
  have h1 := List.all_eq_true.mp h w hw
  rw [hp] at hw
  obtain ⟨i, -, hi⟩ := List.mem_filterMap.mp hw
  have hm : w ∈ big := by first | exact List.mem_of_getElem? hi | exact List.getElem?_mem hi
  exact ⟨hm, good_of_word h1⟩
theorem goodIn_app {big a b : List Cond} (ha : GoodIn big a) (hb : GoodIn big b) : GoodIn big (a ++ b) := fun w h => (List.mem_append.mp h).elim (ha w) (hb w)
theorem goodIn_ca {big a b : List Cond} {c : Cond} (ha : GoodIn big (c :: a)) (hb : GoodIn big b) : GoodIn big (c :: (a ++ b)) := fun w h => (List.mem_cons.mp h).elim (fun e => ha w (List.mem_cons.mpr (Or.inl e))) (fun h => (List.mem_append.mp h).elim (fun h => ha w (List.mem_cons.mpr (Or.inr h))) (hb w))
theorem goodIn_sub {big ws : List Cond} (hm : ∀ w ∈ ws, w ∈ big) (h : ws.all goodWord = true) : GoodIn big ws := fun w hw => ⟨hm w hw, good_of_word (List.all_eq_true.mp h w hw)⟩
/-! ===== END ===== -/

/-! ===== BEGIN exceptions that leave a method, and their catching by the caller (launches without stack traces) ===== -/
section VXA
/-! The laws vx_back, vx_callV, vx_callS, vx_callSW, vx_throw0, vx_throwS follow proofs of the library, with one case more: JvmDerived/Free/Laws.lean (Back.of_free), Shelf42/LK1.lean (callV, callS), Shelf/KitTraced.lean (throwNew0V, throwNewS). -/
/-- where a method has thrown q: the class by its name, the cell, what was written, the world -/
def vx_T (XC : String → State → State → Prop) (st : State) (q : Addr) (t : State) (mc ms : Nat) (free : Addr → Prop) : Prop :=
  ∃ (E : String) (ce : Cell) (L : List Loc), XC E st t ∧ t.heap[q]? = some ce ∧ ce.vm = .none ∧ st.vm.findClass E = some ce.cls ∧ st.WarmedH t.vm ∧ st.sameButNew ({ t with vm := st.vm } : State) L mc ms ∧ ∀ z ∈ L, free z.base
def vx_Q (Qc : Array Value → State → Outcome → State → Prop) (XC : String → State → State → Prop) (mc ms : Nat) (free : Addr → Prop) : Array Value → State → Outcome → State → Prop := fun a st o t =>
  (Qc a st o t ∧ ∃ L, FrameEnd st o t L mc ms ∧ ∀ q ∈ L, free q.base) ∨ ∃ q, o = .threw q ∧ vx_T XC st q t mc ms free
/-- a callee that returns or throws -/
def vx_Met (l : Launch) (y : MethodName) (ws : List Cond) (rm : Room) (Pc : Array Value → State → Prop) (Qc : Array Value → State → Outcome → State → Prop) (XC : String → State → State → Prop) (mc ms : Nat) (free : Addr → Prop) : Prop :=
  MetFree l y (headSpec ws rm) Pc (fun _ _ _ _ _ => True) (vx_Q Qc XC mc ms free)
def vx_Post (XC : String → State → State → Prop) (mc ms : Nat) (free : Addr → Prop) : Pt → Array Value → Addr → Pt → Prop := fun A a q B =>
  ∃ (g : JFrame) (mk : MethodId) (t : State) (L : List Loc) (E : String) (ce : Cell), B.U.heap = t.heap ∧ B.U.vm = t.vm ∧ XC E (A.U.calling g mk a) t ∧ t.heap[q]? = some ce ∧ ce.vm = .none ∧ A.U.vm.findClass E = some ce.cls ∧ B.locs = A.locs ++ L ∧ (∀ z ∈ L, free z.base) ∧ B.cells = A.cells + mc ∧ B.slots = A.slots + ms
def vx_Back (l : Launch) (R : Room) (p : Program) (e : Env) (below : List Frame) (s : State) (sargs : Array Value) (y : MethodName) (len W9 : Nat)
    (Pre : Pt → Array Value → Prop) (Post : Pt → Array Value → Option Value → Pt → Prop) (PostX : Pt → Array Value → Addr → Pt → Prop) : Prop :=
  ∀ (m : MethodId) (meth : Method) (c : Code) (A : Pt) (g : JFrame) (ig : Instr) (mk : MethodId) (a : Array Value),
    Stand p l e R s m sargs below meth c A.U A.locs A.cells A.slots → g.method = m → g.locals.size = c.maxLocals → decode c.code g.pc = .ok (ig, len) →
    2 * g.monitorRoom + (g.stack.map fun v => v.category).sum ≤ W9 → A.U.methodNamed? y = some mk → Pre A a →
    (∃ (v : Option Value) (B : Pt), Stand p l e R s m sargs below meth c B.U B.locs B.cells B.slots ∧ Post A a v B ∧
      Steps p.tables e below (doInvoke e (A.U.setTop g) [] mk a).1 (B.U.setTop { g with pc := g.pc + len, stack := v.toList ++ g.stack })) ∨
    (∃ (q : Addr) (B : Pt), Stand p l e R s m sargs below meth c B.U B.locs B.cells B.slots ∧ PostX A a q B ∧
      Steps p.tables e below (doInvoke e (A.U.setTop g) [] mk a).1 ((B.U.setTop g).pushFrame (.throwing q)))
section Payer
variable {l : Launch} {R : Room} {p : Program} {e : Env} {below : List Frame} {s : State} {sargs : Array Value} {y : MethodName} {len W9 : Nat}
theorem vx_back {ws : List Cond} {rm : Room} {Pc : Array Value → State → Prop} {Qc : Array Value → State → Outcome → State → Prop} {XC : String → State → State → Prop} {mc ms : Nat} {free : Addr → Prop} {bytes : ByteArray} {maxL : Nat} {ret : Option FieldType}
    (hM : vx_Met l y ws rm Pc Qc XC mc ms free) (hblind : FrameBlind Pc) (hrc : rm.cells = mc) (hrs : rm.slots = ms)
    (hframes : rm.frames + 1 ≤ R.frames) (hlocals : W9 + (maxL + 11) + rm.locals ≤ R.locals)
    (hws : ∀ w ∈ ws, ∀ a' U, s.WarmedH U.vm → w.before a' U = true) (hcode : Cond.code y bytes maxL ret ∈ ws) (hinit : ∀ a' U, s.WarmedH U.vm → (Cond.initialized y.cls).before a' U = true) :
    vx_Back l R p e below s sargs y len W9 (PreOf R mc ms Pc) (PostOf Qc mc ms free) (vx_Post XC mc ms free) := by
  intro m meth c A g ig mk a X hg hsize hdg hW hn hp
  have h1 : (headSpec ws rm).pre.before a A.U = true := atoms_intro fun w hw => hws w hw _ _ X.warmed
  have h2 : (Cond.code y bytes maxL ret).before a A.U = true := hws _ hcode _ _ X.warmed
  have h3 : (Cond.initialized y.cls).before a A.U = true := hinit _ _ X.warmed
  have h4 : A.cells + (headSpec ws rm).room.cells ≤ R.cells := by rw [show (headSpec ws rm).room.cells = mc from hrc]; exact hp.1
  have h5 : A.slots + (headSpec ws rm).room.slots ≤ R.slots := by rw [show (headSpec ws rm).room.slots = ms from hrs]; exact hp.2.1
  have hPc : Pc a (A.U.calling g mk a) := hblind _ _ _ _ hp.2.2
  obtain ⟨U, Ls, c0, s0⟩ := A
  dsimp only [Pt.U, Pt.locs, Pt.cells, Pt.slots] at h1 h2 h3 h4 h5 X hn hPc ⊢
  obtain ⟨methY, cY, hmY, hcY, -, hlY, -, -, -, -⟩ := Cond.code_spec hn h2
  obtain ⟨kY, hkY, -⟩ := className_of_methodNamed hn
  have hinitY : kY.init = .initialized := Cond.initialized_spec (findClass_of_methodNamed hn) hkY h3
  have h : At U g.method c below := by rw [hg]; exact X.here
  have hlocals9 : W9 + (maxL + 11) + (headSpec ws rm).room.locals ≤ R.locals := hlocals
  have happ : (headSpec ws rm).appliesLoose y e.platform (U.calling g mk a) = true :=
    Spec.appliesLoose_calling (g := g) h hdg hn hkY hinitY
      (X.room_calling (g := g) (R' := (headSpec ws rm).room) hsize hmY hcY hframes (by rw [hlY]; omega) h4 h5) h1
  obtain ⟨mid, hmid⟩ := h.above
  have hfr : (U.setTop g).frames = (.java g :: mid) ++ below := by rw [State.frames_setTop' g h.top, hmid]; rfl
  obtain ⟨o, s₂, hsteps, -, hend, hq⟩ := Steps.callFree hM p X.admits X.cas X.clock (acts := []) hfr happ hPc trivial
  have hq' : vx_Q Qc XC mc ms free a (U.calling g mk a) o s₂ := hq
  rw [State.frames_setTop' g h.top] at hend
  obtain ⟨g₀, hg0⟩ := Option.isSome_iff_exists.mp h.top
  obtain ⟨r, hr⟩ := State.topJava?_eq_some.mp hg0
  have hr' : (({ U with heap := s₂.heap, slotsUsed := s₂.slotsUsed } : State).setVm s₂.vm).frames = .java g₀ :: r := hr
  rcases hq' with ⟨hqc, L, hfe, hL⟩ | ⟨q, rfl, E, ce, L, hx, hce, hcv, hcl, hW₂, hsm, hL⟩
  · obtain ⟨⟨v, rfl⟩, hW₂, e2, q2, q3, q4, q5, q6⟩ := id hfe
    have e3 : s₂ = ({ (U.calling g mk a).setFrames s₂.frames with heap := s₂.heap, slotsUsed := s₂.slotsUsed } : State).setVm s₂.vm := by
      have : s₂ = ({ s₂ with vm := (U.calling g mk a).vm } : State).setVm s₂.vm := rfl
      rw [e2] at this
      exact this
    obtain ⟨c₂, i₂, len₂, hc₂, hd₂, hf₂⟩ := hend
    have hW' : U.WarmedH s₂.vm := hW₂
    have hcc : c₂ = c := by
      have h1 : s₂.code? g.method = U.code? g.method := by
        rw [State.code?_eq, State.code?_eq, hW'.alike.method?]
      exact Option.some.inj (hc₂.symm.trans (h1.trans h.code))
    subst hcc
    have hlen : len₂ = len := by rw [hdg] at hd₂; cases hd₂; rfl
    subst hlen
    have hs₂ : s₂ = (({ U with heap := s₂.heap, slotsUsed := s₂.slotsUsed } : State).setVm s₂.vm).setTop { g with pc := g.pc + len₂, stack := v.toList ++ g.stack } := by
      refine e3.trans ?_
      rw [hf₂, State.calling_eq h.top, State.setFrames_setFrames, State.setTop_of_frames _ hr', hr]
      rfl
    have hsame : U.sameButNew ({ U with heap := s₂.heap, slotsUsed := s₂.slotsUsed } : State) L mc ms := by
      refine ⟨?_, q2, q3, q4, q5, q6⟩
      obtain ⟨t, ht, -⟩ := State.frames_cons hr
      show ({ U with heap := s₂.heap, slotsUsed := s₂.slotsUsed } : State) = { U.setFrames U.frames with heap := s₂.heap, slotsUsed := s₂.slotsUsed }
      rw [State.setFrames_self ht]
    subst hg
    refine Or.inl ⟨v, ⟨(({ U with heap := s₂.heap, slotsUsed := s₂.slotsUsed } : State).setVm s₂.vm), Ls ++ L, c0 + mc, s0 + ms⟩,
      ⟨X.admits, X.cas, X.clock, X.frames, X.room, X.hears, X.method, X.code, (X.here.setHeapUsed s₂.heap s₂.slotsUsed).setVm hW'.alike, X.tail, State.WarmedH.trans X.warmed hW', X.limits, X.bytes, X.same.trans (hsame.setVm s.vm)⟩,
      ⟨g, mk, s₂, L, rfl, rfl, hqc, rfl, hL, rfl, rfl⟩, ?_⟩
    show Steps p.tables e below _ ((({ U with heap := s₂.heap, slotsUsed := s₂.slotsUsed } : State).setVm s₂.vm).setTop { g with pc := g.pc + len₂, stack := v.toList ++ g.stack })
    rw [← hs₂]
    exact hsteps
  · obtain ⟨e2, q2, q3, q4, q5, q6⟩ := id hsm
    have e3 : s₂ = ({ (U.calling g mk a).setFrames s₂.frames with heap := s₂.heap, slotsUsed := s₂.slotsUsed } : State).setVm s₂.vm := by
      have : s₂ = ({ s₂ with vm := (U.calling g mk a).vm } : State).setVm s₂.vm := rfl
      rw [e2] at this
      exact this
    have hf₂ : s₂.frames = .throwing q :: .java g :: U.frames.tail := hend
    have hW' : U.WarmedH s₂.vm := hW₂
    have hs₂ : s₂ = ((({ U with heap := s₂.heap, slotsUsed := s₂.slotsUsed } : State).setVm s₂.vm).setTop g).pushFrame (.throwing q) := by
      refine e3.trans ?_
      rw [hf₂, State.calling_eq h.top, State.setFrames_setFrames, State.pushFrame, State.frames_setTop _ hr', State.setTop_of_frames _ hr', State.setFrames_setFrames, hr]
      rfl
    have hsame : U.sameButNew ({ U with heap := s₂.heap, slotsUsed := s₂.slotsUsed } : State) L mc ms := by
      refine ⟨?_, q2, q3, q4, q5, q6⟩
      obtain ⟨t, ht, -⟩ := State.frames_cons hr
      show ({ U with heap := s₂.heap, slotsUsed := s₂.slotsUsed } : State) = { U.setFrames U.frames with heap := s₂.heap, slotsUsed := s₂.slotsUsed }
      rw [State.setFrames_self ht]
    subst hg
    refine Or.inr ⟨q, ⟨(({ U with heap := s₂.heap, slotsUsed := s₂.slotsUsed } : State).setVm s₂.vm), Ls ++ L, c0 + mc, s0 + ms⟩,
      ⟨X.admits, X.cas, X.clock, X.frames, X.room, X.hears, X.method, X.code, (X.here.setHeapUsed s₂.heap s₂.slotsUsed).setVm hW'.alike, X.tail, State.WarmedH.trans X.warmed hW', X.limits, X.bytes, X.same.trans (hsame.setVm s.vm)⟩,
      ⟨g, mk, s₂, L, E, ce, rfl, rfl, hx, hce, hcv, hcl, rfl, hL, rfl, rfl⟩, ?_⟩
    show Steps p.tables e below _ (((({ U with heap := s₂.heap, slotsUsed := s₂.slotsUsed } : State).setVm s₂.vm).setTop g).pushFrame (.throwing q))
    rw [← hs₂]
    exact hsteps
end Payer
section Calls
variable {p : Program} {l : Launch} {e : Env} {R : Room} {s : State} {m : MethodId} {args : Array Value} {below : List Frame} {meth : Method} {c : Code} {T : State} {locs : List Loc} {cells slots : Nat}
theorem vx_callV (X : Stand p l e R s m args below meth c T locs cells slots) (hexec : p.tables.exec = Jvm.exec) {own C : String} {index : Nat} {y : MethodName} {bytes : ByteArray} {maxL : Nat} {ret : Option FieldType}
    (hown : s.vm.findClass own = some m.cls) (hlink : (Cond.methodLink own index y).before args s = true) (hinst : (Cond.instanceMethod y).before args s = true) (hsel : (Cond.selects C y y).before args s = true)
    (hcode : (Cond.code y bytes maxL ret).before args s = true) (hy : y.cls ≠ "java/lang/invoke/MethodHandle" ∧ y.cls ≠ "java/lang/invoke/VarHandle")
    {W9 : Nat} {Pre : Pt → Array Value → Prop} {Post : Pt → Array Value → Option Value → Pt → Prop} {PostX : Pt → Array Value → Addr → Pt → Prop} (hK : vx_Back l R p e below s args y 3 W9 Pre Post PostX)
    {b : Addr} {cellB : Cell} (hcell : T.heap[b]? = some cellB) (hobj : cellB.vm.isStatics = false) (hcls : s.vm.findClass C = some cellB.cls)
    {g : JFrame} (hg : g.method = m) (hsize : g.locals.size = c.maxLocals) {argsL rest : List Value} (hlen : ∀ sig, parseMethodDescriptor y.desc = some sig → argsL.length = sig.parameters.length)
    (hstack : g.stack = argsL.reverse ++ .ref b :: rest) (hW : 2 * g.monitorRoom + (rest.map fun v => v.category).sum ≤ W9) (hdg : decode c.code g.pc = .ok (.invokevirtual index, 3))
    (hpre : ∀ vm₁, s.WarmedH vm₁ → Pre ⟨T.setVm vm₁, locs, cells, slots⟩ (Value.ref b :: argsL).toArray) :
    (∃ (v : Option Value) (vm₁ : Vm) (B : Pt), s.WarmedH vm₁ ∧ Stand p l e R s m args below meth c B.U B.locs B.cells B.slots ∧ Post ⟨T.setVm vm₁, locs, cells, slots⟩ (Value.ref b :: argsL).toArray v B ∧
      ∀ target, Steps p.tables e below (B.U.setTop { g with pc := g.pc + 3, stack := v.toList ++ rest }) target → Steps p.tables e below (T.setTop g) target) ∨
    (∃ (q : Addr) (vm₁ : Vm) (B : Pt), s.WarmedH vm₁ ∧ Stand p l e R s m args below meth c B.U B.locs B.cells B.slots ∧ PostX ⟨T.setVm vm₁, locs, cells, slots⟩ (Value.ref b :: argsL).toArray q B ∧
      Steps p.tables e below (T.setTop g) ((B.U.setTop { g with stack := rest }).pushFrame (.throwing q))) := by
  obtain ⟨mk, methM, hnamed, hmethM, hstM, habM⟩ := Cond.instanceMethod_spec hinst
  obtain ⟨methM', cM, hmethM', -, -, -, -, -, -, hsigM⟩ := Cond.code_spec hnamed hcode
  cases hmethM.symm.trans hmethM'
  obtain ⟨c2, r2, m2, q1, q2, q3, q4, kP, hkP, hkPi⟩ := Cond.selects_spec hsel
  cases hcls.symm.trans q1
  cases (State.methodFound?_of_named hnamed hy).symm.trans q2
  cases hnamed.symm.trans q3
  have hselP : selectMethod e.platform s.vm cellB.cls mk = .method mk := by rw [Launch.admits_selectMethod X.admits]; exact q4
  obtain ⟨vm₁, X₁, hstep₁⟩ := X.invokevirtual hexec hown hlink hnamed hmethM hstM hkP hkPi hy (a := b) (cell := cellB) hcell
    (fun z h => by rw [h] at hobj; cases hobj) hselP hmethM habM hkP hkPi (g := g) hg (argsL := argsL) (rest := rest) (hlen _ hsigM) hstack hdg
  rcases hK m meth c ⟨T.setVm vm₁, locs, cells, slots⟩ { g with stack := rest } (.invokevirtual index) mk (Value.ref b :: argsL).toArray X₁ hg hsize hdg hW (X₁.named hnamed) (hpre vm₁ X₁.warmed) with ⟨v, B, X', hpost, hsteps⟩ | ⟨q, B, X', hpost, hsteps⟩
  · exact Or.inl ⟨v, vm₁, B, X₁.warmed, X', hpost, fun target h => hstep₁ _ fun acts => by rw [doInvoke_state]; exact hsteps.trans h⟩
  · exact Or.inr ⟨q, vm₁, B, X₁.warmed, X', hpost, hstep₁ _ fun acts => by rw [doInvoke_state]; exact hsteps⟩
theorem vx_callS (X : Stand p l e R s m args below meth c T locs cells slots) (hexec : p.tables.exec = Jvm.exec) {own : String} {index : Nat} {y : MethodName} {bytes : ByteArray} {maxL : Nat} {ret : Option FieldType}
    (hown : s.vm.findClass own = some m.cls) (hlink : (Cond.methodLink own index y).before args s = true) (hstat : (Cond.static y).before args s = true) (hinit : (Cond.initialized y.cls).before args s = true)
    (hcode : (Cond.code y bytes maxL ret).before args s = true) (hy : y.cls ≠ "java/lang/invoke/MethodHandle" ∧ y.cls ≠ "java/lang/invoke/VarHandle")
    {W9 : Nat} {Pre : Pt → Array Value → Prop} {Post : Pt → Array Value → Option Value → Pt → Prop} {PostX : Pt → Array Value → Addr → Pt → Prop} (hK : vx_Back l R p e below s args y 3 W9 Pre Post PostX)
    {g : JFrame} (hg : g.method = m) (hsize : g.locals.size = c.maxLocals) {argsL rest : List Value} (hlen : ∀ sig, parseMethodDescriptor y.desc = some sig → argsL.length = sig.parameters.length)
    (hstack : g.stack = argsL.reverse ++ rest) (hW : 2 * g.monitorRoom + (rest.map fun v => v.category).sum ≤ W9) (hdg : decode c.code g.pc = .ok (.invokestatic index, 3))
    (hpre : ∀ vm₁, s.WarmedH vm₁ → Pre ⟨T.setVm vm₁, locs, cells, slots⟩ argsL.toArray) :
    (∃ (v : Option Value) (vm₁ : Vm) (B : Pt), s.WarmedH vm₁ ∧ Stand p l e R s m args below meth c B.U B.locs B.cells B.slots ∧ Post ⟨T.setVm vm₁, locs, cells, slots⟩ argsL.toArray v B ∧
      ∀ target, Steps p.tables e below (B.U.setTop { g with pc := g.pc + 3, stack := v.toList ++ rest }) target → Steps p.tables e below (T.setTop g) target) ∨
    (∃ (q : Addr) (vm₁ : Vm) (B : Pt), s.WarmedH vm₁ ∧ Stand p l e R s m args below meth c B.U B.locs B.cells B.slots ∧ PostX ⟨T.setVm vm₁, locs, cells, slots⟩ argsL.toArray q B ∧
      Steps p.tables e below (T.setTop g) ((B.U.setTop { g with stack := rest }).pushFrame (.throwing q))) := by
  obtain ⟨mk, hnamed⟩ := Cond.code_named hcode
  obtain ⟨methM, cM, hmethM, -, -, -, -, -, -, hsigM⟩ := Cond.code_spec hnamed hcode
  have hstatic : methM.isStatic = true := Cond.static_spec hnamed hmethM hstat
  obtain ⟨kP, hkP, -⟩ := className_of_methodNamed hnamed
  have hinitP : kP.init = .initialized := Cond.initialized_spec (findClass_of_methodNamed hnamed) hkP hinit
  obtain ⟨vm₁, X₁, hstep₁⟩ := X.invokestatic hexec hown hlink hnamed hmethM hstatic hkP hinitP hy (g := g) hg (argsL := argsL) (rest := rest) (hlen _ hsigM) hstack hdg
  rcases hK m meth c ⟨T.setVm vm₁, locs, cells, slots⟩ { g with stack := rest } (.invokestatic index) mk argsL.toArray X₁ hg hsize hdg hW (X₁.named hnamed) (hpre vm₁ X₁.warmed) with ⟨v, B, X', hpost, hsteps⟩ | ⟨q, B, X', hpost, hsteps⟩
  · exact Or.inl ⟨v, vm₁, B, X₁.warmed, X', hpost, fun target h => hstep₁ _ fun acts => by rw [doInvoke_state]; exact hsteps.trans h⟩
  · exact Or.inr ⟨q, vm₁, B, X₁.warmed, X', hpost, hstep₁ _ fun acts => by rw [doInvoke_state]; exact hsteps⟩
end Calls
theorem vx_cls {s : State} {T : State} {vm₁ : Vm} {E : String} {k : ClassId} (hW : s.WarmedH vm₁) (h : (T.setVm vm₁).vm.findClass E = some k) : s.vm.findClass E = some k := by
  have h1 : vm₁.findClass E = some k := h
  rw [hW.alike.findClass] at h1
  exact h1
/-- the method's frame g, with q thrown over it -/
def vx_W (p : Program) (l : Launch) (e : Env) (R : Room) (s : State) (m : MethodId) (args : Array Value) (below : List Frame) (meth : Method) (c : Code) (H : Heap) (locs : List Loc) (cells slots : Nat) (Q : State → Prop) (g : JFrame) (q : Addr) : Prop :=
  ∀ T : State, T.heap = H → Stand p l e R s m args below meth c T locs cells slots → ∃ t, Steps p.tables e below ((T.setTop g).pushFrame (.throwing q)) t ∧ Q t
def vx_Run (p : Program) (l : Launch) (e : Env) (R : Room) (s : State) (m : MethodId) (args : Array Value) (below : List Frame) (meth : Method) (c : Code) (H : Heap) (locs : List Loc) (cells slots mc ms : Nat) (g : JFrame) (rest : List Value) (Qa : State → Outcome → State → Prop) (XC : String → State → State → Prop) (free : Addr → Prop) : Prop :=
  ∀ T : State, T.heap = H → Stand p l e R s m args below meth c T locs cells slots →
    (∃ (v : Option Value) (st₀ t T' : State) (L : List Loc), st₀.heap = H ∧ Stand p l e R s m args below meth c T' (locs ++ L) (cells + mc) (slots + ms) ∧ (∀ q ∈ L, free q.base) ∧ T'.heap = t.heap ∧ T'.vm = t.vm ∧ Qa st₀ (.returned v) t ∧
      Goes p e below T g T' { g with pc := g.pc + 3, stack := v.toList ++ rest }) ∨
    (∃ (q : Addr) (st₀ t T' : State) (L : List Loc) (E : String) (ce : Cell), st₀.heap = H ∧ Stand p l e R s m args below meth c T' (locs ++ L) (cells + mc) (slots + ms) ∧ (∀ z ∈ L, free z.base) ∧ T'.heap = t.heap ∧ T'.vm = t.vm ∧ XC E st₀ t ∧ t.heap[q]? = some ce ∧ ce.vm = .none ∧ s.vm.findClass E = some ce.cls ∧
      Steps p.tables e below (T.setTop g) ((T'.setTop { g with stack := rest }).pushFrame (.throwing q)))
def vx_X {S : Type} (px : S → Prop) (B : String → S → State → Prop) (A : Nat → Prop) : String → State → State → Prop := fun E st t => ∃ u : S, px u ∧ B E u t ∧ va_F A st t
section Runs
variable {p : Program} {l : Launch} {e : Env} {R : Room} {s : State} {m : MethodId} {args : Array Value} {below : List Frame} {meth : Method} {c : Code} {H : Heap} {locs : List Loc} {cells slots : Nat}
variable {y : MethodName} {bytes cc : ByteArray} {maxL nL mc ms n index : Nat} {ret : Option FieldType} {ws : List Cond} {rm : Room} {Pc : Array Value → State → Prop} {Qc : Array Value → State → Outcome → State → Prop} {XC : String → State → State → Prop} {free : Addr → Prop} {Ts : List Cond} {own C : String} {b : Addr} {As rest : List Value} {g : JFrame}
theorem vx_callBack (cb : CallB R s args own index y bytes maxL ret ws rm mc ms n) (hM : vx_Met l y ws rm Pc Qc XC mc ms free) (hbl : FrameBlind Pc) : vx_Back l R p e below s args y 3 8 (PreOf R mc ms Pc) (PostOf Qc mc ms free) (vx_Post XC mc ms free) := by
  obtain ⟨hrc, hrs, hfr, hlo, hws, hcw, -, hini, -⟩ := cb
  exact vx_back (bytes := bytes) (maxL := maxL) (ret := ret) hM hbl hrc hrs hfr hlo hws hcw (fun a' U hW => word_at hW (Or.inl (by first | rfl | simp [Cond.onTables, Cond.keeps, Cond.steady])) hini)
theorem vx_runV (S : CallFix p m c cc nL s args Ts own) (hM : vx_Met l y ws rm Pc Qc XC mc ms free) (cw : CallW R s args own C index y bytes maxL ret ws rm mc ms n) (hp : PreV s H C b Pc As)
    (hg : g.method = m) (hn : As.length = n) (hsize : g.locals.size = nL) (hstack : g.stack = As.reverse ++ .ref b :: rest) (hW : 2 * g.monitorRoom + (rest.map fun v => v.category).sum ≤ 8) (hdg : decode cc g.pc = .ok (.invokevirtual index, 3)) (hf : cells + mc ≤ R.cells ∧ slots + ms ≤ R.slots) :
    vx_Run p l e R s m args below meth c H locs cells slots mc ms g rest (Qc (Value.ref b :: As).toArray) XC free := by
  have hK : vx_Back l R p e below s args y 3 8 (PreOf R mc ms Pc) (PostOf Qc mc ms free) (vx_Post XC mc ms free) := vx_callBack cw.1 hM hp.1
  obtain ⟨⟨-, -, -, -, -, -, hcode, -, hy, hlen, hl⟩, hin, hse⟩ := cw
  obtain ⟨hx, hb, hml, ho, -⟩ := S
  obtain ⟨-, ⟨cellB, hcB, hoB, hclB⟩, hPc⟩ := hp
  intro T hT X
  rcases vx_callV X hx (C := C) (bytes := bytes) (maxL := maxL) (ret := ret) ho hl hin hse hcode hy hK (by rw [hT]; exact hcB) hoB hclB hg (hsize.trans hml.symm) (argsL := As) (rest := rest) (fun sig h => hn.trans (hlen sig h)) hstack hW (by rw [hb]; exact hdg)
    (fun vm₁ hW₁ => ⟨hf.1, hf.2, hPc (T.setVm vm₁) hT hW₁⟩) with ⟨v, vm₁, ⟨U', l2, c2, s2⟩, hW₁, X', ⟨g', mk, t, L, e1, e2, hq, h1, hL, h2, h3⟩, st⟩ | ⟨q, vm₁, ⟨U', l2, c2, s2⟩, hW₁, X', ⟨g', mk, t, L, E, ce, e1, e2, hq, hce, hcv, hcl, h1, hL, h2, h3⟩, st⟩
  · dsimp only [Pt.U, Pt.locs, Pt.cells, Pt.slots] at X' e1 e2 h1 h2 h3 st
    subst h1; subst h2; subst h3
    exact Or.inl ⟨v, (T.setVm vm₁).calling g' mk (Value.ref b :: As).toArray, t, U', L, hT, X', hL, e1, e2, hq, st⟩
  · dsimp only [Pt.U, Pt.locs, Pt.cells, Pt.slots] at X' e1 e2 h1 h2 h3 st hcl
    subst h1; subst h2; subst h3
    exact Or.inr ⟨q, (T.setVm vm₁).calling g' mk (Value.ref b :: As).toArray, t, U', L, E, ce, hT, X', hL, e1, e2, hq, hce, hcv, vx_cls hW₁ hcl, st⟩
theorem vx_runS (S : CallFix p m c cc nL s args Ts own) (hM : vx_Met l y ws rm Pc Qc XC mc ms free) (cw : CallB R s args own index y bytes maxL ret ws rm mc ms n ∧ (Cond.static y).before args s = true) (hp : PreS s H Pc As)
    (hg : g.method = m) (hn : As.length = n) (hsize : g.locals.size = nL) (hstack : g.stack = As.reverse ++ rest) (hW : 2 * g.monitorRoom + (rest.map fun v => v.category).sum ≤ 8) (hdg : decode cc g.pc = .ok (.invokestatic index, 3)) (hf : cells + mc ≤ R.cells ∧ slots + ms ≤ R.slots) :
    vx_Run p l e R s m args below meth c H locs cells slots mc ms g rest (Qc As.toArray) XC free := by
  have hK : vx_Back l R p e below s args y 3 8 (PreOf R mc ms Pc) (PostOf Qc mc ms free) (vx_Post XC mc ms free) := vx_callBack cw.1 hM hp.1
  obtain ⟨⟨-, -, -, -, -, -, hcode, hini, hy, hlen, hl⟩, hstt⟩ := cw
  obtain ⟨hx, hb, hml, ho, -⟩ := S
  intro T hT X
  rcases vx_callS X hx (bytes := bytes) (maxL := maxL) (ret := ret) ho hl hstt hini hcode hy hK hg (hsize.trans hml.symm) (argsL := As) (rest := rest) (fun sig h => hn.trans (hlen sig h)) hstack hW (by rw [hb]; exact hdg)
    (fun vm₁ hW₁ => ⟨hf.1, hf.2, hp.2 (T.setVm vm₁) hT hW₁⟩) with ⟨v, vm₁, ⟨U', l2, c2, s2⟩, hW₁, X', ⟨g', mk, t, L, e1, e2, hq, h1, hL, h2, h3⟩, st⟩ | ⟨q, vm₁, ⟨U', l2, c2, s2⟩, hW₁, X', ⟨g', mk, t, L, E, ce, e1, e2, hq, hce, hcv, hcl, h1, hL, h2, h3⟩, st⟩
  · dsimp only [Pt.U, Pt.locs, Pt.cells, Pt.slots] at X' e1 e2 h1 h2 h3 st
    subst h1; subst h2; subst h3
    exact Or.inl ⟨v, (T.setVm vm₁).calling g' mk As.toArray, t, U', L, hT, X', hL, e1, e2, hq, st⟩
  · dsimp only [Pt.U, Pt.locs, Pt.cells, Pt.slots] at X' e1 e2 h1 h2 h3 st hcl
    subst h1; subst h2; subst h3
    exact Or.inr ⟨q, (T.setVm vm₁).calling g' mk As.toArray, t, U', L, E, ce, hT, X', hL, e1, e2, hq, hce, hcv, vx_cls hW₁ hcl, st⟩
end Runs
section Rows
variable {p : Program} {l : Launch} {e : Env} {R : Room} {s : State} {m : MethodId} {args : Array Value} {below : List Frame} {meth : Method} {c : Code} {H : Heap} {locs : List Loc} {cells slots : Nat} {Q : State → Prop}
variable {mc ms : Nat} {free : Addr → Prop} {A0 A1 : Nat → Prop} {H0 : Heap} {a : Array Value} {pc : Nat} {ls : Array Slot} {st0 rest : List Value}
theorem vx_keep {st₀ t T' : State} {L : List Loc} (h0 : st₀.heap = H) (e1 : T'.heap = t.heap) (hS : va_S A0 H0 H locs) (hA : ∀ q, q < H.size → A1 q → A0 q) (hf : ∀ q, free q → A0 q) (hL : ∀ q ∈ L, free q.base) (hF : va_F A1 st₀ t) :
    H.size ≤ T'.heap.size ∧ (∀ q : Nat, q < H.size → ¬ A1 q → T'.heap[q]? = H[q]?) ∧ va_S A0 H0 T'.heap (locs ++ L) := by
  obtain ⟨hz, hk⟩ := hF
  rw [h0] at hz hk
  exact ⟨by rw [e1]; exact hz, fun q h1 h2 => by rw [e1]; exact hk q h1 h2,
    ⟨Nat.le_trans hS.1 (by rw [e1]; exact hz), fun q h1 h2 => by rw [e1, hk q (Nat.lt_of_lt_of_le h1 hS.1) (fun z => h2 (hA q (Nat.lt_of_lt_of_le h1 hS.1) z))]; exact hS.2.1 q h1 h2, fun q hq => by
      rcases List.mem_append.mp hq with h | h
      · exact hS.2.2 q h
      · exact hf _ (hL q h)⟩⟩
theorem vx_calli {S SX : Type} {post : Int32 → S → Prop} {px : SX → Prop} {B : S → State → Prop} {BX : String → SX → State → Prop} {AX : Nat → Prop} (hr : vx_Run p l e R s m args below meth c H locs cells slots mc ms (F0 m pc ls st0) rest (va_Qi post B A1 a) (vx_X px BX AX) free) (hS : va_S A0 H0 H locs) (hA : ∀ q, q < H.size → A1 q → A0 q) (hf : ∀ q, free q → A0 q) (hAX : ∀ q, q < H.size → AX q → A0 q)
    (kx : ∀ (E : String) (ce : Cell) (q9 : Addr) (u : SX) (t : State) (H1 : Heap) (locs1 : List Loc), t.heap = H1 → s.vm.Alike t.vm → px u → BX E u t → H.size ≤ H1.size → (∀ q : Nat, q < H.size → ¬ AX q → H1[q]? = H[q]?) → va_S A0 H0 H1 locs1 → H1[q9]? = some ce → ce.vm = .none → s.vm.findClass E = some ce.cls → vx_W p l e R s m args below meth c H1 locs1 (cells + mc) (slots + ms) Q (F0 m pc ls rest) q9)
    (kk : ∀ (r : Int32) (u : S) (t : State) (H1 : Heap) (locs1 : List Loc), t.heap = H1 → s.vm.Alike t.vm → post r u → B u t → H.size ≤ H1.size → (∀ q : Nat, q < H.size → ¬ A1 q → H1[q]? = H[q]?) → va_S A0 H0 H1 locs1 → W p l e R s m args below meth c H1 locs1 (cells + mc) (slots + ms) Q (F0 m (pc + 3) ls (.int r :: rest))) : W p l e R s m args below meth c H locs cells slots Q (F0 m pc ls st0) := by
  intro T hT X
  rcases hr T hT X with ⟨v, st₀, t, T', L, h0, X', hL, e1, e2, ⟨⟨r, u, hv, hp, hb⟩, hF⟩, st⟩ | ⟨q, st₀, t, T', L, E, ce, h0, X', hL, e1, e2, ⟨u, hp, hb, hF⟩, hce, hcv, hcl, st⟩
  · cases hv
    obtain ⟨k1, k2, k3⟩ := vx_keep h0 e1 hS hA hf hL hF
    obtain ⟨t2, a1, b1⟩ := kk r u t T'.heap (locs ++ L) e1.symm (by rw [← e2]; exact X'.warmed.alike) hp hb k1 k2 k3 T' rfl X'
    exact ⟨t2, st t2 a1, b1⟩
  · obtain ⟨k1, k2, k3⟩ := vx_keep h0 e1 hS hAX hf hL hF
    obtain ⟨t2, a1, b1⟩ := kx E ce q u t T'.heap (locs ++ L) e1.symm (by rw [← e2]; exact X'.warmed.alike) hp hb k1 k2 k3 (by rw [e1]; exact hce) hcv hcl T' rfl X'
    exact ⟨t2, st.trans a1, b1⟩
theorem vx_calll {S SX : Type} {post : Int64 → S → Prop} {px : SX → Prop} {B : S → State → Prop} {BX : String → SX → State → Prop} {AX : Nat → Prop} (hr : vx_Run p l e R s m args below meth c H locs cells slots mc ms (F0 m pc ls st0) rest (va_Ql post B A1 a) (vx_X px BX AX) free) (hS : va_S A0 H0 H locs) (hA : ∀ q, q < H.size → A1 q → A0 q) (hf : ∀ q, free q → A0 q) (hAX : ∀ q, q < H.size → AX q → A0 q)
    (kx : ∀ (E : String) (ce : Cell) (q9 : Addr) (u : SX) (t : State) (H1 : Heap) (locs1 : List Loc), t.heap = H1 → s.vm.Alike t.vm → px u → BX E u t → H.size ≤ H1.size → (∀ q : Nat, q < H.size → ¬ AX q → H1[q]? = H[q]?) → va_S A0 H0 H1 locs1 → H1[q9]? = some ce → ce.vm = .none → s.vm.findClass E = some ce.cls → vx_W p l e R s m args below meth c H1 locs1 (cells + mc) (slots + ms) Q (F0 m pc ls rest) q9)
    (kk : ∀ (r : Int64) (u : S) (t : State) (H1 : Heap) (locs1 : List Loc), t.heap = H1 → s.vm.Alike t.vm → post r u → B u t → H.size ≤ H1.size → (∀ q : Nat, q < H.size → ¬ A1 q → H1[q]? = H[q]?) → va_S A0 H0 H1 locs1 → W p l e R s m args below meth c H1 locs1 (cells + mc) (slots + ms) Q (F0 m (pc + 3) ls (.long r :: rest))) : W p l e R s m args below meth c H locs cells slots Q (F0 m pc ls st0) := by
  intro T hT X
  rcases hr T hT X with ⟨v, st₀, t, T', L, h0, X', hL, e1, e2, ⟨⟨r, u, hv, hp, hb⟩, hF⟩, st⟩ | ⟨q, st₀, t, T', L, E, ce, h0, X', hL, e1, e2, ⟨u, hp, hb, hF⟩, hce, hcv, hcl, st⟩
  · cases hv
    obtain ⟨k1, k2, k3⟩ := vx_keep h0 e1 hS hA hf hL hF
    obtain ⟨t2, a1, b1⟩ := kk r u t T'.heap (locs ++ L) e1.symm (by rw [← e2]; exact X'.warmed.alike) hp hb k1 k2 k3 T' rfl X'
    exact ⟨t2, st t2 a1, b1⟩
  · obtain ⟨k1, k2, k3⟩ := vx_keep h0 e1 hS hAX hf hL hF
    obtain ⟨t2, a1, b1⟩ := kx E ce q u t T'.heap (locs ++ L) e1.symm (by rw [← e2]; exact X'.warmed.alike) hp hb k1 k2 k3 (by rw [e1]; exact hce) hcv hcl T' rfl X'
    exact ⟨t2, st.trans a1, b1⟩
theorem vx_callf {S SX : Type} {post : UInt32 → S → Prop} {px : SX → Prop} {B : S → State → Prop} {BX : String → SX → State → Prop} {AX : Nat → Prop} (hr : vx_Run p l e R s m args below meth c H locs cells slots mc ms (F0 m pc ls st0) rest (va_Qf post B A1 a) (vx_X px BX AX) free) (hS : va_S A0 H0 H locs) (hA : ∀ q, q < H.size → A1 q → A0 q) (hf : ∀ q, free q → A0 q) (hAX : ∀ q, q < H.size → AX q → A0 q)
    (kx : ∀ (E : String) (ce : Cell) (q9 : Addr) (u : SX) (t : State) (H1 : Heap) (locs1 : List Loc), t.heap = H1 → s.vm.Alike t.vm → px u → BX E u t → H.size ≤ H1.size → (∀ q : Nat, q < H.size → ¬ AX q → H1[q]? = H[q]?) → va_S A0 H0 H1 locs1 → H1[q9]? = some ce → ce.vm = .none → s.vm.findClass E = some ce.cls → vx_W p l e R s m args below meth c H1 locs1 (cells + mc) (slots + ms) Q (F0 m pc ls rest) q9)
    (kk : ∀ (r : UInt32) (u : S) (t : State) (H1 : Heap) (locs1 : List Loc), t.heap = H1 → s.vm.Alike t.vm → post r u → B u t → H.size ≤ H1.size → (∀ q : Nat, q < H.size → ¬ A1 q → H1[q]? = H[q]?) → va_S A0 H0 H1 locs1 → W p l e R s m args below meth c H1 locs1 (cells + mc) (slots + ms) Q (F0 m (pc + 3) ls (.float r :: rest))) : W p l e R s m args below meth c H locs cells slots Q (F0 m pc ls st0) := by
  intro T hT X
  rcases hr T hT X with ⟨v, st₀, t, T', L, h0, X', hL, e1, e2, ⟨⟨r, u, hv, hp, hb⟩, hF⟩, st⟩ | ⟨q, st₀, t, T', L, E, ce, h0, X', hL, e1, e2, ⟨u, hp, hb, hF⟩, hce, hcv, hcl, st⟩
  · cases hv
    obtain ⟨k1, k2, k3⟩ := vx_keep h0 e1 hS hA hf hL hF
    obtain ⟨t2, a1, b1⟩ := kk r u t T'.heap (locs ++ L) e1.symm (by rw [← e2]; exact X'.warmed.alike) hp hb k1 k2 k3 T' rfl X'
    exact ⟨t2, st t2 a1, b1⟩
  · obtain ⟨k1, k2, k3⟩ := vx_keep h0 e1 hS hAX hf hL hF
    obtain ⟨t2, a1, b1⟩ := kx E ce q u t T'.heap (locs ++ L) e1.symm (by rw [← e2]; exact X'.warmed.alike) hp hb k1 k2 k3 (by rw [e1]; exact hce) hcv hcl T' rfl X'
    exact ⟨t2, st.trans a1, b1⟩
theorem vx_calld {S SX : Type} {post : UInt64 → S → Prop} {px : SX → Prop} {B : S → State → Prop} {BX : String → SX → State → Prop} {AX : Nat → Prop} (hr : vx_Run p l e R s m args below meth c H locs cells slots mc ms (F0 m pc ls st0) rest (va_Qd post B A1 a) (vx_X px BX AX) free) (hS : va_S A0 H0 H locs) (hA : ∀ q, q < H.size → A1 q → A0 q) (hf : ∀ q, free q → A0 q) (hAX : ∀ q, q < H.size → AX q → A0 q)
    (kx : ∀ (E : String) (ce : Cell) (q9 : Addr) (u : SX) (t : State) (H1 : Heap) (locs1 : List Loc), t.heap = H1 → s.vm.Alike t.vm → px u → BX E u t → H.size ≤ H1.size → (∀ q : Nat, q < H.size → ¬ AX q → H1[q]? = H[q]?) → va_S A0 H0 H1 locs1 → H1[q9]? = some ce → ce.vm = .none → s.vm.findClass E = some ce.cls → vx_W p l e R s m args below meth c H1 locs1 (cells + mc) (slots + ms) Q (F0 m pc ls rest) q9)
    (kk : ∀ (r : UInt64) (u : S) (t : State) (H1 : Heap) (locs1 : List Loc), t.heap = H1 → s.vm.Alike t.vm → post r u → B u t → H.size ≤ H1.size → (∀ q : Nat, q < H.size → ¬ A1 q → H1[q]? = H[q]?) → va_S A0 H0 H1 locs1 → W p l e R s m args below meth c H1 locs1 (cells + mc) (slots + ms) Q (F0 m (pc + 3) ls (.double r :: rest))) : W p l e R s m args below meth c H locs cells slots Q (F0 m pc ls st0) := by
  intro T hT X
  rcases hr T hT X with ⟨v, st₀, t, T', L, h0, X', hL, e1, e2, ⟨⟨r, u, hv, hp, hb⟩, hF⟩, st⟩ | ⟨q, st₀, t, T', L, E, ce, h0, X', hL, e1, e2, ⟨u, hp, hb, hF⟩, hce, hcv, hcl, st⟩
  · cases hv
    obtain ⟨k1, k2, k3⟩ := vx_keep h0 e1 hS hA hf hL hF
    obtain ⟨t2, a1, b1⟩ := kk r u t T'.heap (locs ++ L) e1.symm (by rw [← e2]; exact X'.warmed.alike) hp hb k1 k2 k3 T' rfl X'
    exact ⟨t2, st t2 a1, b1⟩
  · obtain ⟨k1, k2, k3⟩ := vx_keep h0 e1 hS hAX hf hL hF
    obtain ⟨t2, a1, b1⟩ := kx E ce q u t T'.heap (locs ++ L) e1.symm (by rw [← e2]; exact X'.warmed.alike) hp hb k1 k2 k3 (by rw [e1]; exact hce) hcv hcl T' rfl X'
    exact ⟨t2, st.trans a1, b1⟩
theorem vx_callv {S SX : Type} {post : S → Prop} {px : SX → Prop} {B : S → State → Prop} {BX : String → SX → State → Prop} {AX : Nat → Prop} (hr : vx_Run p l e R s m args below meth c H locs cells slots mc ms (F0 m pc ls st0) rest (va_Qv post B A1 a) (vx_X px BX AX) free) (hS : va_S A0 H0 H locs) (hA : ∀ q, q < H.size → A1 q → A0 q) (hf : ∀ q, free q → A0 q) (hAX : ∀ q, q < H.size → AX q → A0 q)
    (kx : ∀ (E : String) (ce : Cell) (q9 : Addr) (u : SX) (t : State) (H1 : Heap) (locs1 : List Loc), t.heap = H1 → s.vm.Alike t.vm → px u → BX E u t → H.size ≤ H1.size → (∀ q : Nat, q < H.size → ¬ AX q → H1[q]? = H[q]?) → va_S A0 H0 H1 locs1 → H1[q9]? = some ce → ce.vm = .none → s.vm.findClass E = some ce.cls → vx_W p l e R s m args below meth c H1 locs1 (cells + mc) (slots + ms) Q (F0 m pc ls rest) q9)
    (kk : ∀ (u : S) (t : State) (H1 : Heap) (locs1 : List Loc), t.heap = H1 → s.vm.Alike t.vm → post u → B u t → H.size ≤ H1.size → (∀ q : Nat, q < H.size → ¬ A1 q → H1[q]? = H[q]?) → va_S A0 H0 H1 locs1 → W p l e R s m args below meth c H1 locs1 (cells + mc) (slots + ms) Q (F0 m (pc + 3) ls (rest))) : W p l e R s m args below meth c H locs cells slots Q (F0 m pc ls st0) := by
  intro T hT X
  rcases hr T hT X with ⟨v, st₀, t, T', L, h0, X', hL, e1, e2, ⟨⟨u, hv, hp, hb⟩, hF⟩, st⟩ | ⟨q, st₀, t, T', L, E, ce, h0, X', hL, e1, e2, ⟨u, hp, hb, hF⟩, hce, hcv, hcl, st⟩
  · cases hv
    obtain ⟨k1, k2, k3⟩ := vx_keep h0 e1 hS hA hf hL hF
    obtain ⟨t2, a1, b1⟩ := kk u t T'.heap (locs ++ L) e1.symm (by rw [← e2]; exact X'.warmed.alike) hp hb k1 k2 k3 T' rfl X'
    exact ⟨t2, st t2 a1, b1⟩
  · obtain ⟨k1, k2, k3⟩ := vx_keep h0 e1 hS hAX hf hL hF
    obtain ⟨t2, a1, b1⟩ := kx E ce q u t T'.heap (locs ++ L) e1.symm (by rw [← e2]; exact X'.warmed.alike) hp hb k1 k2 k3 (by rw [e1]; exact hce) hcv hcl T' rfl X'
    exact ⟨t2, st.trans a1, b1⟩
/-- caught by the row x of this method's table; the rows ahead don't take it -/
theorem vx_catch {own name : String} {E : String} {ce : Cell} {q : Addr} (hown : s.vm.findClass own = some m.cls) (pre : List ExceptionTableEntry) (x : ExceptionTableEntry) (suf : List ExceptionTableEntry) (hsplit : c.exceptionTable.toList = pre ++ x :: suf)
    (hpass : ∀ z ∈ pre, covers z pc = false ∨ (z.catchType ≠ 0 ∧ ∃ nm : String, (Cond.classLink own z.catchType nm).before args s = true ∧ va_Nc E nm s)) (hx : covers x pc = true) (h0 : x.catchType ≠ 0)
    (hlink : (Cond.classLink own x.catchType name).before args s = true) (hcast : (Cond.castable E name).before args s = true) (hcell : H[q]? = some ce) (hv : ce.vm = .none) (hcl : s.vm.findClass E = some ce.cls)
    (kk : W p l e R s m args below meth c H locs cells slots Q (F0 m x.handlerPc ls [.ref q])) : vx_W p l e R s m args below meth c H locs cells slots Q (F0 m pc ls rest) q := by
  intro T hT X
  have hpl : e.platform.magicAccessors = ({} : Platform).magicAccessors := by rw [X.admits.platform]
  obtain ⟨c3, c4, hc3, hc4, hasg⟩ := Cond.castable_spec hcast
  cases Option.some.inj (hc3.symm.trans hcl)
  obtain ⟨c5, hc5, hcl5⟩ := Cond.classLink_spec hown hlink e.platform hpl
  cases Option.some.inj (hc4.symm.trans hc5)
  obtain ⟨vm', X', st⟩ := X.thenCaughtThrough q (g := F0 m pc ls rest) rfl (Steps.refl _) (by rw [hT]; exact hcell) (by rw [hv]; rfl) (by obtain ⟨k9, h9, -⟩ := Vm.findClass_spec hcl; exact ⟨k9, h9⟩) pre x suf hsplit
    (fun z hz => by
      rcases hpass z hz with h | ⟨hz0, nm, hl1, hn1⟩
      · exact Or.inl h
      · obtain ⟨c6, hc6, hcl6⟩ := Cond.classLink_spec hown hl1 e.platform hpl
        obtain ⟨a8, b8, h1, h2, h3⟩ := hn1
        cases Option.some.inj (h1.symm.trans hcl)
        cases Option.some.inj (h2.symm.trans hc6)
        exact Or.inr ⟨hz0, _, hcl6, h3⟩) hx (Or.inr ⟨h0, c4, hcl5, hasg⟩)
  obtain ⟨t, a1, b1⟩ := kk (T.setVm vm') hT X'
  exact ⟨t, st.trans a1, b1⟩
end Rows
section Ends
variable {p : Program} {l : Launch} {e : Env} {R : Room} {s : State} {m : MethodId} {args : Array Value} {below : List Frame} {meth : Method} {c : Code} {H : Heap} {locs : List Loc} {cells slots : Nat} {Q : State → Prop}
variable {mc ms : Nat} {free : Addr → Prop} {A0 A1 : Nat → Prop} {H0 : Heap} {a : Array Value} {ls : Array Slot} {st0 rest : List Value}
variable {Qc : Array Value → State → Outcome → State → Prop} {XC : String → State → State → Prop}
/-- what a body that may throw owes at its end -/
def vx_MQ (below : List Frame) (Qc : Array Value → State → Outcome → State → Prop) (XC : String → State → State → Prop) (a : Array Value) (s : State) (mc ms : Nat) (free : Addr → Prop) : State → Prop := fun t =>
  ∃ o, t.status = .running ∧ Ended t below o ∧ vx_Q Qc XC mc ms free a s o t
theorem vx_ret {g : JFrame} {mc ms : Nat} (k : W p l e R s m args below meth c H locs cells slots (MQ below Qc args s mc ms free) g) : W p l e R s m args below meth c H locs cells slots (vx_MQ below Qc XC args s mc ms free) g := by
  intro T hT X
  obtain ⟨t, a1, o, b1, b2, b3, b4⟩ := k T hT X
  exact ⟨t, a1, o, b1, b2, Or.inl ⟨b3, b4⟩⟩
/-- not caught here: it goes on to the caller -/
theorem vx_widen {g : JFrame} {q : Addr} {k n : Nat} (h1 : cells ≤ k) (h2 : slots ≤ n) (kk : vx_W p l e R s m args below meth c H locs k n Q g q) : vx_W p l e R s m args below meth c H locs cells slots Q g q := fun T hT X => kk T hT (stand_widen X h1 h2)
theorem vx_out {pc : Nat} {E : String} {ce : Cell} {q : Addr} {mc ms : Nat} (hout : ∀ x ∈ c.exceptionTable.toList, covers x pc = false) (hlocks : meth.locks = false) (hcell : H[q]? = some ce) (hv : ce.vm = .none) (hcl : s.vm.findClass E = some ce.cls)
    (hx : ∀ t : State, t.heap = H → s.vm.Alike t.vm → XC E s t) (hf : ∀ z ∈ locs, free z.base) (hc : cells ≤ mc) (hs : slots ≤ ms) :
    vx_W p l e R s m args below meth c H locs cells slots (vx_MQ below Qc XC args s mc ms free) (F0 m pc ls rest) q := by
  intro T hT X
  obtain ⟨st1, hrun, hend, hW, hsm⟩ := X.leaveThrown q (g := F0 m pc ls rest) rfl rfl rfl hout hlocks
  have hcell9 : (T.setFrames (.throwing q :: below)).heap[q]? = some ce := by
    show T.heap[q]? = some ce
    rw [hT]; exact hcell
  exact ⟨_, st1, .threw q, hrun, hend, Or.inr ⟨q, rfl, E, ce, locs, hx _ hT hW.alike, hcell9, hv, hcl, hW, hsm.mono hc hs, hf⟩⟩
theorem vx_frame {U : State} {k n : Nat} (h : s.sameButNew ({ U with vm := s.vm } : State) locs k n) : s.heap.size ≤ U.heap.size ∧ ∀ q : Nat, q < s.heap.size → (∀ z ∈ locs, z.base ≠ q) → U.heap[q]? = s.heap[q]? := by
  obtain ⟨-, h2, -, -, -, h6⟩ := h
  refine ⟨h2, fun q hq hz => ?_⟩
  obtain ⟨c9, e1, e2, e3, e4⟩ := h6 q _ (Array.getElem?_eq_getElem hq)
  have hs : c9.slots = (s.heap[q]).slots := Array.ext_getElem? fun i => e4 i fun hm => hz _ hm rfl
  have h9 : c9 = s.heap[q] := by
    rw [hs] at e2
    exact e2
  have e5 : U.heap[q]? = some c9 := e1
  rw [e5, h9, Array.getElem?_eq_getElem hq]
/-- the words of a throw but the four that speak of the heap -/
def vx_no (w : Cond) : Bool := decide (w ≠ .isRef (.static Bundle.tN "UNASSIGNED_STACK" Bundle.steD)) && decide (w ≠ .isRef (.static Bundle.tN "SUPPRESSED_SENTINEL" Bundle.listD)) && decide (w ≠ .laysStatic Bundle.tN "UNASSIGNED_STACK" Bundle.steD) && decide (w ≠ .laysStatic Bundle.tN "SUPPRESSED_SENTINEL" Bundle.listD)
def vx_at0 (own : String) (ic : Nat) (X : String) (names : List String) : List Cond := (Bundle.ownAtoms0 own ic X names).filter vx_no
def vx_atS (own : String) (ic : Nat) (X : String) (names : List String) : List Cond := (Bundle.ownAtoms own ic X names).filter vx_no
/-- a word that the tables alone decide, or a good one -/
def vx_ot (w : Cond) : Bool := w.onTables || goodWord w
theorem vx_ot_at {args a' : Array Value} {s U : State} {w : Cond} (hW : s.WarmedH U.vm) (hvm : s.vm = U.vm) (hg : vx_ot w = true) (h : w.before args s = true) : w.before a' U = true := by
  simp only [vx_ot, Bool.or_eq_true] at hg
  rcases hg with hg | hg
  · exact va_tabs hg hvm h
  · exact word_at hW (good_of_word hg) h
/-- a list's words: the good ones out of the method's own list, the others by premises of their own -/
theorem vx_hat {args : Array Value} {s : State} {L B : List Cond} (h1 : ∀ w ∈ L.filter goodWord, w.before args s = true) (h2 : ∀ w ∈ L.filter (fun w => !goodWord w), w ∈ B) (h3 : ∀ w ∈ B, w.before args s = true) : ∀ w ∈ L, w.before args s = true := by
  intro w hw
  by_cases g : goodWord w = true
  · exact h1 w (List.mem_filter.mpr ⟨hw, g⟩)
  · refine h3 w (h2 w (List.mem_filter.mpr ⟨hw, ?_⟩))
    show (!goodWord w) = true
    cases hgw : goodWord w
    · rfl
    · exact absurd hgw g
theorem vx_c {args : Array Value} {s : State} {w : Cond} {B : List Cond} (h : w.before args s = true) (t : ∀ w ∈ B, w.before args s = true) : ∀ w' ∈ w :: B, w'.before args s = true := fun w' h' => (List.mem_cons.mp h').elim (fun e => by rw [e]; exact h) (t w')
theorem vx_n {args : Array Value} {s : State} : ∀ w ∈ ([] : List Cond), w.before args s = true := fun _ h => nomatch h
theorem vx_own {args : Array Value} {s : State} {L : List Cond} (h1 : ∀ w ∈ L.filter vx_no, w.before args s = true)
    (hU : (Cond.isRef (.static Bundle.tN "UNASSIGNED_STACK" Bundle.steD)).before args s = true) (hN : (Cond.isRef (.static Bundle.tN "SUPPRESSED_SENTINEL" Bundle.listD)).before args s = true)
    (lU : (Cond.laysStatic Bundle.tN "UNASSIGNED_STACK" Bundle.steD).before args s = true) (lN : (Cond.laysStatic Bundle.tN "SUPPRESSED_SENTINEL" Bundle.listD).before args s = true) : ∀ w ∈ L, w.before args s = true := by
  intro w hw
  by_cases e1 : w = .isRef (.static Bundle.tN "UNASSIGNED_STACK" Bundle.steD)
  · rw [e1]; exact hU
  · by_cases e2 : w = .isRef (.static Bundle.tN "SUPPRESSED_SENTINEL" Bundle.listD)
    · rw [e2]; exact hN
    · by_cases e3 : w = .laysStatic Bundle.tN "UNASSIGNED_STACK" Bundle.steD
      · rw [e3]; exact lU
      · by_cases e4 : w = .laysStatic Bundle.tN "SUPPRESSED_SENTINEL" Bundle.listD
        · rw [e4]; exact lN
        · exact h1 w (List.mem_filter.mpr ⟨hw, by unfold vx_no; rw [decide_eq_true e1, decide_eq_true e2, decide_eq_true e3, decide_eq_true e4]; rfl⟩)
/-- where a static field lies, its class's statics cell in H -/
def vx_L (C n d : String) (A : Nat → Prop) (U : State) (H : Heap) : Prop := ∃ (c : ClassId) (k : Class) (i : Nat) (f : Field) (a : Nat) (cell : Cell), U.vm.findClass C = some c ∧ U.fieldFound? C n d = some (c, k, i, f) ∧ f.isStatic = true ∧ k.statics = some a ∧ H[a]? = some cell ∧ cell.vm.isStatics = true ∧ cell.cls = c ∧ f.slot < cell.slots.size ∧ k.staticTypes[f.slot]? = some f.type ∧ ¬ A a
theorem vx_L.moved {C n d : String} {A : Nat → Prop} {u U : State} {H : Heap} (hvm : u.vm.Alike U.vm) (h : vx_L C n d A u H) : vx_L C n d A U H := by
  obtain ⟨c, k, i, f, a, cell, h1, h2, h3, h4, h5, h6, h7, h8, h9, h10⟩ := h
  obtain ⟨k', hi', he⟩ := State.fieldFound?_setVm hvm h2
  exact ⟨c, k', i, f, a, cell, by rw [hvm.findClass]; exact h1, hi', h3, by rw [he]; exact h4, h5, h6, h7, h8, by rw [he]; exact h9, h10⟩
theorem vx_L.kept {C n d : String} {A : Nat → Prop} {U : State} {H H1 : Heap} (h : vx_L C n d A U H) (hq : ∀ a : Nat, a < H.size → ¬ A a → H1[a]? = H[a]?) : vx_L C n d A U H1 := by
  obtain ⟨c, k, i, f, a, cell, h1, h2, h3, h4, h5, h6, h7, h8, h9, h10⟩ := h
  exact ⟨c, k, i, f, a, cell, h1, h2, h3, h4, by rw [hq a (Array.getElem?_eq_some_iff.mp h5).1 h10]; exact h5, h6, h7, h8, h9, h10⟩
theorem vx_L.narrow {C n d : String} {A B : Nat → Prop} {U : State} {H : Heap} (h : vx_L C n d A U H) (hAB : ∀ q, B q → A q) : vx_L C n d B U H := by
  obtain ⟨c, k, i, f, a, cell, h1, h2, h3, h4, h5, h6, h7, h8, h9, h10⟩ := h
  exact ⟨c, k, i, f, a, cell, h1, h2, h3, h4, h5, h6, h7, h8, h9, fun z => h10 (hAB _ z)⟩
theorem vx_L.word {C n d : String} {A : Nat → Prop} {s : State} {args : Array Value} (h : vx_L C n d A s s.heap) : (Cond.laysStatic C n d).before args s = true := by
  obtain ⟨c, k, i, f, a, cell, h1, h2, h3, h4, h5, h6, h7, h8, h9, -⟩ := h
  show (Cond.laysStatic C n d).holds args s none s [] = true
  exact Cond.laysStatic_of h1 h2 h3 h4 h5 h6 h7 h8 h9
/-- .. and what it holds: null or some reference -/
def vx_Zq (C n d : String) (A : Nat → Prop) (U : State) (H : Heap) : Prop := va_Zq C n d A U H ∧ vx_L C n d A U H
theorem vx_Zq.moved {C n d : String} {A : Nat → Prop} {u U : State} {H : Heap} (hvm : u.vm.Alike U.vm) (h : vx_Zq C n d A u H) : vx_Zq C n d A U H := ⟨va_Zq.moved hvm h.1, vx_L.moved hvm h.2⟩
theorem vx_Zq.kept {C n d : String} {A : Nat → Prop} {U : State} {H H1 : Heap} (h : vx_Zq C n d A U H) (hq : ∀ a : Nat, a < H.size → ¬ A a → H1[a]? = H[a]?) : vx_Zq C n d A U H1 := ⟨va_Zq.kept h.1 hq, vx_L.kept h.2 hq⟩
theorem vx_Zq.narrow {C n d : String} {A B : Nat → Prop} {U : State} {H : Heap} (h : vx_Zq C n d A U H) (hAB : ∀ q, B q → A q) : vx_Zq C n d B U H := ⟨va_Zq.narrow h.1 hAB, vx_L.narrow h.2 hAB⟩
theorem vx_Zqof {args : Array Value} {s : State} {C n d : String} {A : Nat → Prop} (hl : (Cond.laysStatic C n d).before args s = true) (hini : (Cond.initialized C).before args s = true) (h : (Cond.isRef (.static C n d)).before args s = true) (hA : ∀ a : Nat, a < s.heap.size → ¬ A a) : vx_Zq C n d A s s.heap := by
  refine ⟨va_Zqof hl hini h hA, ?_⟩
  obtain ⟨c, k, i, f, a, cell, h1, h2, h3, h4, h5, h6, h7, h8, h9⟩ := Cond.laysStatic_spec hl
  exact ⟨c, k, i, f, a, cell, h1, h2, h3, h4, h5, h6, h7, h8, h9, hA a (Array.getElem?_eq_some_iff.mp h5).1⟩
theorem vx_isRef {C n d : String} {v : Value} {A : Nat → Prop} {s : State} {args : Array Value} (h : va_Z C n d v A s s.heap) (hv : v.isRef = true) : (Cond.isRef (.static C n d)).before args s = true := by
  obtain ⟨cf, kf, fi, f, a, cell, h1, h2, h3, h4, h5, h6, h7, -⟩ := h
  have he : (Term.static C n d).eval args s none [] s = some v := by
    simp [Term.eval, State.fieldNamed?, h1, h2, h4, h5, h6, h7]
  simp only [Cond.before, Cond.holds, Cond.value, he]
  cases v <;> simp_all [Value.isRef]
theorem vx_isRefq {C n d : String} {A : Nat → Prop} {s : State} {args : Array Value} (h : va_Zq C n d A s s.heap) : (Cond.isRef (.static C n d)).before args s = true := by
  rcases h with h | ⟨t, h⟩
  · exact vx_isRef h rfl
  · exact vx_isRef h rfl
/-- the same frame, seen from here: as if the method were called anew in this heap -/
theorem vx_rebase {T : State} (X : Stand p l e R s m args below meth c T locs cells slots) {R' : Room} (hf : R'.frames ≤ R.frames) (hl : R'.locals ≤ R.locals) (hc : cells + R'.cells ≤ R.cells) (hs : slots + R'.slots ≤ R.slots) :
    Stand p l e R' ((T.setVm s.vm).setFrames (.invoking m args :: below)) m args below meth c T [] 0 0 := by
  have htop : (T.setVm s.vm).topJava?.isSome := X.here.top
  have hF : ((T.setVm s.vm).setFrames (.invoking m args :: below)).frames = .invoking m args :: below := State.frames_setFrames _ (State.cur_lt_of_top htop)
  obtain ⟨g₀, hg0⟩ := Option.isSome_iff_exists.mp htop
  obtain ⟨r, hr⟩ := State.topJava?_eq_some.mp hg0
  have hl9 : e.platform.stackLimits (T.setVm s.vm).me = e.platform.stackLimits s.me := X.limits
  have hb9 : (T.setVm s.vm).me.stackBytes = s.me.stackBytes := X.bytes
  refine ⟨X.admits, X.cas, X.clock, hF, ?_, X.hears, X.method, X.code, X.here, X.tail, X.warmed, ?_, ?_, ?_⟩
  · have h := X.room
    have hU : ((T.setVm s.vm).setFrames (.invoking m args :: below)).localsInUse = s.localsInUse := by
      rw [State.localsInUse_invoking hF (meth := meth) (c := c) X.method X.code, State.localsInUse_invoking X.frames X.method X.code]
    simp only [State.hasRoom, Bool.and_eq_true, decide_eq_true_eq] at h ⊢
    obtain ⟨⟨⟨⟨h1, h2, h3, h4, h5, h6⟩, h7⟩, h8⟩, h9⟩ := h
    rw [X.frames, List.length_cons] at h2 h3
    have q1 := X.heapSize
    have q2 := X.used
    simp only [hF, hU, List.length_cons, State.stackLimits_setFrames, State.stackBytes_setFrames, hl9, hb9]
    refine ⟨⟨⟨⟨by omega, by omega, by omega, by omega, by omega, h6⟩, ?_⟩, ?_⟩, X.book⟩
    · show T.heap.size + R'.cells ≤ e.platform.maxCells
      omega
    · show T.slotsUsed + R'.slots ≤ e.platform.maxSlots
      omega
  · rw [State.stackLimits_setFrames]; rfl
  · rw [State.stackBytes_setFrames]; rfl
  · refine ⟨?_, Nat.le_refl _, Nat.le_refl _, ?_, ?_, fun a c9 h9 => ⟨c9, h9, rfl, rfl, fun _ _ => rfl⟩⟩
    · obtain ⟨t, ht, -⟩ := State.frames_cons hr
      show T.setVm s.vm = { ((T.setVm s.vm).setFrames (.invoking m args :: below)).setFrames (T.setVm s.vm).frames with heap := T.heap, slotsUsed := T.slotsUsed }
      rw [State.setFrames_setFrames, State.setFrames_self ht]
      rfl
    · show T.slotsUsed = T.slotsUsed + ((T.heap.toList.drop T.heap.size).map (·.slots.size)).sum
      rw [List.drop_eq_nil_of_le (Nat.le_of_eq Array.length_toList)]
      rfl
    · show ((T.heap.toList.drop T.heap.size).map (·.slots.size)).sum ≤ 0
      rw [List.drop_eq_nil_of_le (Nat.le_of_eq Array.length_toList)]
      exact Nat.le_refl _
/-- 'throw new E()': new; dup; invokespecial; athrow -/
theorem vx_throw0 {cc : ByteArray} {pc : Nat} (hexec : p.tables.exec = Jvm.exec) (hb : c.code = cc) (hl : l.stackTraces = false) {own cls : String} {names : List String} {ik ic mc ms : Nat} {A : Nat → Prop}
    (hown : s.vm.findClass own = some m.cls) (hcls : Bundle.fit cls = true) (hnames : ∀ n ∈ names, Bundle.fit n = true)
    (hk : (Cond.classLink own ik cls).before args s = true) (hini : (Cond.initialized cls).before args s = true) (hat : ∀ w ∈ vx_at0 own ic cls names, w.before args s = true)
    (hgood : ∀ w ∈ Cond.classLink own ik cls :: Cond.initialized cls :: vx_at0 own ic cls names, vx_ot w = true)
    (hU : vx_Zq Bundle.tN "UNASSIGNED_STACK" Bundle.steD A s s.heap) (hN : vx_Zq Bundle.tN "SUPPRESSED_SENTINEL" Bundle.listD A s s.heap) (hS : va_S A s.heap H locs) (hsize : ls.size = c.maxLocals)
    (d0 : decode cc pc = .ok (.new ik, 3)) (d3 : decode cc (pc + 3) = .ok (.dup, 1)) (d4 : decode cc (pc + 4) = .ok (.invokespecial ic, 3)) (d7 : decode cc (pc + 7) = .ok (.athrow, 1))
    (hout : ∀ x ∈ c.exceptionTable.toList, covers x (pc + 7) = false)
    (hRframes : names.length + 3 < R.frames) (hRlocals : (rest.map fun v => v.category).sum + (13 * (names.length + 1) + 42) ≤ R.locals) (hRcells : cells + 1 ≤ R.cells) (hRslots : slots + 6 ≤ R.slots) (hlocks : meth.locks = false)
    (hx : ∀ t : State, s.vm.Alike t.vm → H.size ≤ t.heap.size → (∀ q : Nat, q < H.size → t.heap[q]? = H[q]?) → XC cls s t)
    (hf : ∀ z ∈ locs, free z.base) (hc : cells + 1 ≤ mc) (hs : slots + 6 ≤ ms) :
    W p l e R s m args below meth c H locs cells slots (vx_MQ below Qc XC args s mc ms free) (F0 m pc ls rest) := by
  intro T hT X
  have htr : e.platform.stackTraces = false := (show e.platform.stackTraces = l.stackTraces by rw [X.admits.platform]).trans hl
  have Y := vx_rebase X (R' := { frames := R.frames, locals := R.locals, cells := 1, slots := 6 }) (Nat.le_refl _) (Nat.le_refl _) hRcells hRslots
  obtain ⟨s', hA⟩ : ∃ z, z = (T.setVm s.vm).setFrames (.invoking m args :: below) := ⟨_, rfl⟩
  rw [← hA] at Y
  have hvm : s'.vm = s.vm := by rw [hA]; rfl
  have hhp : s'.heap = H := by rw [hA]; exact hT
  have hW0 : s.WarmedH s'.vm := by rw [hvm]; exact State.WarmedH.refl s
  have hat' : ∀ w ∈ vx_at0 own ic cls names, w.before args s' = true := fun w hw => vx_ot_at hW0 hvm.symm (hgood w (List.mem_cons_of_mem _ (List.mem_cons_of_mem _ hw))) (hat w hw)
  have hk' : (Cond.classLink own ik cls).before args s' = true := vx_ot_at hW0 hvm.symm (hgood _ List.mem_cons_self) hk
  have hini' : (Cond.initialized cls).before args s' = true := vx_ot_at hW0 hvm.symm (hgood _ (List.mem_cons_of_mem _ List.mem_cons_self)) hini
  have hU' : vx_Zq Bundle.tN "UNASSIGNED_STACK" Bundle.steD A s' s'.heap := by rw [hhp]; exact vx_Zq.moved hW0.alike (hU.kept hS.2.1)
  have hN' : vx_Zq Bundle.tN "SUPPRESSED_SENTINEL" Bundle.listD A s' s'.heap := by rw [hhp]; exact vx_Zq.moved hW0.alike (hN.kept hS.2.1)
  have h : ∀ w ∈ Bundle.ownAtoms0 own ic cls names, w.before args s' = true := vx_own hat' (vx_isRefq hU'.1) (vx_isRefq hN'.1) hU'.2.word hN'.2.word
  have hown' : s'.vm.findClass own = some m.cls := by rw [hvm]; exact hown
  have hins : (Cond.instantiable cls 6).before args s' = true := h _ (by simp [Bundle.ownAtoms0])
  obtain ⟨vm₁, cX, kX, hfX, hkX, -, -, X₁, st1⟩ := Y.newCold hexec (own := own) (C := cls) (index := ik) (n := 6) hown' hk' hins hini'
    (g := F0 m pc ls rest) rfl (by rw [hb]; exact d0) (Nat.le_refl _) (Nat.le_refl _)
  generalize hT1 : (T.setVm vm₁).pushCell { cls := cX, slots := kX.instanceTypes.map defaultValue, vm := .none } = T1 at X₁ st1
  have hcat : (Value.ref T.heap.size).category = 1 := rfl
  have hcellA : T1.heap[T.heap.size]? = some (freshCell cX kX) := by rw [← hT1]; exact State.heap_pushCell_size _ _
  have d3' : decode c.code (pc + 3) = .ok (.dup, 1) := by rw [hb]; exact d3
  obtain ⟨U, hsteps, hrun, hend, hW, hsame, ce, hce, hO⟩ := X₁.ctorThrow0 hexec htr (own := own) (cls := cls) (names := names) (ic := ic) hown' hcls hnames h (fun x hx => nomatch hx) hfX hkX hcellA (by rw [hhp, hT]; exact Nat.le_refl _)
    (g := { method := m, pc := pc + 4, locals := ls, stack := .ref T.heap.size :: .ref T.heap.size :: rest, locked := none }) rfl hsize rfl rfl (rest := rest) rfl
    (by rw [hb]; exact d4) (by rw [hb]; exact d7) hout hRframes (by simp only [List.map_cons, List.sum_cons, hcat]; omega) hlocks
  obtain ⟨f1, f2⟩ := vx_frame hsame
  rw [hhp] at f1 f2
  have hWs : s.WarmedH U.vm := State.WarmedH.trans hW0 hW
  have hcl : s.vm.findClass cls = some ce.cls := by
    have h9 := hO.cls
    rw [hvm] at h9
    exact h9
  have hall : s.sameButNew ({ U with vm := s.vm } : State) locs mc ms := by
    subst hA
    obtain ⟨e1, e2⟩ := hsame
    rw [State.setFrames_setFrames] at e1
    have h2 : (T.setVm s.vm).sameButNew ({ U with vm := s.vm } : State) [] (0 + 1) (0 + 6) := ⟨e1, e2⟩
    have h3 := X.same.trans h2
    rw [List.append_nil] at h3
    exact h3.mono hc hs
  refine ⟨U, ?_, .threw T.heap.size, hrun, hend, Or.inr ⟨T.heap.size, rfl, cls, ce, locs, hx U hWs.alike f1 (fun q hq => f2 q hq (fun z hz => nomatch hz)), hce, hO.vm, hcl, hWs, hall, hf⟩⟩
  refine st1 _ ?_
  show Steps p.tables e below (T1.setTop { method := m, pc := pc + 3, locals := ls, stack := .ref T.heap.size :: rest, locked := none }) _
  jvm_step X₁.here [X₁.here.top, hexec, d3', Value.category]
  exact hsteps
/-- 'throw new E("text")': new; dup; ldc; invokespecial; athrow -/
theorem vx_throwS {cc : ByteArray} {pc : Nat} (hexec : p.tables.exec = Jvm.exec) (hb : c.code = cc) (hl : l.stackTraces = false) {own cls text : String} {names : List String} {ik is ic mc ms sa : Nat} {A : Nat → Prop}
    (hown : s.vm.findClass own = some m.cls) (hcls : Bundle.fit cls = true) (hnames : ∀ n ∈ names, Bundle.fit n = true)
    (hk : (Cond.classLink own ik cls).before args s = true) (hini : (Cond.initialized cls).before args s = true) (hstr : vk_R own is text sa s) (hat : ∀ w ∈ vx_atS own ic cls names, w.before args s = true)
    (hgood : ∀ w ∈ Cond.classLink own ik cls :: Cond.initialized cls :: vx_atS own ic cls names, vx_ot w = true)
    (hU : vx_Zq Bundle.tN "UNASSIGNED_STACK" Bundle.steD A s s.heap) (hN : vx_Zq Bundle.tN "SUPPRESSED_SENTINEL" Bundle.listD A s s.heap) (hS : va_S A s.heap H locs) (hsize : ls.size = c.maxLocals)
    (d0 : decode cc pc = .ok (.new ik, 3)) (d3 : decode cc (pc + 3) = .ok (.dup, 1)) (d4 : decode cc (pc + 4) = .ok (.ldc is, 2)) (d6 : decode cc (pc + 6) = .ok (.invokespecial ic, 3)) (d9 : decode cc (pc + 9) = .ok (.athrow, 1))
    (hout : ∀ x ∈ c.exceptionTable.toList, covers x (pc + 9) = false)
    (hRframes : names.length + 3 < R.frames) (hRlocals : (rest.map fun v => v.category).sum + (13 * (names.length + 1) + 43) ≤ R.locals) (hRcells : cells + 1 ≤ R.cells) (hRslots : slots + 6 ≤ R.slots) (hlocks : meth.locks = false)
    (hx : ∀ t : State, s.vm.Alike t.vm → H.size ≤ t.heap.size → (∀ q : Nat, q < H.size → t.heap[q]? = H[q]?) → XC cls s t)
    (hf : ∀ z ∈ locs, free z.base) (hc : cells + 1 ≤ mc) (hs : slots + 6 ≤ ms) :
    W p l e R s m args below meth c H locs cells slots (vx_MQ below Qc XC args s mc ms free) (F0 m pc ls rest) := by
  intro T hT X
  have htr : e.platform.stackTraces = false := (show e.platform.stackTraces = l.stackTraces by rw [X.admits.platform]).trans hl
  have Y := vx_rebase X (R' := { frames := R.frames, locals := R.locals, cells := 1, slots := 6 }) (Nat.le_refl _) (Nat.le_refl _) hRcells hRslots
  obtain ⟨s', hA⟩ : ∃ z, z = (T.setVm s.vm).setFrames (.invoking m args :: below) := ⟨_, rfl⟩
  rw [← hA] at Y
  have hvm : s'.vm = s.vm := by rw [hA]; rfl
  have hhp : s'.heap = H := by rw [hA]; exact hT
  have hW0 : s.WarmedH s'.vm := by rw [hvm]; exact State.WarmedH.refl s
  have hat' : ∀ w ∈ vx_atS own ic cls names, w.before args s' = true := fun w hw => vx_ot_at hW0 hvm.symm (hgood w (List.mem_cons_of_mem _ (List.mem_cons_of_mem _ hw))) (hat w hw)
  have hk' : (Cond.classLink own ik cls).before args s' = true := vx_ot_at hW0 hvm.symm (hgood _ List.mem_cons_self) hk
  have hini' : (Cond.initialized cls).before args s' = true := vx_ot_at hW0 hvm.symm (hgood _ (List.mem_cons_of_mem _ List.mem_cons_self)) hini
  have hU' : vx_Zq Bundle.tN "UNASSIGNED_STACK" Bundle.steD A s' s'.heap := by rw [hhp]; exact vx_Zq.moved hW0.alike (hU.kept hS.2.1)
  have hN' : vx_Zq Bundle.tN "SUPPRESSED_SENTINEL" Bundle.listD A s' s'.heap := by rw [hhp]; exact vx_Zq.moved hW0.alike (hN.kept hS.2.1)
  have h : ∀ w ∈ Bundle.ownAtoms own ic cls names, w.before args s' = true := vx_own hat' (vx_isRefq hU'.1) (vx_isRefq hN'.1) hU'.2.word hN'.2.word
  have hown' : s'.vm.findClass own = some m.cls := by rw [hvm]; exact hown
  have hins : (Cond.instantiable cls 6).before args s' = true := h _ (by simp [Bundle.ownAtoms])
  obtain ⟨vm₁, cX, kX, hfX, hkX, -, -, X₁, st1⟩ := Y.newCold hexec (own := own) (C := cls) (index := ik) (n := 6) hown' hk' hins hini'
    (g := F0 m pc ls rest) rfl (by rw [hb]; exact d0) (Nat.le_refl _) (Nat.le_refl _)
  generalize hT1 : (T.setVm vm₁).pushCell { cls := cX, slots := kX.instanceTypes.map defaultValue, vm := .none } = T1 at X₁ st1
  have hcat : (Value.ref T.heap.size).category = 1 := rfl
  have hcellA : T1.heap[T.heap.size]? = some (freshCell cX kX) := by rw [← hT1]; exact State.heap_pushCell_size _ _
  have d3' : decode c.code (pc + 3) = .ok (.dup, 1) := by rw [hb]; exact d3
  have d4' : decode c.code (pc + 4) = .ok (.ldc is, 2) := by rw [hb]; exact d4
  have hstr' : vk_R own is text sa s' := vk_R.warm hW0 hstr
  obtain ⟨U, hsteps, hrun, hend, hW, hsame, ce, hce, hO⟩ := X₁.ctorThrowS hexec htr (own := own) (cls := cls) (names := names) (ic := ic) hown' hcls hnames h (fun x hx => nomatch hx) hfX hkX hcellA (by rw [hhp, hT]; exact Nat.le_refl _) (msg := .ref sa) rfl
    (g := { method := m, pc := pc + 6, locals := ls, stack := .ref sa :: .ref T.heap.size :: .ref T.heap.size :: rest, locked := none }) rfl hsize rfl rfl (rest := rest) rfl
    (by rw [hb]; exact d6) (by rw [hb]; exact d9) hout hRframes (by simp only [List.map_cons, List.sum_cons, hcat]; omega) hlocks
  obtain ⟨f1, f2⟩ := vx_frame hsame
  rw [hhp] at f1 f2
  have hWs : s.WarmedH U.vm := State.WarmedH.trans hW0 hW
  have hcl : s.vm.findClass cls = some ce.cls := by
    have h9 := hO.cls
    rw [hvm] at h9
    exact h9
  have hall : s.sameButNew ({ U with vm := s.vm } : State) locs mc ms := by
    subst hA
    obtain ⟨e1, e2⟩ := hsame
    rw [State.setFrames_setFrames] at e1
    have h2 : (T.setVm s.vm).sameButNew ({ U with vm := s.vm } : State) [] (0 + 1) (0 + 6) := ⟨e1, e2⟩
    have h3 := X.same.trans h2
    rw [List.append_nil] at h3
    exact h3.mono hc hs
  refine ⟨U, ?_, .threw T.heap.size, hrun, hend, Or.inr ⟨T.heap.size, rfl, cls, ce, locs, hx U hWs.alike f1 (fun q hq => f2 q hq (fun z hz => nomatch hz)), hce, hO.vm, hcl, hWs, hall, hf⟩⟩
  refine st1 _ ?_
  show Steps p.tables e below (T1.setTop { method := m, pc := pc + 3, locals := ls, stack := .ref T.heap.size :: rest, locked := none }) _
  jvm_step X₁.here [X₁.here.top, hexec, d3', Value.category]
  exact X₁.ldcString hexec (own := own) (text := text) (index := is) (a := sa) hown' hstr'.1 hstr'.2
    (g := { method := m, pc := pc + 4, locals := ls, stack := .ref T.heap.size :: .ref T.heap.size :: rest, locked := none }) rfl d4' _ hsteps
/-- 'throw new E("text")', the text by a wide index -/
theorem vx_throwSW {cc : ByteArray} {pc : Nat} (hexec : p.tables.exec = Jvm.exec) (hb : c.code = cc) (hl : l.stackTraces = false) {own cls text : String} {names : List String} {ik is ic mc ms sa : Nat} {A : Nat → Prop}
    (hown : s.vm.findClass own = some m.cls) (hcls : Bundle.fit cls = true) (hnames : ∀ n ∈ names, Bundle.fit n = true)
    (hk : (Cond.classLink own ik cls).before args s = true) (hini : (Cond.initialized cls).before args s = true) (hstr : vk_R own is text sa s) (hat : ∀ w ∈ vx_atS own ic cls names, w.before args s = true)
    (hgood : ∀ w ∈ Cond.classLink own ik cls :: Cond.initialized cls :: vx_atS own ic cls names, vx_ot w = true)
    (hU : vx_Zq Bundle.tN "UNASSIGNED_STACK" Bundle.steD A s s.heap) (hN : vx_Zq Bundle.tN "SUPPRESSED_SENTINEL" Bundle.listD A s s.heap) (hS : va_S A s.heap H locs) (hsize : ls.size = c.maxLocals)
    (d0 : decode cc pc = .ok (.new ik, 3)) (d3 : decode cc (pc + 3) = .ok (.dup, 1)) (d4 : decode cc (pc + 4) = .ok (.ldc_w is, 3)) (d7 : decode cc (pc + 7) = .ok (.invokespecial ic, 3)) (d10 : decode cc (pc + 10) = .ok (.athrow, 1))
    (hout : ∀ x ∈ c.exceptionTable.toList, covers x (pc + 10) = false)
    (hRframes : names.length + 3 < R.frames) (hRlocals : (rest.map fun v => v.category).sum + (13 * (names.length + 1) + 43) ≤ R.locals) (hRcells : cells + 1 ≤ R.cells) (hRslots : slots + 6 ≤ R.slots) (hlocks : meth.locks = false)
    (hx : ∀ t : State, s.vm.Alike t.vm → H.size ≤ t.heap.size → (∀ q : Nat, q < H.size → t.heap[q]? = H[q]?) → XC cls s t)
    (hf : ∀ z ∈ locs, free z.base) (hc : cells + 1 ≤ mc) (hs : slots + 6 ≤ ms) :
    W p l e R s m args below meth c H locs cells slots (vx_MQ below Qc XC args s mc ms free) (F0 m pc ls rest) := by
  intro T hT X
  have htr : e.platform.stackTraces = false := (show e.platform.stackTraces = l.stackTraces by rw [X.admits.platform]).trans hl
  have Y := vx_rebase X (R' := { frames := R.frames, locals := R.locals, cells := 1, slots := 6 }) (Nat.le_refl _) (Nat.le_refl _) hRcells hRslots
  obtain ⟨s', hA⟩ : ∃ z, z = (T.setVm s.vm).setFrames (.invoking m args :: below) := ⟨_, rfl⟩
  rw [← hA] at Y
  have hvm : s'.vm = s.vm := by rw [hA]; rfl
  have hhp : s'.heap = H := by rw [hA]; exact hT
  have hW0 : s.WarmedH s'.vm := by rw [hvm]; exact State.WarmedH.refl s
  have hat' : ∀ w ∈ vx_atS own ic cls names, w.before args s' = true := fun w hw => vx_ot_at hW0 hvm.symm (hgood w (List.mem_cons_of_mem _ (List.mem_cons_of_mem _ hw))) (hat w hw)
  have hk' : (Cond.classLink own ik cls).before args s' = true := vx_ot_at hW0 hvm.symm (hgood _ List.mem_cons_self) hk
  have hini' : (Cond.initialized cls).before args s' = true := vx_ot_at hW0 hvm.symm (hgood _ (List.mem_cons_of_mem _ List.mem_cons_self)) hini
  have hU' : vx_Zq Bundle.tN "UNASSIGNED_STACK" Bundle.steD A s' s'.heap := by rw [hhp]; exact vx_Zq.moved hW0.alike (hU.kept hS.2.1)
  have hN' : vx_Zq Bundle.tN "SUPPRESSED_SENTINEL" Bundle.listD A s' s'.heap := by rw [hhp]; exact vx_Zq.moved hW0.alike (hN.kept hS.2.1)
  have h : ∀ w ∈ Bundle.ownAtoms own ic cls names, w.before args s' = true := vx_own hat' (vx_isRefq hU'.1) (vx_isRefq hN'.1) hU'.2.word hN'.2.word
  have hown' : s'.vm.findClass own = some m.cls := by rw [hvm]; exact hown
  have hins : (Cond.instantiable cls 6).before args s' = true := h _ (by simp [Bundle.ownAtoms])
  obtain ⟨vm₁, cX, kX, hfX, hkX, -, -, X₁, st1⟩ := Y.newCold hexec (own := own) (C := cls) (index := ik) (n := 6) hown' hk' hins hini'
    (g := F0 m pc ls rest) rfl (by rw [hb]; exact d0) (Nat.le_refl _) (Nat.le_refl _)
  generalize hT1 : (T.setVm vm₁).pushCell { cls := cX, slots := kX.instanceTypes.map defaultValue, vm := .none } = T1 at X₁ st1
  have hcat : (Value.ref T.heap.size).category = 1 := rfl
  have hcellA : T1.heap[T.heap.size]? = some (freshCell cX kX) := by rw [← hT1]; exact State.heap_pushCell_size _ _
  have d3' : decode c.code (pc + 3) = .ok (.dup, 1) := by rw [hb]; exact d3
  have d4' : decode c.code (pc + 4) = .ok (.ldc_w is, 3) := by rw [hb]; exact d4
  have hstr' : vk_R own is text sa s' := vk_R.warm hW0 hstr
  obtain ⟨U, hsteps, hrun, hend, hW, hsame, ce, hce, hO⟩ := X₁.ctorThrowS hexec htr (own := own) (cls := cls) (names := names) (ic := ic) hown' hcls hnames h (fun x hx => nomatch hx) hfX hkX hcellA (by rw [hhp, hT]; exact Nat.le_refl _) (msg := .ref sa) rfl
    (g := { method := m, pc := pc + 7, locals := ls, stack := .ref sa :: .ref T.heap.size :: .ref T.heap.size :: rest, locked := none }) rfl hsize rfl rfl (rest := rest) rfl
    (by rw [hb]; exact d7) (by rw [hb]; exact d10) hout hRframes (by simp only [List.map_cons, List.sum_cons, hcat]; omega) hlocks
  obtain ⟨f1, f2⟩ := vx_frame hsame
  rw [hhp] at f1 f2
  have hWs : s.WarmedH U.vm := State.WarmedH.trans hW0 hW
  have hcl : s.vm.findClass cls = some ce.cls := by
    have h9 := hO.cls
    rw [hvm] at h9
    exact h9
  have hall : s.sameButNew ({ U with vm := s.vm } : State) locs mc ms := by
    subst hA
    obtain ⟨e1, e2⟩ := hsame
    rw [State.setFrames_setFrames] at e1
    have h2 : (T.setVm s.vm).sameButNew ({ U with vm := s.vm } : State) [] (0 + 1) (0 + 6) := ⟨e1, e2⟩
    have h3 := X.same.trans h2
    rw [List.append_nil] at h3
    exact h3.mono hc hs
  refine ⟨U, ?_, .threw T.heap.size, hrun, hend, Or.inr ⟨T.heap.size, rfl, cls, ce, locs, hx U hWs.alike f1 (fun q hq => f2 q hq (fun z hz => nomatch hz)), hce, hO.vm, hcl, hWs, hall, hf⟩⟩
  refine st1 _ ?_
  show Steps p.tables e below (T1.setTop { method := m, pc := pc + 3, locals := ls, stack := .ref T.heap.size :: rest, locked := none }) _
  jvm_step X₁.here [X₁.here.top, hexec, d3', Value.category]
  exact X₁.ldcStringW hexec (own := own) (text := text) (index := is) (a := sa) hown' hstr'.1 hstr'.2
    (g := { method := m, pc := pc + 4, locals := ls, stack := .ref T.heap.size :: .ref T.heap.size :: rest, locked := none }) rfl d4' _ hsteps
end Ends
section Bodies
variable {l : Launch}
theorem vx_ofW {y : MethodName} {ws ws' : List Cond} {rm : Room} {Pc : Array Value → State → Prop} {Qc : Array Value → State → Outcome → State → Prop} {XC : String → State → State → Prop} {mc ms : Nat} {free : Addr → Prop} {cc : ByteArray} {maxL : Nat} {ret : Option FieldType}
    (hy : plainName y.cls = true) (hw : ws = Cond.code y cc maxL ret :: ws')
    (body : ∀ p e s m args below meth c s₁, BodyLoose p l y (headSpec ws rm) cc maxL ret e s m args below meth c s₁ → c.maxLocals = maxL → (∀ x ∈ c.exceptionTable.toList, False) → Pc args s →
      W p l e (headSpec ws rm).room s m args below meth c s.heap [] 0 0 (vx_MQ below Qc XC args s mc ms free) (entryFrame m args maxL)) : vx_Met l y ws rm Pc Qc XC mc ms free := by
  refine MetFree.of_bodyS (code := cc) (maxLocals := maxL) (ret := ret) hy ?_ ?_
  · intro args s m h hn
    obtain ⟨meth, c, h1, h2, h3, h4, h5, h6, -, -⟩ := Cond.code_spec hn (atoms_spec (ws := ws) h _ (by rw [hw]; exact List.mem_cons_self))
    exact ⟨meth, c, h1, h2, h3, h4, h5, h6⟩
  · intro p e s m args below meth c s₁ B hml hP _
    have hh0 : s₁.heap = s.heap := by rw [B.state]; rfl
    have ht : ∀ x ∈ c.exceptionTable.toList, False := by
      obtain ⟨meth9, c9, h1, h2, -, -, -, -, h7, -⟩ := Cond.code_spec B.named (atoms_spec (ws := ws) B.pre _ (by rw [hw]; exact List.mem_cons_self))
      cases Option.some.inj (h1.symm.trans B.method)
      cases Option.some.inj (h2.symm.trans (Stand.of_body B).code)
      intro x hx
      rw [Array.isEmpty_iff.mp h7] at hx
      cases hx
    obtain ⟨t, a1, o, b1, b2, b3⟩ := body p e s m args below meth c s₁ B hml ht hP s₁ hh0 (Stand.of_body B)
    exact ⟨t, o, a1, b1, b2, b3⟩
/-- the table of a body with handlers -/
theorem vx_table {p : Program} {x y : MethodName} {S : Spec} {cc bytes : ByteArray} {maxL maxL' : Nat} {ret ret' : Option FieldType} {e : Env} {s s₁ : State} {m : MethodId} {args : Array Value} {below : List Frame} {meth : Method} {c : Code} {hh : List (Nat × Nat × Nat × Nat)}
    (B : BodyLoose p l y S cc maxL ret e s m args below meth c s₁) (h : (Cond.codeWith y bytes maxL' ret' hh).before args s = true) : c.exceptionTable.toList = tableOf hh := by
  obtain ⟨m9, meth9, c9, hn9, h1, h2, -, -, h6, -⟩ := Cond.codeWith_spec h
  cases Option.some.inj (hn9.symm.trans B.named)
  cases Option.some.inj (h1.symm.trans B.method)
  cases Option.some.inj (h2.symm.trans (Stand.of_body B).code)
  rw [← h6, table_eq]
end Bodies
end VXA
/-! ===== END ===== -/
/-! ===== BEGIN a static call of a method with an exception table ===== -/
section VXS
variable {p : Program} {l : Launch} {e : Env} {R : Room} {s : State} {m : MethodId} {args : Array Value} {below : List Frame} {meth : Method} {c : Code} {T : State} {H : Heap} {locs : List Loc} {cells slots : Nat}
abbrev vx_CSW (R : Room) (s : State) (args : Array Value) (own : String) (index : Nat) (y : MethodName) (bytes : ByteArray) (maxL : Nat) (ret : Option FieldType) (hh : List (Nat × Nat × Nat × Nat)) (ws : List Cond) (rm : Room) (mc ms n : Nat) : Prop :=
  (rm.cells = mc ∧ rm.slots = ms ∧ rm.frames + 1 ≤ R.frames ∧ 8 + (maxL + 11) + rm.locals ≤ R.locals ∧ (∀ w ∈ ws, ∀ (a' : Array Value) (U : State), s.WarmedH U.vm → w.before a' U = true) ∧ Cond.codeWith y bytes maxL ret hh ∈ ws) ∧
  (Cond.codeWith y bytes maxL ret hh).before args s = true ∧ (Cond.initialized y.cls).before args s = true ∧ (y.cls ≠ "java/lang/invoke/MethodHandle" ∧ y.cls ≠ "java/lang/invoke/VarHandle") ∧
  (∀ sig, parseMethodDescriptor y.desc = some sig → n = sig.parameters.length) ∧ (Cond.methodLink own index y).before args s = true ∧ (Cond.static y).before args s = true
theorem vx_cwSW {own : String} {index maxL mc ms : Nat} {y : MethodName} {bytes : ByteArray} {ret : Option FieldType} {hh : List (Nat × Nat × Nat × Nat)} {Ts ws ws' : List Cond} {rm : Room} (n : Nat) (ht : ∀ w ∈ Ts, w.before args s = true) (hT : GoodIn Ts (va_wsS own index y ws)) (hw : ws = Cond.codeWith y bytes maxL ret hh :: ws') (hrc : rm.cells = mc) (hrs : rm.slots = ms)
    (hd : y.cls ≠ "java/lang/invoke/MethodHandle" ∧ y.cls ≠ "java/lang/invoke/VarHandle" ∧ (parseMethodDescriptor y.desc).map (fun d => d.parameters.length) = some n) (hR : rm.frames + 1 ≤ R.frames ∧ 8 + (maxL + 11) + rm.locals ≤ R.locals) :
    vx_CSW R s args own index y bytes maxL ret hh ws rm mc ms n := by
  have ok : ∀ w ∈ va_wsS own index y ws, w.before args s = true := fun w h => ht w (hT w h).1
  have hG : GoodIn Ts ws := fun w h => hT w (by unfold va_wsS; exact List.mem_append_right _ h)
  have hc : Cond.codeWith y bytes maxL ret hh ∈ ws := by rw [hw]; exact List.mem_cons_self
  refine ⟨⟨hrc, hrs, hR.1, hR.2, pay_in ht hG, hc⟩, ht _ (hG _ hc).1, ok _ (by simp [va_wsS]), ⟨hd.1, hd.2.1⟩, fun sig h => ?_, ok _ (by simp [va_wsS]), ok _ (by simp [va_wsS])⟩
  have h2 := hd.2.2
  rw [h] at h2
  exact (Option.some.inj h2).symm
theorem vx_callSW (X : Stand p l e R s m args below meth c T locs cells slots) (hexec : p.tables.exec = Jvm.exec) {own : String} {index : Nat} {y : MethodName} {bytes : ByteArray} {maxL : Nat} {ret : Option FieldType} {hh : List (Nat × Nat × Nat × Nat)}
    (hown : s.vm.findClass own = some m.cls) (hlink : (Cond.methodLink own index y).before args s = true) (hstat : (Cond.static y).before args s = true) (hinit : (Cond.initialized y.cls).before args s = true)
    (hcode : (Cond.codeWith y bytes maxL ret hh).before args s = true) (hy : y.cls ≠ "java/lang/invoke/MethodHandle" ∧ y.cls ≠ "java/lang/invoke/VarHandle")
    {W9 : Nat} {Pre : Pt → Array Value → Prop} {Post : Pt → Array Value → Option Value → Pt → Prop} (hK : Back l R p e below s args y 3 W9 Pre Post)
    {g : JFrame} (hg : g.method = m) (hsize : g.locals.size = c.maxLocals) {argsL rest : List Value} (hlen : ∀ sig, parseMethodDescriptor y.desc = some sig → argsL.length = sig.parameters.length)
    (hstack : g.stack = argsL.reverse ++ rest) (hW : 2 * g.monitorRoom + (rest.map fun v => v.category).sum ≤ W9) (hdg : decode c.code g.pc = .ok (.invokestatic index, 3))
    (hpre : ∀ vm₁, s.WarmedH vm₁ → Pre ⟨T.setVm vm₁, locs, cells, slots⟩ argsL.toArray) :
    ∃ (v : Option Value) (vm₁ : Vm) (B : Pt), s.WarmedH vm₁ ∧ Stand p l e R s m args below meth c B.U B.locs B.cells B.slots ∧ Post ⟨T.setVm vm₁, locs, cells, slots⟩ argsL.toArray v B ∧
      ∀ target, Steps p.tables e below (B.U.setTop { g with pc := g.pc + 3, stack := v.toList ++ rest }) target → Steps p.tables e below (T.setTop g) target := by
  obtain ⟨mk, methM, cM, hnamed, hmethM, -, -, -, -, -, -, hsigM⟩ := Cond.codeWith_spec hcode
  have hstatic : methM.isStatic = true := Cond.static_spec hnamed hmethM hstat
  obtain ⟨kP, hkP, -⟩ := className_of_methodNamed hnamed
  have hinitP : kP.init = .initialized := Cond.initialized_spec (findClass_of_methodNamed hnamed) hkP hinit
  obtain ⟨vm₁, X₁, hstep₁⟩ := X.invokestatic hexec hown hlink hnamed hmethM hstatic hkP hinitP hy (g := g) hg (argsL := argsL) (rest := rest) (hlen _ hsigM) hstack hdg
  obtain ⟨v, B, X', hpost, hsteps⟩ := hK m meth c ⟨T.setVm vm₁, locs, cells, slots⟩ { g with stack := rest } (.invokestatic index) mk argsL.toArray X₁ hg hsize hdg hW (X₁.named hnamed) (hpre vm₁ X₁.warmed)
  exact ⟨v, vm₁, B, X₁.warmed, X', hpost, fun target h => hstep₁ _ fun acts => by rw [doInvoke_state]; exact hsteps.trans h⟩
theorem vx_runSW {y : MethodName} {bytes cc : ByteArray} {maxL nL mc ms n index : Nat} {ret : Option FieldType} {hh : List (Nat × Nat × Nat × Nat)} {ws : List Cond} {rm : Room} {Pc : Array Value → State → Prop} {Qc : Array Value → State → Outcome → State → Prop} {free : Addr → Prop} {Ts : List Cond} {own : String} {As rest : List Value} {g : JFrame}
    (S : CallFix p m c cc nL s args Ts own) (hM : Met l y ws rm Pc Qc mc ms free) (cw : vx_CSW R s args own index y bytes maxL ret hh ws rm mc ms n) (hp : PreS s H Pc As)
    (hg : g.method = m) (hn : As.length = n) (hsize : g.locals.size = nL) (hstack : g.stack = As.reverse ++ rest) (hW : 2 * g.monitorRoom + (rest.map fun v => v.category).sum ≤ 8) (hdg : decode cc g.pc = .ok (.invokestatic index, 3)) (hf : cells + mc ≤ R.cells ∧ slots + ms ≤ R.slots) :
    va_Run p l e R s m args below meth c H locs cells slots mc ms g rest (Qc As.toArray) (free) := by
  obtain ⟨⟨hrc, hrs, hfr, hlo, hws, hcw⟩, hcode, hini, hy, hlen, hl, hstt⟩ := cw
  have hK : Back l R p e below s args y 3 8 (PreOf R mc ms Pc) (PostOf Qc mc ms free) := va_backW (hh := hh) (bytes := bytes) (maxL := maxL) (ret := ret) hM hp.1 hrc hrs hfr hlo hws hcw (fun a' U hW => word_at hW (Or.inl (by first | rfl | simp [Cond.onTables, Cond.keeps, Cond.steady])) hini)
  obtain ⟨hx, hb, hml, ho, -⟩ := S
  intro T hT X
  obtain ⟨v, vm₁, ⟨U', l2, c2, s2⟩, hW₁, X', ⟨g', mk, t, L, e1, e2, hq, h1, hL, h2, h3⟩, st⟩ := vx_callSW X hx (hh := hh) (bytes := bytes) (maxL := maxL) (ret := ret) ho hl hstt hini hcode hy hK hg (hsize.trans hml.symm) (argsL := As) (rest := rest) (fun sig h => hn.trans (hlen sig h)) hstack hW (by rw [hb]; exact hdg)
    (fun vm₁ hW₁ => ⟨hf.1, hf.2, hp.2 (T.setVm vm₁) hT hW₁⟩)
  dsimp only [Pt.U, Pt.locs, Pt.cells, Pt.slots] at X' e1 e2 h1 h2 h3 st
  subst h1; subst h2; subst h3
  exact ⟨v, (T.setVm vm₁).calling g' mk As.toArray, t, U', L, hT, X', hL, e1, e2, hq, st⟩
/-- not caught here, past rows that name other classes: it goes on to the caller -/
theorem vx_outP {p : Program} {l : Launch} {e : Env} {R : Room} {s : State} {m : MethodId} {args : Array Value} {below : List Frame} {meth : Method} {c : Code} {H : Heap} {locs : List Loc} {cells slots : Nat} {free : Addr → Prop} {ls : Array Slot} {rest : List Value} {Qc : Array Value → State → Outcome → State → Prop} {XC : String → State → State → Prop}
    {pc : Nat} {own E : String} {ce : Cell} {q : Addr} {mc ms : Nat} (hown : s.vm.findClass own = some m.cls) (hlocks : meth.locks = false)
    (hpass : ∀ z ∈ c.exceptionTable.toList, covers z pc = false ∨ (z.catchType ≠ 0 ∧ ∃ nm : String, (Cond.classLink own z.catchType nm).before args s = true ∧ va_Nc E nm s)) (hcell : H[q]? = some ce) (hv : ce.vm = .none) (hcl : s.vm.findClass E = some ce.cls)
    (hx : ∀ t : State, t.heap = H → s.vm.Alike t.vm → XC E s t) (hf : ∀ z ∈ locs, free z.base) (hc : cells ≤ mc) (hs : slots ≤ ms) :
    vx_W p l e R s m args below meth c H locs cells slots (vx_MQ below Qc XC args s mc ms free) (F0 m pc ls rest) q := by
  intro T hT X
  have hpl : e.platform.magicAccessors = ({} : Platform).magicAccessors := by rw [X.admits.platform]
  obtain ⟨vm', hW', X', st⟩ := X.outThrough hlocks q (g := F0 m pc ls rest) rfl rfl rfl (cell := ce) (by rw [hT]; exact hcell) (by rw [hv]; rfl)
    (by obtain ⟨k9, h9, -⟩ := Vm.findClass_spec hcl; exact ⟨k9, h9⟩) (fun z hz => by
      rcases hpass z hz with h | ⟨hz0, nm, hl1, hn1⟩
      · exact Or.inl h
      · obtain ⟨c6, hc6, hcl6⟩ := Cond.classLink_spec hown hl1 e.platform hpl
        obtain ⟨a8, b8, h1, h2, h3⟩ := hn1
        cases Option.some.inj (h1.symm.trans hcl)
        cases Option.some.inj (h2.symm.trans hc6)
        exact Or.inr ⟨hz0, _, hcl6, h3⟩)
  obtain ⟨g₀, hfr⟩ := X'.frames_eq
  have hcell9 : ((T.setVm vm').setFrames (.throwing q :: below)).heap[q]? = some ce := by
    show T.heap[q]? = some ce
    rw [hT]; exact hcell
  have hend : Ended ((T.setVm vm').setFrames (.throwing q :: below)) below (.threw q) := State.frames_setFrames _ (State.cur_lt_of_frames hfr)
  refine ⟨(T.setVm vm').setFrames (.throwing q :: below), ?_, .threw q, X'.here.running, hend, Or.inr ⟨q, rfl, E, ce, locs, hx _ hT (X'.ends _).1.alike, hcell9, hv, hcl, (X'.ends _).1, (X'.ends _).2.mono hc hs, hf⟩⟩
  rw [X.pushThrowing_eq]
  exact st
/-- a thing of a world lies in the heap -/
theorem vx_lt {D : va_G} {cl : List vw_C} {ws : va_W} {H1 : Heap} (h : va_P D cl ws H1) {k : Nat} {q : Nat × va_E} (hk : ws[k]? = some q) : q.1 < H1.size := (h k q hk).lt
end VXS
/-! ===== END ===== -/
/-! ===== BEGIN methods with a table of their own: called by a name, returning or throwing ===== -/
section VXH
/-! vx_backW, vx_callVX, vx_callSX, vx_callVW, vx_runVW, vx_runVX, vx_runSX, vx_ofWH follow the same proofs as their sisters above (Free/Laws.lean, Shelf42/LK1.lean); vx_outP calls Shelf42/NT130.lean (outThrough). -/
section
variable {l : Launch} {R : Room} {p : Program} {e : Env} {below : List Frame} {s : State} {sargs : Array Value} {y : MethodName} {len W9 : Nat}
theorem vx_backW {ws : List Cond} {rm : Room} {Pc : Array Value → State → Prop} {Qc : Array Value → State → Outcome → State → Prop} {XC : String → State → State → Prop} {mc ms : Nat} {free : Addr → Prop} {bytes : ByteArray} {maxL : Nat} {ret : Option FieldType} {hh : List (Nat × Nat × Nat × Nat)}
    (hM : vx_Met l y ws rm Pc Qc XC mc ms free) (hblind : FrameBlind Pc) (hrc : rm.cells = mc) (hrs : rm.slots = ms)
    (hframes : rm.frames + 1 ≤ R.frames) (hlocals : W9 + (maxL + 11) + rm.locals ≤ R.locals)
    (hws : ∀ w ∈ ws, ∀ a' U, s.WarmedH U.vm → w.before a' U = true) (hcode : Cond.codeWith y bytes maxL ret hh ∈ ws) (hinit : ∀ a' U, s.WarmedH U.vm → (Cond.initialized y.cls).before a' U = true) :
    vx_Back l R p e below s sargs y len W9 (PreOf R mc ms Pc) (PostOf Qc mc ms free) (vx_Post XC mc ms free) := by
  intro m meth c A g ig mk a X hg hsize hdg hW hn hp
  have h1 : (headSpec ws rm).pre.before a A.U = true := atoms_intro fun w hw => hws w hw _ _ X.warmed
  have h2 : (Cond.codeWith y bytes maxL ret hh).before a A.U = true := hws _ hcode _ _ X.warmed
  have h3 : (Cond.initialized y.cls).before a A.U = true := hinit _ _ X.warmed
  have h4 : A.cells + (headSpec ws rm).room.cells ≤ R.cells := by rw [show (headSpec ws rm).room.cells = mc from hrc]; exact hp.1
  have h5 : A.slots + (headSpec ws rm).room.slots ≤ R.slots := by rw [show (headSpec ws rm).room.slots = ms from hrs]; exact hp.2.1
  have hPc : Pc a (A.U.calling g mk a) := hblind _ _ _ _ hp.2.2
  obtain ⟨U, Ls, c0, s0⟩ := A
  dsimp only [Pt.U, Pt.locs, Pt.cells, Pt.slots] at h1 h2 h3 h4 h5 X hn hPc ⊢
  obtain ⟨m9, methY, cY, hn9, hmY, hcY, -, hlY, -⟩ := Cond.codeWith_spec h2
  cases Option.some.inj (hn9.symm.trans hn)
  obtain ⟨kY, hkY, -⟩ := className_of_methodNamed hn
  have hinitY : kY.init = .initialized := Cond.initialized_spec (findClass_of_methodNamed hn) hkY h3
  have h : At U g.method c below := by rw [hg]; exact X.here
  have hlocals9 : W9 + (maxL + 11) + (headSpec ws rm).room.locals ≤ R.locals := hlocals
  have happ : (headSpec ws rm).appliesLoose y e.platform (U.calling g mk a) = true :=
    Spec.appliesLoose_calling (g := g) h hdg hn hkY hinitY
      (X.room_calling (g := g) (R' := (headSpec ws rm).room) hsize hmY hcY hframes (by rw [hlY]; omega) h4 h5) h1
  obtain ⟨mid, hmid⟩ := h.above
  have hfr : (U.setTop g).frames = (.java g :: mid) ++ below := by rw [State.frames_setTop' g h.top, hmid]; rfl
  obtain ⟨o, s₂, hsteps, -, hend, hq⟩ := Steps.callFree hM p X.admits X.cas X.clock (acts := []) hfr happ hPc trivial
  have hq' : vx_Q Qc XC mc ms free a (U.calling g mk a) o s₂ := hq
  rw [State.frames_setTop' g h.top] at hend
  obtain ⟨g₀, hg0⟩ := Option.isSome_iff_exists.mp h.top
  obtain ⟨r, hr⟩ := State.topJava?_eq_some.mp hg0
  have hr' : (({ U with heap := s₂.heap, slotsUsed := s₂.slotsUsed } : State).setVm s₂.vm).frames = .java g₀ :: r := hr
  rcases hq' with ⟨hqc, L, hfe, hL⟩ | ⟨q, rfl, E, ce, L, hx, hce, hcv, hcl, hW₂, hsm, hL⟩
  · obtain ⟨⟨v, rfl⟩, hW₂, e2, q2, q3, q4, q5, q6⟩ := id hfe
    have e3 : s₂ = ({ (U.calling g mk a).setFrames s₂.frames with heap := s₂.heap, slotsUsed := s₂.slotsUsed } : State).setVm s₂.vm := by
      have : s₂ = ({ s₂ with vm := (U.calling g mk a).vm } : State).setVm s₂.vm := rfl
      rw [e2] at this
      exact this
    obtain ⟨c₂, i₂, len₂, hc₂, hd₂, hf₂⟩ := hend
    have hW' : U.WarmedH s₂.vm := hW₂
    have hcc : c₂ = c := by
      have h1 : s₂.code? g.method = U.code? g.method := by
        rw [State.code?_eq, State.code?_eq, hW'.alike.method?]
      exact Option.some.inj (hc₂.symm.trans (h1.trans h.code))
    subst hcc
    have hlen : len₂ = len := by rw [hdg] at hd₂; cases hd₂; rfl
    subst hlen
    have hs₂ : s₂ = (({ U with heap := s₂.heap, slotsUsed := s₂.slotsUsed } : State).setVm s₂.vm).setTop { g with pc := g.pc + len₂, stack := v.toList ++ g.stack } := by
      refine e3.trans ?_
      rw [hf₂, State.calling_eq h.top, State.setFrames_setFrames, State.setTop_of_frames _ hr', hr]
      rfl
    have hsame : U.sameButNew ({ U with heap := s₂.heap, slotsUsed := s₂.slotsUsed } : State) L mc ms := by
      refine ⟨?_, q2, q3, q4, q5, q6⟩
      obtain ⟨t, ht, -⟩ := State.frames_cons hr
      show ({ U with heap := s₂.heap, slotsUsed := s₂.slotsUsed } : State) = { U.setFrames U.frames with heap := s₂.heap, slotsUsed := s₂.slotsUsed }
      rw [State.setFrames_self ht]
    subst hg
    refine Or.inl ⟨v, ⟨(({ U with heap := s₂.heap, slotsUsed := s₂.slotsUsed } : State).setVm s₂.vm), Ls ++ L, c0 + mc, s0 + ms⟩,
      ⟨X.admits, X.cas, X.clock, X.frames, X.room, X.hears, X.method, X.code, (X.here.setHeapUsed s₂.heap s₂.slotsUsed).setVm hW'.alike, X.tail, State.WarmedH.trans X.warmed hW', X.limits, X.bytes, X.same.trans (hsame.setVm s.vm)⟩,
      ⟨g, mk, s₂, L, rfl, rfl, hqc, rfl, hL, rfl, rfl⟩, ?_⟩
    show Steps p.tables e below _ ((({ U with heap := s₂.heap, slotsUsed := s₂.slotsUsed } : State).setVm s₂.vm).setTop { g with pc := g.pc + len₂, stack := v.toList ++ g.stack })
    rw [← hs₂]
    exact hsteps
  · obtain ⟨e2, q2, q3, q4, q5, q6⟩ := id hsm
    have e3 : s₂ = ({ (U.calling g mk a).setFrames s₂.frames with heap := s₂.heap, slotsUsed := s₂.slotsUsed } : State).setVm s₂.vm := by
      have : s₂ = ({ s₂ with vm := (U.calling g mk a).vm } : State).setVm s₂.vm := rfl
      rw [e2] at this
      exact this
    have hf₂ : s₂.frames = .throwing q :: .java g :: U.frames.tail := hend
    have hW' : U.WarmedH s₂.vm := hW₂
    have hs₂ : s₂ = ((({ U with heap := s₂.heap, slotsUsed := s₂.slotsUsed } : State).setVm s₂.vm).setTop g).pushFrame (.throwing q) := by
      refine e3.trans ?_
      rw [hf₂, State.calling_eq h.top, State.setFrames_setFrames, State.pushFrame, State.frames_setTop _ hr', State.setTop_of_frames _ hr', State.setFrames_setFrames, hr]
      rfl
    have hsame : U.sameButNew ({ U with heap := s₂.heap, slotsUsed := s₂.slotsUsed } : State) L mc ms := by
      refine ⟨?_, q2, q3, q4, q5, q6⟩
      obtain ⟨t, ht, -⟩ := State.frames_cons hr
      show ({ U with heap := s₂.heap, slotsUsed := s₂.slotsUsed } : State) = { U.setFrames U.frames with heap := s₂.heap, slotsUsed := s₂.slotsUsed }
      rw [State.setFrames_self ht]
    subst hg
    refine Or.inr ⟨q, ⟨(({ U with heap := s₂.heap, slotsUsed := s₂.slotsUsed } : State).setVm s₂.vm), Ls ++ L, c0 + mc, s0 + ms⟩,
      ⟨X.admits, X.cas, X.clock, X.frames, X.room, X.hears, X.method, X.code, (X.here.setHeapUsed s₂.heap s₂.slotsUsed).setVm hW'.alike, X.tail, State.WarmedH.trans X.warmed hW', X.limits, X.bytes, X.same.trans (hsame.setVm s.vm)⟩,
      ⟨g, mk, s₂, L, E, ce, rfl, rfl, hx, hce, hcv, hcl, rfl, hL, rfl, rfl⟩, ?_⟩
    show Steps p.tables e below _ (((({ U with heap := s₂.heap, slotsUsed := s₂.slotsUsed } : State).setVm s₂.vm).setTop g).pushFrame (.throwing q))
    rw [← hs₂]
    exact hsteps
end
variable {p : Program} {l : Launch} {e : Env} {R : Room} {s : State} {m : MethodId} {args : Array Value} {below : List Frame} {meth : Method} {c : Code} {T : State} {H : Heap} {locs : List Loc} {cells slots : Nat}
theorem vx_callVX (X : Stand p l e R s m args below meth c T locs cells slots) (hexec : p.tables.exec = Jvm.exec) {own C : String} {index : Nat} {y : MethodName} {bytes : ByteArray} {maxL : Nat} {ret : Option FieldType} {hh : List (Nat × Nat × Nat × Nat)}
    (hown : s.vm.findClass own = some m.cls) (hlink : (Cond.methodLink own index y).before args s = true) (hinst : (Cond.instanceMethod y).before args s = true) (hsel : (Cond.selects C y y).before args s = true)
    (hcode : (Cond.codeWith y bytes maxL ret hh).before args s = true) (hy : y.cls ≠ "java/lang/invoke/MethodHandle" ∧ y.cls ≠ "java/lang/invoke/VarHandle")
    {W9 : Nat} {Pre : Pt → Array Value → Prop} {Post : Pt → Array Value → Option Value → Pt → Prop} {PostX : Pt → Array Value → Addr → Pt → Prop} (hK : vx_Back l R p e below s args y 3 W9 Pre Post PostX)
    {b : Addr} {cellB : Cell} (hcell : T.heap[b]? = some cellB) (hobj : cellB.vm.isStatics = false) (hcls : s.vm.findClass C = some cellB.cls)
    {g : JFrame} (hg : g.method = m) (hsize : g.locals.size = c.maxLocals) {argsL rest : List Value} (hlen : ∀ sig, parseMethodDescriptor y.desc = some sig → argsL.length = sig.parameters.length)
    (hstack : g.stack = argsL.reverse ++ .ref b :: rest) (hW : 2 * g.monitorRoom + (rest.map fun v => v.category).sum ≤ W9) (hdg : decode c.code g.pc = .ok (.invokevirtual index, 3))
    (hpre : ∀ vm₁, s.WarmedH vm₁ → Pre ⟨T.setVm vm₁, locs, cells, slots⟩ (Value.ref b :: argsL).toArray) :
    (∃ (v : Option Value) (vm₁ : Vm) (B : Pt), s.WarmedH vm₁ ∧ Stand p l e R s m args below meth c B.U B.locs B.cells B.slots ∧ Post ⟨T.setVm vm₁, locs, cells, slots⟩ (Value.ref b :: argsL).toArray v B ∧
      ∀ target, Steps p.tables e below (B.U.setTop { g with pc := g.pc + 3, stack := v.toList ++ rest }) target → Steps p.tables e below (T.setTop g) target) ∨
    (∃ (q : Addr) (vm₁ : Vm) (B : Pt), s.WarmedH vm₁ ∧ Stand p l e R s m args below meth c B.U B.locs B.cells B.slots ∧ PostX ⟨T.setVm vm₁, locs, cells, slots⟩ (Value.ref b :: argsL).toArray q B ∧
      Steps p.tables e below (T.setTop g) ((B.U.setTop { g with stack := rest }).pushFrame (.throwing q))) := by
  obtain ⟨mk, methM, hnamed, hmethM, hstM, habM⟩ := Cond.instanceMethod_spec hinst
  obtain ⟨m8, methM', cM, hn8, hmethM', -, -, -, -, -, -, hsigM⟩ := Cond.codeWith_spec hcode
  cases Option.some.inj (hn8.symm.trans hnamed)
  cases hmethM.symm.trans hmethM'
  obtain ⟨c2, r2, m2, q1, q2, q3, q4, kP, hkP, hkPi⟩ := Cond.selects_spec hsel
  cases hcls.symm.trans q1
  cases (State.methodFound?_of_named hnamed hy).symm.trans q2
  cases hnamed.symm.trans q3
  have hselP : selectMethod e.platform s.vm cellB.cls mk = .method mk := by rw [Launch.admits_selectMethod X.admits]; exact q4
  obtain ⟨vm₁, X₁, hstep₁⟩ := X.invokevirtual hexec hown hlink hnamed hmethM hstM hkP hkPi hy (a := b) (cell := cellB) hcell
    (fun z h => by rw [h] at hobj; cases hobj) hselP hmethM habM hkP hkPi (g := g) hg (argsL := argsL) (rest := rest) (hlen _ hsigM) hstack hdg
  rcases hK m meth c ⟨T.setVm vm₁, locs, cells, slots⟩ { g with stack := rest } (.invokevirtual index) mk (Value.ref b :: argsL).toArray X₁ hg hsize hdg hW (X₁.named hnamed) (hpre vm₁ X₁.warmed) with ⟨v, B, X', hpost, hsteps⟩ | ⟨q, B, X', hpost, hsteps⟩
  · exact Or.inl ⟨v, vm₁, B, X₁.warmed, X', hpost, fun target h => hstep₁ _ fun acts => by rw [doInvoke_state]; exact hsteps.trans h⟩
  · exact Or.inr ⟨q, vm₁, B, X₁.warmed, X', hpost, hstep₁ _ fun acts => by rw [doInvoke_state]; exact hsteps⟩
theorem vx_callSX (X : Stand p l e R s m args below meth c T locs cells slots) (hexec : p.tables.exec = Jvm.exec) {own : String} {index : Nat} {y : MethodName} {bytes : ByteArray} {maxL : Nat} {ret : Option FieldType} {hh : List (Nat × Nat × Nat × Nat)}
    (hown : s.vm.findClass own = some m.cls) (hlink : (Cond.methodLink own index y).before args s = true) (hstat : (Cond.static y).before args s = true) (hinit : (Cond.initialized y.cls).before args s = true)
    (hcode : (Cond.codeWith y bytes maxL ret hh).before args s = true) (hy : y.cls ≠ "java/lang/invoke/MethodHandle" ∧ y.cls ≠ "java/lang/invoke/VarHandle")
    {W9 : Nat} {Pre : Pt → Array Value → Prop} {Post : Pt → Array Value → Option Value → Pt → Prop} {PostX : Pt → Array Value → Addr → Pt → Prop} (hK : vx_Back l R p e below s args y 3 W9 Pre Post PostX)
    {g : JFrame} (hg : g.method = m) (hsize : g.locals.size = c.maxLocals) {argsL rest : List Value} (hlen : ∀ sig, parseMethodDescriptor y.desc = some sig → argsL.length = sig.parameters.length)
    (hstack : g.stack = argsL.reverse ++ rest) (hW : 2 * g.monitorRoom + (rest.map fun v => v.category).sum ≤ W9) (hdg : decode c.code g.pc = .ok (.invokestatic index, 3))
    (hpre : ∀ vm₁, s.WarmedH vm₁ → Pre ⟨T.setVm vm₁, locs, cells, slots⟩ argsL.toArray) :
    (∃ (v : Option Value) (vm₁ : Vm) (B : Pt), s.WarmedH vm₁ ∧ Stand p l e R s m args below meth c B.U B.locs B.cells B.slots ∧ Post ⟨T.setVm vm₁, locs, cells, slots⟩ argsL.toArray v B ∧
      ∀ target, Steps p.tables e below (B.U.setTop { g with pc := g.pc + 3, stack := v.toList ++ rest }) target → Steps p.tables e below (T.setTop g) target) ∨
    (∃ (q : Addr) (vm₁ : Vm) (B : Pt), s.WarmedH vm₁ ∧ Stand p l e R s m args below meth c B.U B.locs B.cells B.slots ∧ PostX ⟨T.setVm vm₁, locs, cells, slots⟩ argsL.toArray q B ∧
      Steps p.tables e below (T.setTop g) ((B.U.setTop { g with stack := rest }).pushFrame (.throwing q))) := by
  obtain ⟨mk, methM, cM, hnamed, hmethM, -, -, -, -, -, -, hsigM⟩ := Cond.codeWith_spec hcode
  have hstatic : methM.isStatic = true := Cond.static_spec hnamed hmethM hstat
  obtain ⟨kP, hkP, -⟩ := className_of_methodNamed hnamed
  have hinitP : kP.init = .initialized := Cond.initialized_spec (findClass_of_methodNamed hnamed) hkP hinit
  obtain ⟨vm₁, X₁, hstep₁⟩ := X.invokestatic hexec hown hlink hnamed hmethM hstatic hkP hinitP hy (g := g) hg (argsL := argsL) (rest := rest) (hlen _ hsigM) hstack hdg
  rcases hK m meth c ⟨T.setVm vm₁, locs, cells, slots⟩ { g with stack := rest } (.invokestatic index) mk argsL.toArray X₁ hg hsize hdg hW (X₁.named hnamed) (hpre vm₁ X₁.warmed) with ⟨v, B, X', hpost, hsteps⟩ | ⟨q, B, X', hpost, hsteps⟩
  · exact Or.inl ⟨v, vm₁, B, X₁.warmed, X', hpost, fun target h => hstep₁ _ fun acts => by rw [doInvoke_state]; exact hsteps.trans h⟩
  · exact Or.inr ⟨q, vm₁, B, X₁.warmed, X', hpost, hstep₁ _ fun acts => by rw [doInvoke_state]; exact hsteps⟩
theorem vx_callVW (X : Stand p l e R s m args below meth c T locs cells slots) (hexec : p.tables.exec = Jvm.exec) {own C : String} {index : Nat} {y : MethodName} {bytes : ByteArray} {maxL : Nat} {ret : Option FieldType} {hh : List (Nat × Nat × Nat × Nat)}
    (hown : s.vm.findClass own = some m.cls) (hlink : (Cond.methodLink own index y).before args s = true) (hinst : (Cond.instanceMethod y).before args s = true) (hsel : (Cond.selects C y y).before args s = true)
    (hcode : (Cond.codeWith y bytes maxL ret hh).before args s = true) (hy : y.cls ≠ "java/lang/invoke/MethodHandle" ∧ y.cls ≠ "java/lang/invoke/VarHandle")
    {W9 : Nat} {Pre : Pt → Array Value → Prop} {Post : Pt → Array Value → Option Value → Pt → Prop} (hK : Back l R p e below s args y 3 W9 Pre Post)
    {b : Addr} {cellB : Cell} (hcell : T.heap[b]? = some cellB) (hobj : cellB.vm.isStatics = false) (hcls : s.vm.findClass C = some cellB.cls)
    {g : JFrame} (hg : g.method = m) (hsize : g.locals.size = c.maxLocals) {argsL rest : List Value} (hlen : ∀ sig, parseMethodDescriptor y.desc = some sig → argsL.length = sig.parameters.length)
    (hstack : g.stack = argsL.reverse ++ .ref b :: rest) (hW : 2 * g.monitorRoom + (rest.map fun v => v.category).sum ≤ W9) (hdg : decode c.code g.pc = .ok (.invokevirtual index, 3))
    (hpre : ∀ vm₁, s.WarmedH vm₁ → Pre ⟨T.setVm vm₁, locs, cells, slots⟩ (Value.ref b :: argsL).toArray) :
    ∃ (v : Option Value) (vm₁ : Vm) (B : Pt), s.WarmedH vm₁ ∧ Stand p l e R s m args below meth c B.U B.locs B.cells B.slots ∧ Post ⟨T.setVm vm₁, locs, cells, slots⟩ (Value.ref b :: argsL).toArray v B ∧
      ∀ target, Steps p.tables e below (B.U.setTop { g with pc := g.pc + 3, stack := v.toList ++ rest }) target → Steps p.tables e below (T.setTop g) target := by
  obtain ⟨mk, methM, hnamed, hmethM, hstM, habM⟩ := Cond.instanceMethod_spec hinst
  obtain ⟨m8, methM', cM, hn8, hmethM', -, -, -, -, -, -, hsigM⟩ := Cond.codeWith_spec hcode
  cases Option.some.inj (hn8.symm.trans hnamed)
  cases hmethM.symm.trans hmethM'
  obtain ⟨c2, r2, m2, q1, q2, q3, q4, kP, hkP, hkPi⟩ := Cond.selects_spec hsel
  cases hcls.symm.trans q1
  cases (State.methodFound?_of_named hnamed hy).symm.trans q2
  cases hnamed.symm.trans q3
  have hselP : selectMethod e.platform s.vm cellB.cls mk = .method mk := by rw [Launch.admits_selectMethod X.admits]; exact q4
  obtain ⟨vm₁, X₁, hstep₁⟩ := X.invokevirtual hexec hown hlink hnamed hmethM hstM hkP hkPi hy (a := b) (cell := cellB) hcell
    (fun z h => by rw [h] at hobj; cases hobj) hselP hmethM habM hkP hkPi (g := g) hg (argsL := argsL) (rest := rest) (hlen _ hsigM) hstack hdg
  obtain ⟨v, B, X', hpost, hsteps⟩ := hK m meth c ⟨T.setVm vm₁, locs, cells, slots⟩ { g with stack := rest } (.invokevirtual index) mk (Value.ref b :: argsL).toArray X₁ hg hsize hdg hW (X₁.named hnamed) (hpre vm₁ X₁.warmed)
  exact ⟨v, vm₁, B, X₁.warmed, X', hpost, fun target h => hstep₁ _ fun acts => by rw [doInvoke_state]; exact hsteps.trans h⟩
abbrev vx_CVW (R : Room) (s : State) (args : Array Value) (own C : String) (index : Nat) (y : MethodName) (bytes : ByteArray) (maxL : Nat) (ret : Option FieldType) (hh : List (Nat × Nat × Nat × Nat)) (ws : List Cond) (rm : Room) (mc ms n : Nat) : Prop :=
  (rm.cells = mc ∧ rm.slots = ms ∧ rm.frames + 1 ≤ R.frames ∧ 8 + (maxL + 11) + rm.locals ≤ R.locals ∧ (∀ w ∈ ws, ∀ (a' : Array Value) (U : State), s.WarmedH U.vm → w.before a' U = true) ∧ Cond.codeWith y bytes maxL ret hh ∈ ws) ∧
  (Cond.codeWith y bytes maxL ret hh).before args s = true ∧ (Cond.initialized y.cls).before args s = true ∧ (y.cls ≠ "java/lang/invoke/MethodHandle" ∧ y.cls ≠ "java/lang/invoke/VarHandle") ∧
  (∀ sig, parseMethodDescriptor y.desc = some sig → n = sig.parameters.length) ∧ (Cond.methodLink own index y).before args s = true ∧ (Cond.instanceMethod y).before args s = true ∧ (Cond.selects C y y).before args s = true
theorem vx_cwVW {own C : String} {index maxL mc ms : Nat} {y : MethodName} {bytes : ByteArray} {ret : Option FieldType} {hh : List (Nat × Nat × Nat × Nat)} {Ts ws ws' : List Cond} {rm : Room} (n : Nat) (ht : ∀ w ∈ Ts, w.before args s = true) (hT : GoodIn Ts (wsV own index C y ws)) (hw : ws = Cond.codeWith y bytes maxL ret hh :: ws') (hrc : rm.cells = mc) (hrs : rm.slots = ms)
    (hd : y.cls = C ∧ y.cls ≠ "java/lang/invoke/MethodHandle" ∧ y.cls ≠ "java/lang/invoke/VarHandle" ∧ (parseMethodDescriptor y.desc).map (fun d => d.parameters.length) = some n) (hR : rm.frames + 1 ≤ R.frames ∧ 8 + (maxL + 11) + rm.locals ≤ R.locals) :
    vx_CVW R s args own C index y bytes maxL ret hh ws rm mc ms n := by
  obtain ⟨hC, hd⟩ := hd
  subst hC
  have ok : ∀ w ∈ wsV own index y.cls y ws, w.before args s = true := fun w h => ht w (hT w h).1
  have hG : GoodIn Ts ws := fun w h => hT w (by unfold wsV; exact List.mem_append_right _ h)
  have hc : Cond.codeWith y bytes maxL ret hh ∈ ws := by rw [hw]; exact List.mem_cons_self
  refine ⟨⟨hrc, hrs, hR.1, hR.2, pay_in ht hG, hc⟩, ht _ (hG _ hc).1, ok _ (by simp [wsV]), ⟨hd.1, hd.2.1⟩, fun sig h => ?_, ok _ (by simp [wsV]), ok _ (by simp [wsV]), ok _ (by simp [wsV])⟩
  have h2 := hd.2.2
  rw [h] at h2
  exact (Option.some.inj h2).symm
theorem vx_runVW {y : MethodName} {bytes cc : ByteArray} {maxL nL mc ms n index : Nat} {ret : Option FieldType} {hh : List (Nat × Nat × Nat × Nat)} {ws : List Cond} {rm : Room} {Pc : Array Value → State → Prop} {Qc : Array Value → State → Outcome → State → Prop} {free : Addr → Prop} {Ts : List Cond} {own C : String} {b : Addr} {As rest : List Value} {g : JFrame}
    (S : CallFix p m c cc nL s args Ts own) (hM : Met l y ws rm Pc Qc mc ms free) (cw : vx_CVW R s args own C index y bytes maxL ret hh ws rm mc ms n) (hp : PreV s H C b Pc As)
    (hg : g.method = m) (hn : As.length = n) (hsize : g.locals.size = nL) (hstack : g.stack = As.reverse ++ .ref b :: rest) (hW : 2 * g.monitorRoom + (rest.map fun v => v.category).sum ≤ 8) (hdg : decode cc g.pc = .ok (.invokevirtual index, 3)) (hf : cells + mc ≤ R.cells ∧ slots + ms ≤ R.slots) :
    va_Run p l e R s m args below meth c H locs cells slots mc ms g rest (Qc (Value.ref b :: As).toArray) free := by
  obtain ⟨⟨hrc, hrs, hfr, hlo, hws, hcw⟩, hcode, hini, hy, hlen, hl, hin, hse⟩ := cw
  have hK : Back l R p e below s args y 3 8 (PreOf R mc ms Pc) (PostOf Qc mc ms free) := va_backW (hh := hh) (bytes := bytes) (maxL := maxL) (ret := ret) hM hp.1 hrc hrs hfr hlo hws hcw (fun a' U hW => word_at hW (Or.inl (by first | rfl | simp [Cond.onTables, Cond.keeps, Cond.steady])) hini)
  obtain ⟨hx, hb, hml, ho, -⟩ := S
  obtain ⟨-, ⟨cellB, hcB, hoB, hclB⟩, hPc⟩ := hp
  intro T hT X
  obtain ⟨v, vm₁, ⟨U', l2, c2, s2⟩, hW₁, X', ⟨g', mk, t, L, e1, e2, hq, h1, hL, h2, h3⟩, st⟩ := vx_callVW X hx (C := C) (hh := hh) (bytes := bytes) (maxL := maxL) (ret := ret) ho hl hin hse hcode hy hK (by rw [hT]; exact hcB) hoB hclB hg (hsize.trans hml.symm) (argsL := As) (rest := rest) (fun sig h => hn.trans (hlen sig h)) hstack hW (by rw [hb]; exact hdg)
    (fun vm₁ hW₁ => ⟨hf.1, hf.2, hPc (T.setVm vm₁) hT hW₁⟩)
  dsimp only [Pt.U, Pt.locs, Pt.cells, Pt.slots] at X' e1 e2 h1 h2 h3 st
  subst h1; subst h2; subst h3
  exact ⟨v, (T.setVm vm₁).calling g' mk (Value.ref b :: As).toArray, t, U', L, hT, X', hL, e1, e2, hq, st⟩
section
variable {y : MethodName} {bytes cc : ByteArray} {maxL nL mc ms n index : Nat} {ret : Option FieldType} {ws : List Cond} {rm : Room} {Pc : Array Value → State → Prop} {Qc : Array Value → State → Outcome → State → Prop} {XC : String → State → State → Prop} {free : Addr → Prop} {Ts : List Cond} {own C : String} {b : Addr} {As rest : List Value} {g : JFrame}
theorem vx_runVX {hh : List (Nat × Nat × Nat × Nat)} (S : CallFix p m c cc nL s args Ts own) (hM : vx_Met l y ws rm Pc Qc XC mc ms free) (cw : vx_CVW R s args own C index y bytes maxL ret hh ws rm mc ms n) (hp : PreV s H C b Pc As)
    (hg : g.method = m) (hn : As.length = n) (hsize : g.locals.size = nL) (hstack : g.stack = As.reverse ++ .ref b :: rest) (hW : 2 * g.monitorRoom + (rest.map fun v => v.category).sum ≤ 8) (hdg : decode cc g.pc = .ok (.invokevirtual index, 3)) (hf : cells + mc ≤ R.cells ∧ slots + ms ≤ R.slots) :
    vx_Run p l e R s m args below meth c H locs cells slots mc ms g rest (Qc (Value.ref b :: As).toArray) XC free := by
  obtain ⟨⟨hrc, hrs, hfr, hlo, hws, hcw⟩, hcode, hini, hy, hlen, hl, hin, hse⟩ := cw
  have hK : vx_Back l R p e below s args y 3 8 (PreOf R mc ms Pc) (PostOf Qc mc ms free) (vx_Post XC mc ms free) := vx_backW (hh := hh) (bytes := bytes) (maxL := maxL) (ret := ret) hM hp.1 hrc hrs hfr hlo hws hcw (fun a' U hW => word_at hW (Or.inl (by first | rfl | simp [Cond.onTables, Cond.keeps, Cond.steady])) hini)
  obtain ⟨hx, hb, hml, ho, -⟩ := S
  obtain ⟨-, ⟨cellB, hcB, hoB, hclB⟩, hPc⟩ := hp
  intro T hT X
  rcases vx_callVX X hx (C := C) (hh := hh) (bytes := bytes) (maxL := maxL) (ret := ret) ho hl hin hse hcode hy hK (by rw [hT]; exact hcB) hoB hclB hg (hsize.trans hml.symm) (argsL := As) (rest := rest) (fun sig h => hn.trans (hlen sig h)) hstack hW (by rw [hb]; exact hdg)
    (fun vm₁ hW₁ => ⟨hf.1, hf.2, hPc (T.setVm vm₁) hT hW₁⟩) with ⟨v, vm₁, ⟨U', l2, c2, s2⟩, hW₁, X', ⟨g', mk, t, L, e1, e2, hq, h1, hL, h2, h3⟩, st⟩ | ⟨q, vm₁, ⟨U', l2, c2, s2⟩, hW₁, X', ⟨g', mk, t, L, E, ce, e1, e2, hq, hce, hcv, hcl, h1, hL, h2, h3⟩, st⟩
  · dsimp only [Pt.U, Pt.locs, Pt.cells, Pt.slots] at X' e1 e2 h1 h2 h3 st
    subst h1; subst h2; subst h3
    exact Or.inl ⟨v, (T.setVm vm₁).calling g' mk (Value.ref b :: As).toArray, t, U', L, hT, X', hL, e1, e2, hq, st⟩
  · dsimp only [Pt.U, Pt.locs, Pt.cells, Pt.slots] at X' e1 e2 h1 h2 h3 st hcl
    subst h1; subst h2; subst h3
    exact Or.inr ⟨q, (T.setVm vm₁).calling g' mk (Value.ref b :: As).toArray, t, U', L, E, ce, hT, X', hL, e1, e2, hq, hce, hcv, vx_cls hW₁ hcl, st⟩
theorem vx_runSX {hh : List (Nat × Nat × Nat × Nat)} (S : CallFix p m c cc nL s args Ts own) (hM : vx_Met l y ws rm Pc Qc XC mc ms free) (cw : vx_CSW R s args own index y bytes maxL ret hh ws rm mc ms n) (hp : PreS s H Pc As)
    (hg : g.method = m) (hn : As.length = n) (hsize : g.locals.size = nL) (hstack : g.stack = As.reverse ++ rest) (hW : 2 * g.monitorRoom + (rest.map fun v => v.category).sum ≤ 8) (hdg : decode cc g.pc = .ok (.invokestatic index, 3)) (hf : cells + mc ≤ R.cells ∧ slots + ms ≤ R.slots) :
    vx_Run p l e R s m args below meth c H locs cells slots mc ms g rest (Qc As.toArray) XC free := by
  obtain ⟨⟨hrc, hrs, hfr, hlo, hws, hcw⟩, hcode, hini, hy, hlen, hl, hstt⟩ := cw
  have hK : vx_Back l R p e below s args y 3 8 (PreOf R mc ms Pc) (PostOf Qc mc ms free) (vx_Post XC mc ms free) := vx_backW (hh := hh) (bytes := bytes) (maxL := maxL) (ret := ret) hM hp.1 hrc hrs hfr hlo hws hcw (fun a' U hW => word_at hW (Or.inl (by first | rfl | simp [Cond.onTables, Cond.keeps, Cond.steady])) hini)
  obtain ⟨hx, hb, hml, ho, -⟩ := S
  intro T hT X
  rcases vx_callSX X hx (hh := hh) (bytes := bytes) (maxL := maxL) (ret := ret) ho hl hstt hini hcode hy hK hg (hsize.trans hml.symm) (argsL := As) (rest := rest) (fun sig h => hn.trans (hlen sig h)) hstack hW (by rw [hb]; exact hdg)
    (fun vm₁ hW₁ => ⟨hf.1, hf.2, hp.2 (T.setVm vm₁) hT hW₁⟩) with ⟨v, vm₁, ⟨U', l2, c2, s2⟩, hW₁, X', ⟨g', mk, t, L, e1, e2, hq, h1, hL, h2, h3⟩, st⟩ | ⟨q, vm₁, ⟨U', l2, c2, s2⟩, hW₁, X', ⟨g', mk, t, L, E, ce, e1, e2, hq, hce, hcv, hcl, h1, hL, h2, h3⟩, st⟩
  · dsimp only [Pt.U, Pt.locs, Pt.cells, Pt.slots] at X' e1 e2 h1 h2 h3 st
    subst h1; subst h2; subst h3
    exact Or.inl ⟨v, (T.setVm vm₁).calling g' mk As.toArray, t, U', L, hT, X', hL, e1, e2, hq, st⟩
  · dsimp only [Pt.U, Pt.locs, Pt.cells, Pt.slots] at X' e1 e2 h1 h2 h3 st hcl
    subst h1; subst h2; subst h3
    exact Or.inr ⟨q, (T.setVm vm₁).calling g' mk As.toArray, t, U', L, E, ce, hT, X', hL, e1, e2, hq, hce, hcv, vx_cls hW₁ hcl, st⟩
end
end VXH
theorem vx_ofWH {l : Launch} {y : MethodName} {ws ws' : List Cond} {rm : Room} {Pc : Array Value → State → Prop} {Qc : Array Value → State → Outcome → State → Prop} {XC : String → State → State → Prop} {mc ms : Nat} {free : Addr → Prop} {cc : ByteArray} {maxL : Nat} {ret : Option FieldType} {hh : List (Nat × Nat × Nat × Nat)}
    (hy : plainName y.cls = true) (hw : ws = Cond.codeWith y cc maxL ret hh :: ws')
    (body : ∀ p e s m args below meth c s₁, BodyLoose p l y (headSpec ws rm) cc maxL ret e s m args below meth c s₁ → c.maxLocals = maxL → Pc args s →
      W p l e (headSpec ws rm).room s m args below meth c s.heap [] 0 0 (vx_MQ below Qc XC args s mc ms free) (entryFrame m args maxL)) : vx_Met l y ws rm Pc Qc XC mc ms free := by
  refine MetFree.of_bodyS (code := cc) (maxLocals := maxL) (ret := ret) hy ?_ ?_
  · intro args s m h hn
    obtain ⟨m9, meth, c, hn9, h1, h2, h3, h4, -, h5, h6, -⟩ := Cond.codeWith_spec (atoms_spec (ws := ws) h _ (by rw [hw]; exact List.mem_cons_self))
    cases hn.symm.trans hn9
    exact ⟨meth, c, h1, h2, h3, h4, h5, h6⟩
  · intro p e s m args below meth c s₁ B hml hP _
    have hh0 : s₁.heap = s.heap := by rw [B.state]; rfl
    obtain ⟨t, a1, o, b1, b2, b3⟩ := body p e s m args below meth c s₁ B hml hP s₁ hh0 (Stand.of_body B)
    exact ⟨t, o, a1, b1, b2, b3⟩
/-! ===== END ===== -/
end
section
/-! ===== BEGIN printed: names, fields, word lists, decode rows ===== -/
def RX0 : String := "CamDrum$Air"
def TX0 : u_T := fun k => match k with
  | 0 => ("CamDrum$Air", "tank", "I", false)
  | 1 => ("CamDrum$Air", "capacity", "I", false)
  | 2 => ("CamDrum$Air", "compressor", "I", false)
  | 3 => ("CamDrum$Air", "made", "I", false)
  | 4 => ("CamDrum$Air", "letOff", "I", false)
  | 5 => ("CamDrum$Air", "used", "I", false)
  | _ => ("CamDrum$Air", "leaked", "I", false)
def tyX0 : Nat → FieldType := fun k => match k with
  | 0 => .int
  | 1 => .int
  | 2 => .int
  | 3 => .int
  | 4 => .int
  | 5 => .int
  | _ => .int
abbrev wsX00 : List Cond := u_ws RX0 TX0 7
theorem nmX0 : ∀ a, a < 7 → ∀ b, b < 7 → a ≠ b → (TX0 a).2.1 ≠ (TX0 b).2.1 := by decide +kernel
theorem tyX0_ok : ∀ k, k < 7 → parseFieldDescriptor (TX0 k).2.2.1 = some (tyX0 k) := by decide +kernel
abbrev cX0_init : ByteArray := prog_2_method_1_code
def yX0_init : MethodName := ⟨RX0, "<init>", "()V"⟩
abbrev cX0_copyFrom : ByteArray := prog_2_method_2_code
def yX0_copyFrom : MethodName := ⟨RX0, "copyFrom", "(LCamDrum$Air;)V"⟩
abbrev cX0_compress : ByteArray := prog_2_method_3_code
def yX0_compress : MethodName := ⟨RX0, "compress", "()V"⟩
abbrev cX0_letOffSurplus : ByteArray := prog_2_method_4_code
def yX0_letOffSurplus : MethodName := ⟨RX0, "letOffSurplus", "()V"⟩
abbrev cX0_enoughToMove : ByteArray := prog_2_method_5_code
def yX0_enoughToMove : MethodName := ⟨RX0, "enoughToMove", "(I)I"⟩
abbrev cX0_use : ByteArray := prog_2_method_6_code
def yX0_use : MethodName := ⟨RX0, "use", "(I)V"⟩
abbrev cX0_leakOut : ByteArray := prog_2_method_7_code
def yX0_leakOut : MethodName := ⟨RX0, "leakOut", "(I)I"⟩
def RX1 : String := "CamDrum$Chart"
def TX1 : u_T := fun k => match k with
  | 0 => ("CamDrum$Chart", "out", "[I", true)
  | _ => ("CamDrum$Chart", "skipped", "[I", true)
def tyX1 : Nat → FieldType := fun k => match k with
  | 0 => .array .int
  | _ => .array .int
abbrev wsX10 : List Cond := u_ws RX1 TX1 2
theorem nmX1 : ∀ a, a < 2 → ∀ b, b < 2 → a ≠ b → (TX1 a).2.1 ≠ (TX1 b).2.1 := by decide +kernel
theorem tyX1_ok : ∀ k, k < 2 → parseFieldDescriptor (TX1 k).2.2.1 = some (tyX1 k) := by decide +kernel
abbrev cX1_init : ByteArray := prog_3_method_1_code
def yX1_init : MethodName := ⟨RX1, "<init>", "()V"⟩
abbrev cX1_copyFrom : ByteArray := prog_3_method_2_code
def yX1_copyFrom : MethodName := ⟨RX1, "copyFrom", "(LCamDrum$Chart;)V"⟩
abbrev cX1_forget : ByteArray := prog_3_method_3_code
def yX1_forget : MethodName := ⟨RX1, "forget", "()V"⟩
abbrev cX1_outAt : ByteArray := prog_3_method_4_code
def yX1_outAt : MethodName := ⟨RX1, "outAt", "(II)I"⟩
abbrev cX1_note : ByteArray := prog_3_method_5_code
def yX1_note : MethodName := ⟨RX1, "note", "(III)V"⟩
abbrev cX1_skipsAt : ByteArray := prog_3_method_6_code
def yX1_skipsAt : MethodName := ⟨RX1, "skipsAt", "(I)I"⟩
abbrev cX1_countSkip : ByteArray := prog_3_method_7_code
def yX1_countSkip : MethodName := ⟨RX1, "countSkip", "(I)V"⟩
def RX2 : String := "CamDrum$Cylinders"
def TX2 : u_T := fun k => match k with
  | 0 => ("CamDrum$Cylinders", "out", "[I", true)
  | 1 => ("CamDrum$Cylinders", "size", "[I", true)
  | 2 => ("CamDrum$Cylinders", "speed", "[I", true)
  | 3 => ("CamDrum$Cylinders", "leak", "[I", true)
  | 4 => ("CamDrum$Cylinders", "used", "[I", true)
  | _ => ("CamDrum$Cylinders", "leaked", "[I", true)
def tyX2 : Nat → FieldType := fun k => match k with
  | 0 => .array .int
  | 1 => .array .int
  | 2 => .array .int
  | 3 => .array .int
  | 4 => .array .int
  | _ => .array .int
abbrev wsX20 : List Cond := u_ws RX2 TX2 6
theorem nmX2 : ∀ a, a < 6 → ∀ b, b < 6 → a ≠ b → (TX2 a).2.1 ≠ (TX2 b).2.1 := by decide +kernel
theorem tyX2_ok : ∀ k, k < 6 → parseFieldDescriptor (TX2 k).2.2.1 = some (tyX2 k) := by decide +kernel
abbrev cX2_init : ByteArray := prog_4_method_1_code
def yX2_init : MethodName := ⟨RX2, "<init>", "()V"⟩
abbrev cX2_copyFrom : ByteArray := prog_4_method_2_code
def yX2_copyFrom : MethodName := ⟨RX2, "copyFrom", "(LCamDrum$Cylinders;)V"⟩
def RX3 : String := "CamDrum$Guards"
def TX3 : u_T := fun k => match k with
  | 0 => ("CamDrum$Guards", "guarded", "[I", true)
  | 1 => ("CamDrum$Guards", "other", "[I", true)
  | 2 => ("CamDrum$Guards", "bound", "[I", true)
  | _ => ("CamDrum$Guards", "count", "I", false)
def tyX3 : Nat → FieldType := fun k => match k with
  | 0 => .array .int
  | 1 => .array .int
  | 2 => .array .int
  | _ => .int
abbrev wsX30 : List Cond := u_ws RX3 TX3 4
theorem nmX3 : ∀ a, a < 4 → ∀ b, b < 4 → a ≠ b → (TX3 a).2.1 ≠ (TX3 b).2.1 := by decide +kernel
theorem tyX3_ok : ∀ k, k < 4 → parseFieldDescriptor (TX3 k).2.2.1 = some (tyX3 k) := by decide +kernel
abbrev cX3_init : ByteArray := prog_5_method_1_code
def yX3_init : MethodName := ⟨RX3, "<init>", "()V"⟩
abbrev cX3_copyFrom : ByteArray := prog_5_method_2_code
def yX3_copyFrom : MethodName := ⟨RX3, "copyFrom", "(LCamDrum$Guards;)V"⟩
abbrev cX3_putLast : ByteArray := prog_5_method_3_code
def yX3_putLast : MethodName := ⟨RX3, "putLast", "(III)I"⟩
abbrev cX3_takeOut : ByteArray := prog_5_method_4_code
def yX3_takeOut : MethodName := ⟨RX3, "takeOut", "(I)V"⟩
def RX4 : String := "CamDrum$History"
def TX4 : u_T := fun k => match k with
  | 0 => ("CamDrum$History", "kept", "[LCamDrum$Machine;", true)
  | 1 => ("CamDrum$History", "newest", "I", false)
  | _ => ("CamDrum$History", "count", "I", false)
def tyX4 : Nat → FieldType := fun k => match k with
  | 0 => .array (.object "CamDrum$Machine")
  | 1 => .int
  | _ => .int
abbrev wsX40 : List Cond := u_ws RX4 TX4 3
theorem nmX4 : ∀ a, a < 3 → ∀ b, b < 3 → a ≠ b → (TX4 a).2.1 ≠ (TX4 b).2.1 := by decide +kernel
theorem tyX4_ok : ∀ k, k < 3 → parseFieldDescriptor (TX4 k).2.2.1 = some (tyX4 k) := by decide +kernel
abbrev cX4_init : ByteArray := prog_6_method_1_code
def yX4_init : MethodName := ⟨RX4, "<init>", "()V"⟩
abbrev cX4_save : ByteArray := prog_6_method_2_code
def yX4_save : MethodName := ⟨RX4, "save", "(LCamDrum$Machine;)V"⟩
abbrev cX4_restore : ByteArray := prog_6_method_3_code
def yX4_restore : MethodName := ⟨RX4, "restore", "(LCamDrum$Machine;)V"⟩
abbrev cX4_newestPlace : ByteArray := prog_6_method_4_code
def yX4_newestPlace : MethodName := ⟨RX4, "newestPlace", "()LCamDrum$Machine;"⟩
def RX5 : String := "CamDrum$Machine"
def TX5 : u_T := fun k => match k with
  | 0 => ("CamDrum$Machine", "steps", "I", false)
  | 1 => ("CamDrum$Machine", "step", "I", false)
  | 2 => ("CamDrum$Machine", "stand", "I", false)
  | 3 => ("CamDrum$Machine", "dwell", "I", false)
  | 4 => ("CamDrum$Machine", "least", "I", false)
  | 5 => ("CamDrum$Machine", "ticks", "I", false)
  | 6 => ("CamDrum$Machine", "cycles", "I", false)
  | 7 => ("CamDrum$Machine", "skipped", "I", false)
  | 8 => ("CamDrum$Machine", "tracks", "[I", true)
  | 9 => ("CamDrum$Machine", "air", "LCamDrum$Air;", true)
  | 10 => ("CamDrum$Machine", "cylinders", "LCamDrum$Cylinders;", true)
  | 11 => ("CamDrum$Machine", "guards", "LCamDrum$Guards;", true)
  | _ => ("CamDrum$Machine", "chart", "LCamDrum$Chart;", true)
def tyX5 : Nat → FieldType := fun k => match k with
  | 0 => .int
  | 1 => .int
  | 2 => .int
  | 3 => .int
  | 4 => .int
  | 5 => .int
  | 6 => .int
  | 7 => .int
  | 8 => .array .int
  | 9 => .object "CamDrum$Air"
  | 10 => .object "CamDrum$Cylinders"
  | 11 => .object "CamDrum$Guards"
  | _ => .object "CamDrum$Chart"
abbrev wsX50 : List Cond := u_ws RX5 TX5 13
theorem nmX5 : ∀ a, a < 13 → ∀ b, b < 13 → a ≠ b → (TX5 a).2.1 ≠ (TX5 b).2.1 := by decide +kernel
theorem tyX5_ok : ∀ k, k < 13 → parseFieldDescriptor (TX5 k).2.2.1 = some (tyX5 k) := by decide +kernel
abbrev cX5_init : ByteArray := prog_7_method_1_code
def yX5_init : MethodName := ⟨RX5, "<init>", "()V"⟩
abbrev cX5_copyFrom : ByteArray := prog_7_method_2_code
def yX5_copyFrom : MethodName := ⟨RX5, "copyFrom", "(LCamDrum$Machine;)V"⟩
abbrev cX5_hasCam : ByteArray := prog_7_method_3_code
def yX5_hasCam : MethodName := ⟨RX5, "hasCam", "(II)Z"⟩
abbrev cX5_putCam : ByteArray := prog_7_method_4_code
def yX5_putCam : MethodName := ⟨RX5, "putCam", "(IIZ)V"⟩
abbrev cX5_camsOf : ByteArray := prog_7_method_5_code
def yX5_camsOf : MethodName := ⟨RX5, "camsOf", "(I)I"⟩
abbrev cX5_standAt : ByteArray := prog_7_method_6_code
def yX5_standAt : MethodName := ⟨RX5, "standAt", "(I)V"⟩
abbrev cX5_takeTracks : ByteArray := prog_7_method_7_code
def yX5_takeTracks : MethodName := ⟨RX5, "takeTracks", "(LCamDrum$TrackText;)V"⟩
abbrev cX5_tick : ByteArray := prog_7_method_8_code
def yX5_tick : MethodName := ⟨RX5, "tick", "()I"⟩
abbrev cX5_moveDrum : ByteArray := prog_7_method_9_code
def yX5_moveDrum : MethodName := ⟨RX5, "moveDrum", "()I"⟩
abbrev cX5_moveOut : ByteArray := prog_7_method_10_code
def yX5_moveOut : MethodName := ⟨RX5, "moveOut", "(I)V"⟩
abbrev cX5_moveIn : ByteArray := prog_7_method_11_code
def yX5_moveIn : MethodName := ⟨RX5, "moveIn", "(I)V"⟩
abbrev cX5_leakAt : ByteArray := prog_7_method_12_code
def yX5_leakAt : MethodName := ⟨RX5, "leakAt", "(I)V"⟩
abbrev cX5_roomByGuards : ByteArray := prog_7_method_13_code
def yX5_roomByGuards : MethodName := ⟨RX5, "roomByGuards", "(I)I"⟩
abbrev cX5_holds : ByteArray := prog_7_method_14_code
def yX5_holds : MethodName := ⟨RX5, "holds", "(I)Z"⟩
abbrev cX5_tickUntilCycleEnds : ByteArray := prog_7_method_15_code
def yX5_tickUntilCycleEnds : MethodName := ⟨RX5, "tickUntilCycleEnds", "(I)I"⟩
abbrev cX5_allDueAreOut : ByteArray := prog_7_method_16_code
def yX5_allDueAreOut : MethodName := ⟨RX5, "allDueAreOut", "()Z"⟩
abbrev cX5_standsAs : ByteArray := prog_7_method_17_code
def yX5_standsAs : MethodName := ⟨RX5, "standsAs", "(LCamDrum$Machine;)Z"⟩
abbrev cX5_number : ByteArray := prog_7_method_18_code
def yX5_number : MethodName := ⟨RX5, "number", "(I)I"⟩
abbrev cX5_cylinderNumber : ByteArray := prog_7_method_19_code
def yX5_cylinderNumber : MethodName := ⟨RX5, "cylinderNumber", "(II)I"⟩
abbrev cX5_guardNumber : ByteArray := prog_7_method_20_code
def yX5_guardNumber : MethodName := ⟨RX5, "guardNumber", "(II)I"⟩
def RX6 : String := "CamDrum$TrackText"
def TX6 : u_T := fun k => match k with
  | 0 => ("CamDrum$TrackText", "bytes", "[I", true)
  | 1 => ("CamDrum$TrackText", "length", "I", false)
  | 2 => ("CamDrum$TrackText", "tracks", "[I", true)
  | 3 => ("CamDrum$TrackText", "steps", "I", false)
  | 4 => ("CamDrum$TrackText", "fault", "I", false)
  | _ => ("CamDrum$TrackText", "at", "I", false)
def tyX6 : Nat → FieldType := fun k => match k with
  | 0 => .array .int
  | 1 => .int
  | 2 => .array .int
  | 3 => .int
  | 4 => .int
  | _ => .int
abbrev wsX60 : List Cond := u_ws RX6 TX6 6
theorem nmX6 : ∀ a, a < 6 → ∀ b, b < 6 → a ≠ b → (TX6 a).2.1 ≠ (TX6 b).2.1 := by decide +kernel
theorem tyX6_ok : ∀ k, k < 6 → parseFieldDescriptor (TX6 k).2.2.1 = some (tyX6 k) := by decide +kernel
abbrev cX6_init : ByteArray := prog_8_method_1_code
def yX6_init : MethodName := ⟨RX6, "<init>", "()V"⟩
abbrev cX6_read : ByteArray := prog_8_method_2_code
def yX6_read : MethodName := ⟨RX6, "read", "(I)V"⟩
abbrev cX6_putLast : ByteArray := prog_8_method_3_code
def yX6_putLast : MethodName := ⟨RX6, "putLast", "(I)V"⟩
abbrev cX6_byteAt : ByteArray := prog_8_method_4_code
def yX6_byteAt : MethodName := ⟨RX6, "byteAt", "(I)I"⟩
abbrev cX6_isDigitAt : ByteArray := prog_8_method_5_code
def yX6_isDigitAt : MethodName := ⟨RX6, "isDigitAt", "(I)Z"⟩
abbrev cX6_readSteps : ByteArray := prog_8_method_6_code
def yX6_readSteps : MethodName := ⟨RX6, "readSteps", "()V"⟩
abbrev cX6_readTrack : ByteArray := prog_8_method_7_code
def yX6_readTrack : MethodName := ⟨RX6, "readTrack", "()V"⟩
abbrev cX6_passSign : ByteArray := prog_8_method_8_code
def yX6_passSign : MethodName := ⟨RX6, "passSign", "(I)V"⟩
def RX7 : String := "CamDrum"
def TX7 : u_T := fun k => match k with
  | 0 => ("CamDrum", "now", "LCamDrum$Machine;", true)
  | 1 => ("CamDrum", "history", "LCamDrum$History;", true)
  | 2 => ("CamDrum", "text", "LCamDrum$TrackText;", true)
  | 3 => ("CamDrum", "trial", "LCamDrum$Machine;", true)
  | _ => ("CamDrum", "earlier", "LCamDrum$Machine;", true)
def tyX7 : Nat → FieldType := fun k => match k with
  | 0 => .object "CamDrum$Machine"
  | 1 => .object "CamDrum$History"
  | 2 => .object "CamDrum$TrackText"
  | 3 => .object "CamDrum$Machine"
  | _ => .object "CamDrum$Machine"
abbrev wsX70 : List Cond := u_ws RX7 TX7 5
theorem nmX7 : ∀ a, a < 5 → ∀ b, b < 5 → a ≠ b → (TX7 a).2.1 ≠ (TX7 b).2.1 := by decide +kernel
theorem tyX7_ok : ∀ k, k < 5 → parseFieldDescriptor (TX7 k).2.2.1 = some (tyX7 k) := by decide +kernel
abbrev cX7_init : ByteArray := prog_1_method_1_code
def yX7_init : MethodName := ⟨RX7, "<init>", "()V"⟩
abbrev cX7_setCam : ByteArray := prog_1_method_2_code
def yX7_setCam : MethodName := ⟨RX7, "setCam", "(IIZ)I"⟩
abbrev cX7_setPawl : ByteArray := prog_1_method_3_code
def yX7_setPawl : MethodName := ⟨RX7, "setPawl", "(II)I"⟩
abbrev cX7_setCylinder : ByteArray := prog_1_method_4_code
def yX7_setCylinder : MethodName := ⟨RX7, "setCylinder", "(IIII)I"⟩
abbrev cX7_setAir : ByteArray := prog_1_method_5_code
def yX7_setAir : MethodName := ⟨RX7, "setAir", "(II)I"⟩
abbrev cX7_addGuard : ByteArray := prog_1_method_6_code
def yX7_addGuard : MethodName := ⟨RX7, "addGuard", "(III)I"⟩
abbrev cX7_removeGuard : ByteArray := prog_1_method_7_code
def yX7_removeGuard : MethodName := ⟨RX7, "removeGuard", "(I)I"⟩
abbrev cX7_turn : ByteArray := prog_1_method_8_code
def yX7_turn : MethodName := ⟨RX7, "turn", "(I)I"⟩
abbrev cX7_run : ByteArray := prog_1_method_9_code
def yX7_run : MethodName := ⟨RX7, "run", "(I)I"⟩
abbrev cX7_cam : ByteArray := prog_1_method_10_code
def yX7_cam : MethodName := ⟨RX7, "cam", "(II)Z"⟩
abbrev cX7_cylinder : ByteArray := prog_1_method_11_code
def yX7_cylinder : MethodName := ⟨RX7, "cylinder", "(II)I"⟩
abbrev cX7_guard : ByteArray := prog_1_method_12_code
def yX7_guard : MethodName := ⟨RX7, "guard", "(II)I"⟩
abbrev cX7_value : ByteArray := prog_1_method_13_code
def yX7_value : MethodName := ⟨RX7, "value", "(I)I"⟩
abbrev cX7_chart : ByteArray := prog_1_method_14_code
def yX7_chart : MethodName := ⟨RX7, "chart", "(II)I"⟩
abbrev cX7_skips : ByteArray := prog_1_method_15_code
def yX7_skips : MethodName := ⟨RX7, "skips", "(I)I"⟩
abbrev cX7_ticksToOut : ByteArray := prog_1_method_16_code
def yX7_ticksToOut : MethodName := ⟨RX7, "ticksToOut", "(I)I"⟩
abbrev cX7_ticksToCycle : ByteArray := prog_1_method_17_code
def yX7_ticksToCycle : MethodName := ⟨RX7, "ticksToCycle", "()I"⟩
abbrev cX7_leastCompressor : ByteArray := prog_1_method_18_code
def yX7_leastCompressor : MethodName := ⟨RX7, "leastCompressor", "(I)I"⟩
abbrev cX7_shortestDwell : ByteArray := prog_1_method_19_code
def yX7_shortestDwell : MethodName := ⟨RX7, "shortestDwell", "()I"⟩
abbrev cX7_repeats : ByteArray := prog_1_method_20_code
def yX7_repeats : MethodName := ⟨RX7, "repeats", "()Z"⟩
abbrev cX7_useful : ByteArray := prog_1_method_21_code
def yX7_useful : MethodName := ⟨RX7, "useful", "()D"⟩
abbrev cX7_append : ByteArray := prog_1_method_22_code
def yX7_append : MethodName := ⟨RX7, "append", "(I)I"⟩
abbrev cX7_clearText : ByteArray := prog_1_method_23_code
def yX7_clearText : MethodName := ⟨RX7, "clearText", "()I"⟩
abbrev cX7_parse : ByteArray := prog_1_method_24_code
def yX7_parse : MethodName := ⟨RX7, "parse", "()I"⟩
abbrev cX7_undo : ByteArray := prog_1_method_25_code
def yX7_undo : MethodName := ⟨RX7, "undo", "()I"⟩
abbrev cX7_digest : ByteArray := prog_1_method_26_code
def yX7_digest : MethodName := ⟨RX7, "digest", "()J"⟩
abbrev cX7_within : ByteArray := prog_1_method_27_code
def yX7_within : MethodName := ⟨RX7, "within", "(III)Z"⟩
abbrev cX7_requireCylinder : ByteArray := prog_1_method_28_code
def yX7_requireCylinder : MethodName := ⟨RX7, "requireCylinder", "(I)V"⟩
abbrev cX7_requireStep : ByteArray := prog_1_method_29_code
def yX7_requireStep : MethodName := ⟨RX7, "requireStep", "(I)V"⟩
abbrev cX7_requireGuard : ByteArray := prog_1_method_30_code
def yX7_requireGuard : MethodName := ⟨RX7, "requireGuard", "(I)V"⟩
abbrev cX7_requireWhat : ByteArray := prog_1_method_31_code
def yX7_requireWhat : MethodName := ⟨RX7, "requireWhat", "(II)V"⟩
abbrev cX7_goesWithoutSkip : ByteArray := prog_1_method_32_code
def yX7_goesWithoutSkip : MethodName := ⟨RX7, "goesWithoutSkip", "(II)Z"⟩
abbrev cX7_dwellSuffices : ByteArray := prog_1_method_33_code
def yX7_dwellSuffices : MethodName := ⟨RX7, "dwellSuffices", "(I)Z"⟩
abbrev cX7_hashWith : ByteArray := prog_1_method_34_code
def yX7_hashWith : MethodName := ⟨RX7, "hashWith", "(JI)J"⟩
abbrev cX7_hashWithCylinders : ByteArray := prog_1_method_35_code
def yX7_hashWithCylinders : MethodName := ⟨RX7, "hashWithCylinders", "(J)J"⟩
abbrev cX7_hashWithGuards : ByteArray := prog_1_method_36_code
def yX7_hashWithGuards : MethodName := ⟨RX7, "hashWithGuards", "(J)J"⟩
abbrev cX7_hashWithSteps : ByteArray := prog_1_method_37_code
def yX7_hashWithSteps : MethodName := ⟨RX7, "hashWithSteps", "(J)J"⟩
abbrev cX7_copyRow : ByteArray := prog_1_method_38_code
def yX7_copyRow : MethodName := ⟨RX7, "copyRow", "([I[I)V"⟩
def RX8 : String := "CamDrumModel"
def TX8 : u_T := fun k => match k with
  | 0 => ("CamDrumModel", "all", "[I", true)
  | 1 => ("CamDrumModel", "saved", "[I", true)
  | 2 => ("CamDrumModel", "aside", "[I", true)
  | 3 => ("CamDrumModel", "savedMany", "I", false)
  | 4 => ("CamDrumModel", "threw", "I", false)
  | 5 => ("CamDrumModel", "wentOn", "Z", false)
  | 6 => ("CamDrumModel", "wereOut", "Z", false)
  | 7 => ("CamDrumModel", "first", "[I", true)
  | 8 => ("CamDrumModel", "text", "[I", true)
  | 9 => ("CamDrumModel", "textLong", "I", false)
  | 10 => ("CamDrumModel", "place", "I", false)
  | 11 => ("CamDrumModel", "told", "[I", true)
  | _ => ("CamDrumModel", "toldSteps", "I", false)
def tyX8 : Nat → FieldType := fun k => match k with
  | 0 => .array .int
  | 1 => .array .int
  | 2 => .array .int
  | 3 => .int
  | 4 => .int
  | 5 => .boolean
  | 6 => .boolean
  | 7 => .array .int
  | 8 => .array .int
  | 9 => .int
  | 10 => .int
  | 11 => .array .int
  | _ => .int
abbrev wsX80 : List Cond := u_ws RX8 TX8 13
theorem nmX8 : ∀ a, a < 13 → ∀ b, b < 13 → a ≠ b → (TX8 a).2.1 ≠ (TX8 b).2.1 := by decide +kernel
theorem tyX8_ok : ∀ k, k < 13 → parseFieldDescriptor (TX8 k).2.2.1 = some (tyX8 k) := by decide +kernel
abbrev cX8_init : ByteArray := prog_10_method_1_code
def yX8_init : MethodName := ⟨RX8, "<init>", "()V"⟩
abbrev cX8_thrown : ByteArray := prog_10_method_2_code
def yX8_thrown : MethodName := ⟨RX8, "thrown", "()I"⟩
abbrev cX8_in : ByteArray := prog_10_method_3_code
def yX8_in : MethodName := ⟨RX8, "in", "(JJJ)Z"⟩
abbrev cX8_fine : ByteArray := prog_10_method_4_code
def yX8_fine : MethodName := ⟨RX8, "fine", "(I)I"⟩
abbrev cX8_throwing : ByteArray := prog_10_method_5_code
def yX8_throwing : MethodName := ⟨RX8, "throwing", "(I)I"⟩
abbrev cX8_save : ByteArray := prog_10_method_6_code
def yX8_save : MethodName := ⟨RX8, "save", "()V"⟩
abbrev cX8_laysAside : ByteArray := prog_10_method_7_code
def yX8_laysAside : MethodName := ⟨RX8, "laysAside", "()V"⟩
abbrev cX8_takesBack : ByteArray := prog_10_method_8_code
def yX8_takesBack : MethodName := ⟨RX8, "takesBack", "()V"⟩
abbrev cX8_empties : ByteArray := prog_10_method_9_code
def yX8_empties : MethodName := ⟨RX8, "empties", "()V"⟩
abbrev cX8_isCylinder : ByteArray := prog_10_method_10_code
def yX8_isCylinder : MethodName := ⟨RX8, "isCylinder", "(I)Z"⟩
abbrev cX8_isStep : ByteArray := prog_10_method_11_code
def yX8_isStep : MethodName := ⟨RX8, "isStep", "(I)Z"⟩
abbrev cX8_isGuard : ByteArray := prog_10_method_12_code
def yX8_isGuard : MethodName := ⟨RX8, "isGuard", "(I)Z"⟩
abbrev cX8_out : ByteArray := prog_10_method_13_code
def yX8_out : MethodName := ⟨RX8, "out", "(I)I"⟩
abbrev cX8_hasCam : ByteArray := prog_10_method_14_code
def yX8_hasCam : MethodName := ⟨RX8, "hasCam", "(II)Z"⟩
abbrev cX8_camsOf : ByteArray := prog_10_method_15_code
def yX8_camsOf : MethodName := ⟨RX8, "camsOf", "(I)I"⟩
abbrev cX8_setCam : ByteArray := prog_10_method_16_code
def yX8_setCam : MethodName := ⟨RX8, "setCam", "(IIZ)I"⟩
abbrev cX8_setPawl : ByteArray := prog_10_method_17_code
def yX8_setPawl : MethodName := ⟨RX8, "setPawl", "(II)I"⟩
abbrev cX8_setCylinder : ByteArray := prog_10_method_18_code
def yX8_setCylinder : MethodName := ⟨RX8, "setCylinder", "(IIII)I"⟩
abbrev cX8_letsOff : ByteArray := prog_10_method_19_code
def yX8_letsOff : MethodName := ⟨RX8, "letsOff", "()V"⟩
abbrev cX8_setAir : ByteArray := prog_10_method_20_code
def yX8_setAir : MethodName := ⟨RX8, "setAir", "(II)I"⟩
abbrev cX8_addGuard : ByteArray := prog_10_method_21_code
def yX8_addGuard : MethodName := ⟨RX8, "addGuard", "(III)I"⟩
abbrev cX8_removeGuard : ByteArray := prog_10_method_22_code
def yX8_removeGuard : MethodName := ⟨RX8, "removeGuard", "(I)I"⟩
abbrev cX8_turn : ByteArray := prog_10_method_23_code
def yX8_turn : MethodName := ⟨RX8, "turn", "(I)I"⟩
abbrev cX8_holds : ByteArray := prog_10_method_24_code
def yX8_holds : MethodName := ⟨RX8, "holds", "(I)Z"⟩
abbrev cX8_mayMove : ByteArray := prog_10_method_25_code
def yX8_mayMove : MethodName := ⟨RX8, "mayMove", "(I)I"⟩
abbrev cX8_moves : ByteArray := prog_10_method_26_code
def yX8_moves : MethodName := ⟨RX8, "moves", "(I)V"⟩
abbrev cX8_leaks : ByteArray := prog_10_method_27_code
def yX8_leaks : MethodName := ⟨RX8, "leaks", "(I)V"⟩
abbrev cX8_areOut : ByteArray := prog_10_method_28_code
def yX8_areOut : MethodName := ⟨RX8, "areOut", "()Z"⟩
abbrev cX8_tick : ByteArray := prog_10_method_29_code
def yX8_tick : MethodName := ⟨RX8, "tick", "()V"⟩
abbrev cX8_run : ByteArray := prog_10_method_30_code
def yX8_run : MethodName := ⟨RX8, "run", "(I)I"⟩
abbrev cX8_cam : ByteArray := prog_10_method_31_code
def yX8_cam : MethodName := ⟨RX8, "cam", "(II)Z"⟩
abbrev cX8_cylinderOf : ByteArray := prog_10_method_32_code
def yX8_cylinderOf : MethodName := ⟨RX8, "cylinderOf", "(II)I"⟩
abbrev cX8_cylinder : ByteArray := prog_10_method_33_code
def yX8_cylinder : MethodName := ⟨RX8, "cylinder", "(II)I"⟩
abbrev cX8_guardOf : ByteArray := prog_10_method_34_code
def yX8_guardOf : MethodName := ⟨RX8, "guardOf", "(II)I"⟩
abbrev cX8_guard : ByteArray := prog_10_method_35_code
def yX8_guard : MethodName := ⟨RX8, "guard", "(II)I"⟩
abbrev cX8_value : ByteArray := prog_10_method_36_code
def yX8_value : MethodName := ⟨RX8, "value", "(I)I"⟩
abbrev cX8_chart : ByteArray := prog_10_method_37_code
def yX8_chart : MethodName := ⟨RX8, "chart", "(II)I"⟩
abbrev cX8_skips : ByteArray := prog_10_method_38_code
def yX8_skips : MethodName := ⟨RX8, "skips", "(I)I"⟩
abbrev cX8_ticksToOut : ByteArray := prog_10_method_39_code
def yX8_ticksToOut : MethodName := ⟨RX8, "ticksToOut", "(I)I"⟩
abbrev cX8_passes : ByteArray := prog_10_method_40_code
def yX8_passes : MethodName := ⟨RX8, "passes", "(I)I"⟩
abbrev cX8_toCycle : ByteArray := prog_10_method_41_code
def yX8_toCycle : MethodName := ⟨RX8, "toCycle", "()I"⟩
abbrev cX8_ticksToCycle : ByteArray := prog_10_method_42_code
def yX8_ticksToCycle : MethodName := ⟨RX8, "ticksToCycle", "()I"⟩
abbrev cX8_leastCompressor : ByteArray := prog_10_method_43_code
def yX8_leastCompressor : MethodName := ⟨RX8, "leastCompressor", "(I)I"⟩
abbrev cX8_does : ByteArray := prog_10_method_44_code
def yX8_does : MethodName := ⟨RX8, "does", "(I)Z"⟩
abbrev cX8_shortestDwell : ByteArray := prog_10_method_45_code
def yX8_shortestDwell : MethodName := ⟨RX8, "shortestDwell", "()I"⟩
abbrev cX8_behind : ByteArray := prog_10_method_46_code
def yX8_behind : MethodName := ⟨RX8, "behind", "(I)I"⟩
abbrev cX8_repeats : ByteArray := prog_10_method_47_code
def yX8_repeats : MethodName := ⟨RX8, "repeats", "()Z"⟩
abbrev cX8_useful : ByteArray := prog_10_method_48_code
def yX8_useful : MethodName := ⟨RX8, "useful", "()D"⟩
abbrev cX8_append : ByteArray := prog_10_method_49_code
def yX8_append : MethodName := ⟨RX8, "append", "(I)I"⟩
abbrev cX8_clearText : ByteArray := prog_10_method_50_code
def yX8_clearText : MethodName := ⟨RX8, "clearText", "()I"⟩
abbrev cX8_here : ByteArray := prog_10_method_51_code
def yX8_here : MethodName := ⟨RX8, "here", "()I"⟩
abbrev cX8_passesByte : ByteArray := prog_10_method_52_code
def yX8_passesByte : MethodName := ⟨RX8, "passesByte", "(I)Z"⟩
abbrev cX8_readsSteps : ByteArray := prog_10_method_53_code
def yX8_readsSteps : MethodName := ⟨RX8, "readsSteps", "()Z"⟩
abbrev cX8_readsTrack : ByteArray := prog_10_method_54_code
def yX8_readsTrack : MethodName := ⟨RX8, "readsTrack", "()Z"⟩
abbrev cX8_readsText : ByteArray := prog_10_method_55_code
def yX8_readsText : MethodName := ⟨RX8, "readsText", "()Z"⟩
abbrev cX8_parse : ByteArray := prog_10_method_56_code
def yX8_parse : MethodName := ⟨RX8, "parse", "()I"⟩
abbrev cX8_undo : ByteArray := prog_10_method_57_code
def yX8_undo : MethodName := ⟨RX8, "undo", "()I"⟩
abbrev cX8_hashSteps : ByteArray := prog_10_method_58_code
def yX8_hashSteps : MethodName := ⟨RX8, "hashSteps", "(J)J"⟩
abbrev cX8_digest : ByteArray := prog_10_method_59_code
def yX8_digest : MethodName := ⟨RX8, "digest", "()J"⟩
def RJx145de : String := "java/io/Serializable"
def TJx145de : u_T := fun k => match k with
  | _ => ("", "", "", false)
def tyJx145de : Nat → FieldType := fun k => match k with
  | _ => .int
abbrev wsJx145de0 : List Cond := u_ws RJx145de TJx145de 0
theorem nmJx145de : ∀ a, a < 0 → ∀ b, b < 0 → a ≠ b → (TJx145de a).2.1 ≠ (TJx145de b).2.1 := by decide +kernel
theorem tyJx145de_ok : ∀ k, k < 0 → parseFieldDescriptor (TJx145de k).2.2.1 = some (tyJx145de k) := by decide +kernel
def RJ6 : String := "java/lang/Integer"
def TJ6 : u_T := fun k => match k with
  | _ => ("", "", "", false)
def tyJ6 : Nat → FieldType := fun k => match k with
  | _ => .int
abbrev wsJ60 : List Cond := u_ws RJ6 TJ6 0
theorem nmJ6 : ∀ a, a < 0 → ∀ b, b < 0 → a ≠ b → (TJ6 a).2.1 ≠ (TJ6 b).2.1 := by decide +kernel
theorem tyJ6_ok : ∀ k, k < 0 → parseFieldDescriptor (TJ6 k).2.2.1 = some (tyJ6 k) := by decide +kernel
abbrev cJ6_bitCount_0f7a4 : ByteArray := prog_15_method_49_code
def yJ6_bitCount_0f7a4 : MethodName := ⟨RJ6, "bitCount", "(I)I"⟩
def RJ9 : String := "java/lang/Math"
def TJ9 : u_T := fun k => match k with
  | _ => ("", "", "", false)
def tyJ9 : Nat → FieldType := fun k => match k with
  | _ => .int
abbrev wsJ90 : List Cond := u_ws RJ9 TJ9 0
theorem nmJ9 : ∀ a, a < 0 → ∀ b, b < 0 → a ≠ b → (TJ9 a).2.1 ≠ (TJ9 b).2.1 := by decide +kernel
theorem tyJ9_ok : ∀ k, k < 0 → parseFieldDescriptor (TJ9 k).2.2.1 = some (tyJ9 k) := by decide +kernel
abbrev cJ9_max_7cf53 : ByteArray := prog_16_method_65_code
def yJ9_max_7cf53 : MethodName := ⟨RJ9, "max", "(II)I"⟩
abbrev cJ9_min_7cf53 : ByteArray := prog_16_method_69_code
def yJ9_min_7cf53 : MethodName := ⟨RJ9, "min", "(II)I"⟩
def RJ0 : String := "java/lang/String"
def TJ0 : u_T := fun k => match k with
  | _ => ("", "", "", false)
def tyJ0 : Nat → FieldType := fun k => match k with
  | _ => .int
abbrev wsJ00 : List Cond := u_ws RJ0 TJ0 0
theorem nmJ0 : ∀ a, a < 0 → ∀ b, b < 0 → a ≠ b → (TJ0 a).2.1 ≠ (TJ0 b).2.1 := by decide +kernel
theorem tyJ0_ok : ∀ k, k < 0 → parseFieldDescriptor (TJ0 k).2.2.1 = some (tyJ0 k) := by decide +kernel
def RJ10 : String := "java/lang/System"
def TJ10 : u_T := fun k => match k with
  | _ => ("", "", "", false)
def tyJ10 : Nat → FieldType := fun k => match k with
  | _ => .int
abbrev wsJ100 : List Cond := u_ws RJ10 TJ10 0
theorem nmJ10 : ∀ a, a < 0 → ∀ b, b < 0 → a ≠ b → (TJ10 a).2.1 ≠ (TJ10 b).2.1 := by decide +kernel
theorem tyJ10_ok : ∀ k, k < 0 → parseFieldDescriptor (TJ10 k).2.2.1 = some (tyJ10 k) := by decide +kernel
def RJ7 : String := "java/util/Arrays"
def TJ7 : u_T := fun k => match k with
  | _ => ("", "", "", false)
def tyJ7 : Nat → FieldType := fun k => match k with
  | _ => .int
abbrev wsJ70 : List Cond := u_ws RJ7 TJ7 0
theorem nmJ7 : ∀ a, a < 0 → ∀ b, b < 0 → a ≠ b → (TJ7 a).2.1 ≠ (TJ7 b).2.1 := by decide +kernel
theorem tyJ7_ok : ∀ k, k < 0 → parseFieldDescriptor (TJ7 k).2.2.1 = some (tyJ7 k) := by decide +kernel
abbrev cJ7_fill_53178 : ByteArray := prog_21_method_103_code
def yJ7_fill_53178 : MethodName := ⟨RJ7, "fill", "([II)V"⟩
def RL : String := "CamDrumLaw"
abbrev cL_setCam : ByteArray := method_3_code
def yL_setCam : MethodName := ⟨RL, "setCam", "(LCamDrum;IIZ[J)I"⟩
abbrev cL_setPawl : ByteArray := method_4_code
def yL_setPawl : MethodName := ⟨RL, "setPawl", "(LCamDrum;II[J)I"⟩
abbrev cL_setCylinder : ByteArray := method_5_code
def yL_setCylinder : MethodName := ⟨RL, "setCylinder", "(LCamDrum;IIII[J)I"⟩
abbrev cL_setAir : ByteArray := method_6_code
def yL_setAir : MethodName := ⟨RL, "setAir", "(LCamDrum;II[J)I"⟩
abbrev cL_addGuard : ByteArray := method_7_code
def yL_addGuard : MethodName := ⟨RL, "addGuard", "(LCamDrum;III[J)I"⟩
abbrev cL_removeGuard : ByteArray := method_8_code
def yL_removeGuard : MethodName := ⟨RL, "removeGuard", "(LCamDrum;I[J)I"⟩
abbrev cL_turn : ByteArray := method_9_code
def yL_turn : MethodName := ⟨RL, "turn", "(LCamDrum;I[J)I"⟩
abbrev cL_run : ByteArray := method_10_code
def yL_run : MethodName := ⟨RL, "run", "(LCamDrum;I[J)I"⟩
abbrev cL_cam : ByteArray := method_11_code
def yL_cam : MethodName := ⟨RL, "cam", "(LCamDrum;II[J)I"⟩
abbrev cL_cylinder : ByteArray := method_12_code
def yL_cylinder : MethodName := ⟨RL, "cylinder", "(LCamDrum;II[J)I"⟩
abbrev cL_guard : ByteArray := method_13_code
def yL_guard : MethodName := ⟨RL, "guard", "(LCamDrum;II[J)I"⟩
abbrev cL_value : ByteArray := method_14_code
def yL_value : MethodName := ⟨RL, "value", "(LCamDrum;I[J)I"⟩
abbrev cL_chart : ByteArray := method_15_code
def yL_chart : MethodName := ⟨RL, "chart", "(LCamDrum;II[J)I"⟩
abbrev cL_skips : ByteArray := method_16_code
def yL_skips : MethodName := ⟨RL, "skips", "(LCamDrum;I[J)I"⟩
abbrev cL_ticksToOut : ByteArray := method_17_code
def yL_ticksToOut : MethodName := ⟨RL, "ticksToOut", "(LCamDrum;I[J)I"⟩
abbrev cL_leastCompressor : ByteArray := method_18_code
def yL_leastCompressor : MethodName := ⟨RL, "leastCompressor", "(LCamDrum;I[J)I"⟩
abbrev cL_append : ByteArray := method_19_code
def yL_append : MethodName := ⟨RL, "append", "(LCamDrum;I[J)I"⟩
abbrev cL_undo : ByteArray := method_20_code
def yL_undo : MethodName := ⟨RL, "undo", "(LCamDrum;[J)I"⟩
abbrev cL_law : ByteArray := code
def yL_law : MethodName := ⟨RL, "law", "([I)Z"⟩
theorem dX0_init_0 : decode cX0_init 0 = .ok (.aload_n 0, 1) := by decide +kernel
theorem dX0_init_1 : decode cX0_init 1 = .ok (.invokespecial 3, 3) := by decide +kernel
theorem dX0_init_4 : decode cX0_init 4 = .ok (.aload_n 0, 1) := by decide +kernel
theorem dX0_init_5 : decode cX0_init 5 = .ok (.sipush 1000, 3) := by decide +kernel
theorem dX0_init_8 : decode cX0_init 8 = .ok (.putfield 9, 3) := by decide +kernel
theorem dX0_init_11 : decode cX0_init 11 = .ok (.aload_n 0, 1) := by decide +kernel
theorem dX0_init_12 : decode cX0_init 12 = .ok (.sipush 2000, 3) := by decide +kernel
theorem dX0_init_15 : decode cX0_init 15 = .ok (.putfield 15, 3) := by decide +kernel
theorem dX0_init_18 : decode cX0_init 18 = .ok (.aload_n 0, 1) := by decide +kernel
theorem dX0_init_19 : decode cX0_init 19 = .ok (.bipush 50, 2) := by decide +kernel
theorem dX0_init_21 : decode cX0_init 21 = .ok (.putfield 18, 3) := by decide +kernel
theorem dX0_init_24 : decode cX0_init 24 = .ok (.aload_n 0, 1) := by decide +kernel
theorem dX0_init_25 : decode cX0_init 25 = .ok (.sipush 1000, 3) := by decide +kernel
theorem dX0_init_28 : decode cX0_init 28 = .ok (.putfield 21, 3) := by decide +kernel
theorem dX0_init_31 : decode cX0_init 31 = .ok (.return_, 1) := by decide +kernel
theorem dX0_copyFrom_0 : decode cX0_copyFrom 0 = .ok (.aload_n 0, 1) := by decide +kernel
theorem dX0_copyFrom_1 : decode cX0_copyFrom 1 = .ok (.aload_n 1, 1) := by decide +kernel
theorem dX0_copyFrom_2 : decode cX0_copyFrom 2 = .ok (.getfield 9, 3) := by decide +kernel
theorem dX0_copyFrom_5 : decode cX0_copyFrom 5 = .ok (.putfield 9, 3) := by decide +kernel
theorem dX0_copyFrom_8 : decode cX0_copyFrom 8 = .ok (.aload_n 0, 1) := by decide +kernel
theorem dX0_copyFrom_9 : decode cX0_copyFrom 9 = .ok (.aload_n 1, 1) := by decide +kernel
theorem dX0_copyFrom_10 : decode cX0_copyFrom 10 = .ok (.getfield 15, 3) := by decide +kernel
theorem dX0_copyFrom_13 : decode cX0_copyFrom 13 = .ok (.putfield 15, 3) := by decide +kernel
theorem dX0_copyFrom_16 : decode cX0_copyFrom 16 = .ok (.aload_n 0, 1) := by decide +kernel
theorem dX0_copyFrom_17 : decode cX0_copyFrom 17 = .ok (.aload_n 1, 1) := by decide +kernel
theorem dX0_copyFrom_18 : decode cX0_copyFrom 18 = .ok (.getfield 18, 3) := by decide +kernel
theorem dX0_copyFrom_21 : decode cX0_copyFrom 21 = .ok (.putfield 18, 3) := by decide +kernel
theorem dX0_copyFrom_24 : decode cX0_copyFrom 24 = .ok (.aload_n 0, 1) := by decide +kernel
theorem dX0_copyFrom_25 : decode cX0_copyFrom 25 = .ok (.aload_n 1, 1) := by decide +kernel
theorem dX0_copyFrom_26 : decode cX0_copyFrom 26 = .ok (.getfield 21, 3) := by decide +kernel
theorem dX0_copyFrom_29 : decode cX0_copyFrom 29 = .ok (.putfield 21, 3) := by decide +kernel
theorem dX0_copyFrom_32 : decode cX0_copyFrom 32 = .ok (.aload_n 0, 1) := by decide +kernel
theorem dX0_copyFrom_33 : decode cX0_copyFrom 33 = .ok (.aload_n 1, 1) := by decide +kernel
theorem dX0_copyFrom_34 : decode cX0_copyFrom 34 = .ok (.getfield 24, 3) := by decide +kernel
theorem dX0_copyFrom_37 : decode cX0_copyFrom 37 = .ok (.putfield 24, 3) := by decide +kernel
theorem dX0_copyFrom_40 : decode cX0_copyFrom 40 = .ok (.aload_n 0, 1) := by decide +kernel
theorem dX0_copyFrom_41 : decode cX0_copyFrom 41 = .ok (.aload_n 1, 1) := by decide +kernel
theorem dX0_copyFrom_42 : decode cX0_copyFrom 42 = .ok (.getfield 27, 3) := by decide +kernel
theorem dX0_copyFrom_45 : decode cX0_copyFrom 45 = .ok (.putfield 27, 3) := by decide +kernel
theorem dX0_copyFrom_48 : decode cX0_copyFrom 48 = .ok (.aload_n 0, 1) := by decide +kernel
theorem dX0_copyFrom_49 : decode cX0_copyFrom 49 = .ok (.aload_n 1, 1) := by decide +kernel
theorem dX0_copyFrom_50 : decode cX0_copyFrom 50 = .ok (.getfield 30, 3) := by decide +kernel
theorem dX0_copyFrom_53 : decode cX0_copyFrom 53 = .ok (.putfield 30, 3) := by decide +kernel
theorem dX0_copyFrom_56 : decode cX0_copyFrom 56 = .ok (.return_, 1) := by decide +kernel
theorem dX0_compress_0 : decode cX0_compress 0 = .ok (.aload_n 0, 1) := by decide +kernel
theorem dX0_compress_1 : decode cX0_compress 1 = .ok (.dup, 1) := by decide +kernel
theorem dX0_compress_2 : decode cX0_compress 2 = .ok (.getfield 9, 3) := by decide +kernel
theorem dX0_compress_5 : decode cX0_compress 5 = .ok (.aload_n 0, 1) := by decide +kernel
theorem dX0_compress_6 : decode cX0_compress 6 = .ok (.getfield 18, 3) := by decide +kernel
theorem dX0_compress_9 : decode cX0_compress 9 = .ok (.iadd, 1) := by decide +kernel
theorem dX0_compress_10 : decode cX0_compress 10 = .ok (.putfield 9, 3) := by decide +kernel
theorem dX0_compress_13 : decode cX0_compress 13 = .ok (.aload_n 0, 1) := by decide +kernel
theorem dX0_compress_14 : decode cX0_compress 14 = .ok (.dup, 1) := by decide +kernel
theorem dX0_compress_15 : decode cX0_compress 15 = .ok (.getfield 21, 3) := by decide +kernel
theorem dX0_compress_18 : decode cX0_compress 18 = .ok (.aload_n 0, 1) := by decide +kernel
theorem dX0_compress_19 : decode cX0_compress 19 = .ok (.getfield 18, 3) := by decide +kernel
theorem dX0_compress_22 : decode cX0_compress 22 = .ok (.iadd, 1) := by decide +kernel
theorem dX0_compress_23 : decode cX0_compress 23 = .ok (.putfield 21, 3) := by decide +kernel
theorem dX0_compress_26 : decode cX0_compress 26 = .ok (.aload_n 0, 1) := by decide +kernel
theorem dX0_compress_27 : decode cX0_compress 27 = .ok (.invokevirtual 33, 3) := by decide +kernel
theorem dX0_compress_30 : decode cX0_compress 30 = .ok (.return_, 1) := by decide +kernel
theorem dX0_letOffSurplus_0 : decode cX0_letOffSurplus 0 = .ok (.aload_n 0, 1) := by decide +kernel
theorem dX0_letOffSurplus_1 : decode cX0_letOffSurplus 1 = .ok (.getfield 9, 3) := by decide +kernel
theorem dX0_letOffSurplus_4 : decode cX0_letOffSurplus 4 = .ok (.aload_n 0, 1) := by decide +kernel
theorem dX0_letOffSurplus_5 : decode cX0_letOffSurplus 5 = .ok (.getfield 15, 3) := by decide +kernel
theorem dX0_letOffSurplus_8 : decode cX0_letOffSurplus 8 = .ok (.isub, 1) := by decide +kernel
theorem dX0_letOffSurplus_9 : decode cX0_letOffSurplus 9 = .ok (.iconst 0, 1) := by decide +kernel
theorem dX0_letOffSurplus_10 : decode cX0_letOffSurplus 10 = .ok (.invokestatic 36, 3) := by decide +kernel
theorem dX0_letOffSurplus_13 : decode cX0_letOffSurplus 13 = .ok (.istore_n 1, 1) := by decide +kernel
theorem dX0_letOffSurplus_14 : decode cX0_letOffSurplus 14 = .ok (.aload_n 0, 1) := by decide +kernel
theorem dX0_letOffSurplus_15 : decode cX0_letOffSurplus 15 = .ok (.dup, 1) := by decide +kernel
theorem dX0_letOffSurplus_16 : decode cX0_letOffSurplus 16 = .ok (.getfield 9, 3) := by decide +kernel
theorem dX0_letOffSurplus_19 : decode cX0_letOffSurplus 19 = .ok (.iload_n 1, 1) := by decide +kernel
theorem dX0_letOffSurplus_20 : decode cX0_letOffSurplus 20 = .ok (.isub, 1) := by decide +kernel
theorem dX0_letOffSurplus_21 : decode cX0_letOffSurplus 21 = .ok (.putfield 9, 3) := by decide +kernel
theorem dX0_letOffSurplus_24 : decode cX0_letOffSurplus 24 = .ok (.aload_n 0, 1) := by decide +kernel
theorem dX0_letOffSurplus_25 : decode cX0_letOffSurplus 25 = .ok (.dup, 1) := by decide +kernel
theorem dX0_letOffSurplus_26 : decode cX0_letOffSurplus 26 = .ok (.getfield 24, 3) := by decide +kernel
theorem dX0_letOffSurplus_29 : decode cX0_letOffSurplus 29 = .ok (.iload_n 1, 1) := by decide +kernel
theorem dX0_letOffSurplus_30 : decode cX0_letOffSurplus 30 = .ok (.iadd, 1) := by decide +kernel
theorem dX0_letOffSurplus_31 : decode cX0_letOffSurplus 31 = .ok (.putfield 24, 3) := by decide +kernel
theorem dX0_letOffSurplus_34 : decode cX0_letOffSurplus 34 = .ok (.return_, 1) := by decide +kernel
theorem dX0_enoughToMove_0 : decode cX0_enoughToMove 0 = .ok (.iload_n 1, 1) := by decide +kernel
theorem dX0_enoughToMove_1 : decode cX0_enoughToMove 1 = .ok (.ifCond .le 12, 3) := by decide +kernel
theorem dX0_enoughToMove_4 : decode cX0_enoughToMove 4 = .ok (.aload_n 0, 1) := by decide +kernel
theorem dX0_enoughToMove_5 : decode cX0_enoughToMove 5 = .ok (.getfield 9, 3) := by decide +kernel
theorem dX0_enoughToMove_8 : decode cX0_enoughToMove 8 = .ok (.iload_n 1, 1) := by decide +kernel
theorem dX0_enoughToMove_9 : decode cX0_enoughToMove 9 = .ok (.idiv, 1) := by decide +kernel
theorem dX0_enoughToMove_10 : decode cX0_enoughToMove 10 = .ok (.goto 4, 3) := by decide +kernel
theorem dX0_enoughToMove_13 : decode cX0_enoughToMove 13 = .ok (.iconst 0, 1) := by decide +kernel
theorem dX0_enoughToMove_14 : decode cX0_enoughToMove 14 = .ok (.ireturn, 1) := by decide +kernel
theorem dX0_use_0 : decode cX0_use 0 = .ok (.aload_n 0, 1) := by decide +kernel
theorem dX0_use_1 : decode cX0_use 1 = .ok (.dup, 1) := by decide +kernel
theorem dX0_use_2 : decode cX0_use 2 = .ok (.getfield 9, 3) := by decide +kernel
theorem dX0_use_5 : decode cX0_use 5 = .ok (.iload_n 1, 1) := by decide +kernel
theorem dX0_use_6 : decode cX0_use 6 = .ok (.isub, 1) := by decide +kernel
theorem dX0_use_7 : decode cX0_use 7 = .ok (.putfield 9, 3) := by decide +kernel
theorem dX0_use_10 : decode cX0_use 10 = .ok (.aload_n 0, 1) := by decide +kernel
theorem dX0_use_11 : decode cX0_use 11 = .ok (.dup, 1) := by decide +kernel
theorem dX0_use_12 : decode cX0_use 12 = .ok (.getfield 27, 3) := by decide +kernel
theorem dX0_use_15 : decode cX0_use 15 = .ok (.iload_n 1, 1) := by decide +kernel
theorem dX0_use_16 : decode cX0_use 16 = .ok (.iadd, 1) := by decide +kernel
theorem dX0_use_17 : decode cX0_use 17 = .ok (.putfield 27, 3) := by decide +kernel
theorem dX0_use_20 : decode cX0_use 20 = .ok (.return_, 1) := by decide +kernel
theorem dX0_leakOut_0 : decode cX0_leakOut 0 = .ok (.iload_n 1, 1) := by decide +kernel
theorem dX0_leakOut_1 : decode cX0_leakOut 1 = .ok (.aload_n 0, 1) := by decide +kernel
theorem dX0_leakOut_2 : decode cX0_leakOut 2 = .ok (.getfield 9, 3) := by decide +kernel
theorem dX0_leakOut_5 : decode cX0_leakOut 5 = .ok (.invokestatic 42, 3) := by decide +kernel
theorem dX0_leakOut_8 : decode cX0_leakOut 8 = .ok (.istore_n 2, 1) := by decide +kernel
theorem dX0_leakOut_9 : decode cX0_leakOut 9 = .ok (.aload_n 0, 1) := by decide +kernel
theorem dX0_leakOut_10 : decode cX0_leakOut 10 = .ok (.dup, 1) := by decide +kernel
theorem dX0_leakOut_11 : decode cX0_leakOut 11 = .ok (.getfield 9, 3) := by decide +kernel
theorem dX0_leakOut_14 : decode cX0_leakOut 14 = .ok (.iload_n 2, 1) := by decide +kernel
theorem dX0_leakOut_15 : decode cX0_leakOut 15 = .ok (.isub, 1) := by decide +kernel
theorem dX0_leakOut_16 : decode cX0_leakOut 16 = .ok (.putfield 9, 3) := by decide +kernel
theorem dX0_leakOut_19 : decode cX0_leakOut 19 = .ok (.aload_n 0, 1) := by decide +kernel
theorem dX0_leakOut_20 : decode cX0_leakOut 20 = .ok (.dup, 1) := by decide +kernel
theorem dX0_leakOut_21 : decode cX0_leakOut 21 = .ok (.getfield 30, 3) := by decide +kernel
theorem dX0_leakOut_24 : decode cX0_leakOut 24 = .ok (.iload_n 2, 1) := by decide +kernel
theorem dX0_leakOut_25 : decode cX0_leakOut 25 = .ok (.iadd, 1) := by decide +kernel
theorem dX0_leakOut_26 : decode cX0_leakOut 26 = .ok (.putfield 30, 3) := by decide +kernel
theorem dX0_leakOut_29 : decode cX0_leakOut 29 = .ok (.iload_n 2, 1) := by decide +kernel
theorem dX0_leakOut_30 : decode cX0_leakOut 30 = .ok (.ireturn, 1) := by decide +kernel
theorem dX1_init_0 : decode cX1_init 0 = .ok (.aload_n 0, 1) := by decide +kernel
theorem dX1_init_1 : decode cX1_init 1 = .ok (.invokespecial 3, 3) := by decide +kernel
theorem dX1_init_4 : decode cX1_init 4 = .ok (.aload_n 0, 1) := by decide +kernel
theorem dX1_init_5 : decode cX1_init 5 = .ok (.bipush 80, 2) := by decide +kernel
theorem dX1_init_7 : decode cX1_init 7 = .ok (.newarray .int, 2) := by decide +kernel
theorem dX1_init_9 : decode cX1_init 9 = .ok (.putfield 9, 3) := by decide +kernel
theorem dX1_init_12 : decode cX1_init 12 = .ok (.aload_n 0, 1) := by decide +kernel
theorem dX1_init_13 : decode cX1_init 13 = .ok (.bipush 16, 2) := by decide +kernel
theorem dX1_init_15 : decode cX1_init 15 = .ok (.newarray .int, 2) := by decide +kernel
theorem dX1_init_17 : decode cX1_init 17 = .ok (.putfield 15, 3) := by decide +kernel
theorem dX1_init_20 : decode cX1_init 20 = .ok (.aload_n 0, 1) := by decide +kernel
theorem dX1_init_21 : decode cX1_init 21 = .ok (.getfield 9, 3) := by decide +kernel
theorem dX1_init_24 : decode cX1_init 24 = .ok (.iconst (-1), 1) := by decide +kernel
theorem dX1_init_25 : decode cX1_init 25 = .ok (.invokestatic 18, 3) := by decide +kernel
theorem dX1_init_28 : decode cX1_init 28 = .ok (.return_, 1) := by decide +kernel
theorem dX1_copyFrom_0 : decode cX1_copyFrom 0 = .ok (.aload_n 1, 1) := by decide +kernel
theorem dX1_copyFrom_1 : decode cX1_copyFrom 1 = .ok (.getfield 9, 3) := by decide +kernel
theorem dX1_copyFrom_4 : decode cX1_copyFrom 4 = .ok (.aload_n 0, 1) := by decide +kernel
theorem dX1_copyFrom_5 : decode cX1_copyFrom 5 = .ok (.getfield 9, 3) := by decide +kernel
theorem dX1_copyFrom_8 : decode cX1_copyFrom 8 = .ok (.invokestatic 24, 3) := by decide +kernel
theorem dX1_copyFrom_11 : decode cX1_copyFrom 11 = .ok (.aload_n 1, 1) := by decide +kernel
theorem dX1_copyFrom_12 : decode cX1_copyFrom 12 = .ok (.getfield 15, 3) := by decide +kernel
theorem dX1_copyFrom_15 : decode cX1_copyFrom 15 = .ok (.aload_n 0, 1) := by decide +kernel
theorem dX1_copyFrom_16 : decode cX1_copyFrom 16 = .ok (.getfield 15, 3) := by decide +kernel
theorem dX1_copyFrom_19 : decode cX1_copyFrom 19 = .ok (.invokestatic 24, 3) := by decide +kernel
theorem dX1_copyFrom_22 : decode cX1_copyFrom 22 = .ok (.return_, 1) := by decide +kernel
theorem dX1_forget_0 : decode cX1_forget 0 = .ok (.aload_n 0, 1) := by decide +kernel
theorem dX1_forget_1 : decode cX1_forget 1 = .ok (.getfield 9, 3) := by decide +kernel
theorem dX1_forget_4 : decode cX1_forget 4 = .ok (.iconst (-1), 1) := by decide +kernel
theorem dX1_forget_5 : decode cX1_forget 5 = .ok (.invokestatic 18, 3) := by decide +kernel
theorem dX1_forget_8 : decode cX1_forget 8 = .ok (.aload_n 0, 1) := by decide +kernel
theorem dX1_forget_9 : decode cX1_forget 9 = .ok (.getfield 15, 3) := by decide +kernel
theorem dX1_forget_12 : decode cX1_forget 12 = .ok (.iconst 0, 1) := by decide +kernel
theorem dX1_forget_13 : decode cX1_forget 13 = .ok (.invokestatic 18, 3) := by decide +kernel
theorem dX1_forget_16 : decode cX1_forget 16 = .ok (.return_, 1) := by decide +kernel
theorem dX1_outAt_0 : decode cX1_outAt 0 = .ok (.iload_n 1, 1) := by decide +kernel
theorem dX1_outAt_1 : decode cX1_outAt 1 = .ok (.bipush 16, 2) := by decide +kernel
theorem dX1_outAt_3 : decode cX1_outAt 3 = .ok (.imul, 1) := by decide +kernel
theorem dX1_outAt_4 : decode cX1_outAt 4 = .ok (.iload_n 2, 1) := by decide +kernel
theorem dX1_outAt_5 : decode cX1_outAt 5 = .ok (.iadd, 1) := by decide +kernel
theorem dX1_outAt_6 : decode cX1_outAt 6 = .ok (.istore_n 3, 1) := by decide +kernel
theorem dX1_outAt_7 : decode cX1_outAt 7 = .ok (.iload_n 3, 1) := by decide +kernel
theorem dX1_outAt_8 : decode cX1_outAt 8 = .ok (.iconst 0, 1) := by decide +kernel
theorem dX1_outAt_9 : decode cX1_outAt 9 = .ok (.aload_n 0, 1) := by decide +kernel
theorem dX1_outAt_10 : decode cX1_outAt 10 = .ok (.getfield 9, 3) := by decide +kernel
theorem dX1_outAt_13 : decode cX1_outAt 13 = .ok (.arraylength, 1) := by decide +kernel
theorem dX1_outAt_14 : decode cX1_outAt 14 = .ok (.iconst 1, 1) := by decide +kernel
theorem dX1_outAt_15 : decode cX1_outAt 15 = .ok (.isub, 1) := by decide +kernel
theorem dX1_outAt_16 : decode cX1_outAt 16 = .ok (.invokestatic 28, 3) := by decide +kernel
theorem dX1_outAt_19 : decode cX1_outAt 19 = .ok (.ifCond .eq 12, 3) := by decide +kernel
theorem dX1_outAt_22 : decode cX1_outAt 22 = .ok (.aload_n 0, 1) := by decide +kernel
theorem dX1_outAt_23 : decode cX1_outAt 23 = .ok (.getfield 9, 3) := by decide +kernel
theorem dX1_outAt_26 : decode cX1_outAt 26 = .ok (.iload_n 3, 1) := by decide +kernel
theorem dX1_outAt_27 : decode cX1_outAt 27 = .ok (.iaload, 1) := by decide +kernel
theorem dX1_outAt_28 : decode cX1_outAt 28 = .ok (.goto 4, 3) := by decide +kernel
theorem dX1_outAt_31 : decode cX1_outAt 31 = .ok (.iconst (-1), 1) := by decide +kernel
theorem dX1_outAt_32 : decode cX1_outAt 32 = .ok (.ireturn, 1) := by decide +kernel
theorem dX1_note_0 : decode cX1_note 0 = .ok (.iload_n 1, 1) := by decide +kernel
theorem dX1_note_1 : decode cX1_note 1 = .ok (.bipush 16, 2) := by decide +kernel
theorem dX1_note_3 : decode cX1_note 3 = .ok (.imul, 1) := by decide +kernel
theorem dX1_note_4 : decode cX1_note 4 = .ok (.iload_n 2, 1) := by decide +kernel
theorem dX1_note_5 : decode cX1_note 5 = .ok (.iadd, 1) := by decide +kernel
theorem dX1_note_6 : decode cX1_note 6 = .ok (.istore 4, 2) := by decide +kernel
theorem dX1_note_8 : decode cX1_note 8 = .ok (.iload 4, 2) := by decide +kernel
theorem dX1_note_10 : decode cX1_note 10 = .ok (.iconst 0, 1) := by decide +kernel
theorem dX1_note_11 : decode cX1_note 11 = .ok (.aload_n 0, 1) := by decide +kernel
theorem dX1_note_12 : decode cX1_note 12 = .ok (.getfield 9, 3) := by decide +kernel
theorem dX1_note_15 : decode cX1_note 15 = .ok (.arraylength, 1) := by decide +kernel
theorem dX1_note_16 : decode cX1_note 16 = .ok (.iconst 1, 1) := by decide +kernel
theorem dX1_note_17 : decode cX1_note 17 = .ok (.isub, 1) := by decide +kernel
theorem dX1_note_18 : decode cX1_note 18 = .ok (.invokestatic 28, 3) := by decide +kernel
theorem dX1_note_21 : decode cX1_note 21 = .ok (.ifCond .eq 11, 3) := by decide +kernel
theorem dX1_note_24 : decode cX1_note 24 = .ok (.aload_n 0, 1) := by decide +kernel
theorem dX1_note_25 : decode cX1_note 25 = .ok (.getfield 9, 3) := by decide +kernel
theorem dX1_note_28 : decode cX1_note 28 = .ok (.iload 4, 2) := by decide +kernel
theorem dX1_note_30 : decode cX1_note 30 = .ok (.iload_n 3, 1) := by decide +kernel
theorem dX1_note_31 : decode cX1_note 31 = .ok (.iastore, 1) := by decide +kernel
theorem dX1_note_32 : decode cX1_note 32 = .ok (.return_, 1) := by decide +kernel
theorem dX1_skipsAt_0 : decode cX1_skipsAt 0 = .ok (.iload_n 1, 1) := by decide +kernel
theorem dX1_skipsAt_1 : decode cX1_skipsAt 1 = .ok (.iconst 0, 1) := by decide +kernel
theorem dX1_skipsAt_2 : decode cX1_skipsAt 2 = .ok (.aload_n 0, 1) := by decide +kernel
theorem dX1_skipsAt_3 : decode cX1_skipsAt 3 = .ok (.getfield 15, 3) := by decide +kernel
theorem dX1_skipsAt_6 : decode cX1_skipsAt 6 = .ok (.arraylength, 1) := by decide +kernel
theorem dX1_skipsAt_7 : decode cX1_skipsAt 7 = .ok (.iconst 1, 1) := by decide +kernel
theorem dX1_skipsAt_8 : decode cX1_skipsAt 8 = .ok (.isub, 1) := by decide +kernel
theorem dX1_skipsAt_9 : decode cX1_skipsAt 9 = .ok (.invokestatic 28, 3) := by decide +kernel
theorem dX1_skipsAt_12 : decode cX1_skipsAt 12 = .ok (.ifCond .eq 12, 3) := by decide +kernel
theorem dX1_skipsAt_15 : decode cX1_skipsAt 15 = .ok (.aload_n 0, 1) := by decide +kernel
theorem dX1_skipsAt_16 : decode cX1_skipsAt 16 = .ok (.getfield 15, 3) := by decide +kernel
theorem dX1_skipsAt_19 : decode cX1_skipsAt 19 = .ok (.iload_n 1, 1) := by decide +kernel
theorem dX1_skipsAt_20 : decode cX1_skipsAt 20 = .ok (.iaload, 1) := by decide +kernel
theorem dX1_skipsAt_21 : decode cX1_skipsAt 21 = .ok (.goto 4, 3) := by decide +kernel
theorem dX1_skipsAt_24 : decode cX1_skipsAt 24 = .ok (.iconst 0, 1) := by decide +kernel
theorem dX1_skipsAt_25 : decode cX1_skipsAt 25 = .ok (.ireturn, 1) := by decide +kernel
theorem dX1_countSkip_0 : decode cX1_countSkip 0 = .ok (.iload_n 1, 1) := by decide +kernel
theorem dX1_countSkip_1 : decode cX1_countSkip 1 = .ok (.iconst 0, 1) := by decide +kernel
theorem dX1_countSkip_2 : decode cX1_countSkip 2 = .ok (.aload_n 0, 1) := by decide +kernel
theorem dX1_countSkip_3 : decode cX1_countSkip 3 = .ok (.getfield 15, 3) := by decide +kernel
theorem dX1_countSkip_6 : decode cX1_countSkip 6 = .ok (.arraylength, 1) := by decide +kernel
theorem dX1_countSkip_7 : decode cX1_countSkip 7 = .ok (.iconst 1, 1) := by decide +kernel
theorem dX1_countSkip_8 : decode cX1_countSkip 8 = .ok (.isub, 1) := by decide +kernel
theorem dX1_countSkip_9 : decode cX1_countSkip 9 = .ok (.invokestatic 28, 3) := by decide +kernel
theorem dX1_countSkip_12 : decode cX1_countSkip 12 = .ok (.ifCond .eq 13, 3) := by decide +kernel
theorem dX1_countSkip_15 : decode cX1_countSkip 15 = .ok (.aload_n 0, 1) := by decide +kernel
theorem dX1_countSkip_16 : decode cX1_countSkip 16 = .ok (.getfield 15, 3) := by decide +kernel
theorem dX1_countSkip_19 : decode cX1_countSkip 19 = .ok (.iload_n 1, 1) := by decide +kernel
theorem dX1_countSkip_20 : decode cX1_countSkip 20 = .ok (.dup2, 1) := by decide +kernel
theorem dX1_countSkip_21 : decode cX1_countSkip 21 = .ok (.iaload, 1) := by decide +kernel
theorem dX1_countSkip_22 : decode cX1_countSkip 22 = .ok (.iconst 1, 1) := by decide +kernel
theorem dX1_countSkip_23 : decode cX1_countSkip 23 = .ok (.iadd, 1) := by decide +kernel
theorem dX1_countSkip_24 : decode cX1_countSkip 24 = .ok (.iastore, 1) := by decide +kernel
theorem dX1_countSkip_25 : decode cX1_countSkip 25 = .ok (.return_, 1) := by decide +kernel
theorem dX2_init_0 : decode cX2_init 0 = .ok (.aload_n 0, 1) := by decide +kernel
theorem dX2_init_1 : decode cX2_init 1 = .ok (.invokespecial 3, 3) := by decide +kernel
theorem dX2_init_4 : decode cX2_init 4 = .ok (.aload_n 0, 1) := by decide +kernel
theorem dX2_init_5 : decode cX2_init 5 = .ok (.iconst 5, 1) := by decide +kernel
theorem dX2_init_6 : decode cX2_init 6 = .ok (.newarray .int, 2) := by decide +kernel
theorem dX2_init_8 : decode cX2_init 8 = .ok (.putfield 9, 3) := by decide +kernel
theorem dX2_init_11 : decode cX2_init 11 = .ok (.aload_n 0, 1) := by decide +kernel
theorem dX2_init_12 : decode cX2_init 12 = .ok (.iconst 5, 1) := by decide +kernel
theorem dX2_init_13 : decode cX2_init 13 = .ok (.newarray .int, 2) := by decide +kernel
theorem dX2_init_15 : decode cX2_init 15 = .ok (.putfield 15, 3) := by decide +kernel
theorem dX2_init_18 : decode cX2_init 18 = .ok (.aload_n 0, 1) := by decide +kernel
theorem dX2_init_19 : decode cX2_init 19 = .ok (.iconst 5, 1) := by decide +kernel
theorem dX2_init_20 : decode cX2_init 20 = .ok (.newarray .int, 2) := by decide +kernel
theorem dX2_init_22 : decode cX2_init 22 = .ok (.putfield 18, 3) := by decide +kernel
theorem dX2_init_25 : decode cX2_init 25 = .ok (.aload_n 0, 1) := by decide +kernel
theorem dX2_init_26 : decode cX2_init 26 = .ok (.iconst 5, 1) := by decide +kernel
theorem dX2_init_27 : decode cX2_init 27 = .ok (.newarray .int, 2) := by decide +kernel
theorem dX2_init_29 : decode cX2_init 29 = .ok (.putfield 21, 3) := by decide +kernel
theorem dX2_init_32 : decode cX2_init 32 = .ok (.aload_n 0, 1) := by decide +kernel
theorem dX2_init_33 : decode cX2_init 33 = .ok (.iconst 5, 1) := by decide +kernel
theorem dX2_init_34 : decode cX2_init 34 = .ok (.newarray .int, 2) := by decide +kernel
theorem dX2_init_36 : decode cX2_init 36 = .ok (.putfield 24, 3) := by decide +kernel
theorem dX2_init_39 : decode cX2_init 39 = .ok (.aload_n 0, 1) := by decide +kernel
theorem dX2_init_40 : decode cX2_init 40 = .ok (.iconst 5, 1) := by decide +kernel
theorem dX2_init_41 : decode cX2_init 41 = .ok (.newarray .int, 2) := by decide +kernel
theorem dX2_init_43 : decode cX2_init 43 = .ok (.putfield 27, 3) := by decide +kernel
theorem dX2_init_46 : decode cX2_init 46 = .ok (.aload_n 0, 1) := by decide +kernel
theorem dX2_init_47 : decode cX2_init 47 = .ok (.getfield 15, 3) := by decide +kernel
theorem dX2_init_50 : decode cX2_init 50 = .ok (.iconst 2, 1) := by decide +kernel
theorem dX2_init_51 : decode cX2_init 51 = .ok (.invokestatic 30, 3) := by decide +kernel
theorem dX2_init_54 : decode cX2_init 54 = .ok (.aload_n 0, 1) := by decide +kernel
theorem dX2_init_55 : decode cX2_init 55 = .ok (.getfield 18, 3) := by decide +kernel
theorem dX2_init_58 : decode cX2_init 58 = .ok (.bipush 20, 2) := by decide +kernel
theorem dX2_init_60 : decode cX2_init 60 = .ok (.invokestatic 30, 3) := by decide +kernel
theorem dX2_init_63 : decode cX2_init 63 = .ok (.return_, 1) := by decide +kernel
theorem dX2_copyFrom_0 : decode cX2_copyFrom 0 = .ok (.aload_n 1, 1) := by decide +kernel
theorem dX2_copyFrom_1 : decode cX2_copyFrom 1 = .ok (.getfield 9, 3) := by decide +kernel
theorem dX2_copyFrom_4 : decode cX2_copyFrom 4 = .ok (.aload_n 0, 1) := by decide +kernel
theorem dX2_copyFrom_5 : decode cX2_copyFrom 5 = .ok (.getfield 9, 3) := by decide +kernel
theorem dX2_copyFrom_8 : decode cX2_copyFrom 8 = .ok (.invokestatic 36, 3) := by decide +kernel
theorem dX2_copyFrom_11 : decode cX2_copyFrom 11 = .ok (.aload_n 1, 1) := by decide +kernel
theorem dX2_copyFrom_12 : decode cX2_copyFrom 12 = .ok (.getfield 15, 3) := by decide +kernel
theorem dX2_copyFrom_15 : decode cX2_copyFrom 15 = .ok (.aload_n 0, 1) := by decide +kernel
theorem dX2_copyFrom_16 : decode cX2_copyFrom 16 = .ok (.getfield 15, 3) := by decide +kernel
theorem dX2_copyFrom_19 : decode cX2_copyFrom 19 = .ok (.invokestatic 36, 3) := by decide +kernel
theorem dX2_copyFrom_22 : decode cX2_copyFrom 22 = .ok (.aload_n 1, 1) := by decide +kernel
theorem dX2_copyFrom_23 : decode cX2_copyFrom 23 = .ok (.getfield 18, 3) := by decide +kernel
theorem dX2_copyFrom_26 : decode cX2_copyFrom 26 = .ok (.aload_n 0, 1) := by decide +kernel
theorem dX2_copyFrom_27 : decode cX2_copyFrom 27 = .ok (.getfield 18, 3) := by decide +kernel
theorem dX2_copyFrom_30 : decode cX2_copyFrom 30 = .ok (.invokestatic 36, 3) := by decide +kernel
theorem dX2_copyFrom_33 : decode cX2_copyFrom 33 = .ok (.aload_n 1, 1) := by decide +kernel
theorem dX2_copyFrom_34 : decode cX2_copyFrom 34 = .ok (.getfield 21, 3) := by decide +kernel
theorem dX2_copyFrom_37 : decode cX2_copyFrom 37 = .ok (.aload_n 0, 1) := by decide +kernel
theorem dX2_copyFrom_38 : decode cX2_copyFrom 38 = .ok (.getfield 21, 3) := by decide +kernel
theorem dX2_copyFrom_41 : decode cX2_copyFrom 41 = .ok (.invokestatic 36, 3) := by decide +kernel
theorem dX2_copyFrom_44 : decode cX2_copyFrom 44 = .ok (.aload_n 1, 1) := by decide +kernel
theorem dX2_copyFrom_45 : decode cX2_copyFrom 45 = .ok (.getfield 24, 3) := by decide +kernel
theorem dX2_copyFrom_48 : decode cX2_copyFrom 48 = .ok (.aload_n 0, 1) := by decide +kernel
theorem dX2_copyFrom_49 : decode cX2_copyFrom 49 = .ok (.getfield 24, 3) := by decide +kernel
theorem dX2_copyFrom_52 : decode cX2_copyFrom 52 = .ok (.invokestatic 36, 3) := by decide +kernel
theorem dX2_copyFrom_55 : decode cX2_copyFrom 55 = .ok (.aload_n 1, 1) := by decide +kernel
theorem dX2_copyFrom_56 : decode cX2_copyFrom 56 = .ok (.getfield 27, 3) := by decide +kernel
theorem dX2_copyFrom_59 : decode cX2_copyFrom 59 = .ok (.aload_n 0, 1) := by decide +kernel
theorem dX2_copyFrom_60 : decode cX2_copyFrom 60 = .ok (.getfield 27, 3) := by decide +kernel
theorem dX2_copyFrom_63 : decode cX2_copyFrom 63 = .ok (.invokestatic 36, 3) := by decide +kernel
theorem dX2_copyFrom_66 : decode cX2_copyFrom 66 = .ok (.return_, 1) := by decide +kernel
theorem dX3_init_0 : decode cX3_init 0 = .ok (.aload_n 0, 1) := by decide +kernel
theorem dX3_init_1 : decode cX3_init 1 = .ok (.invokespecial 3, 3) := by decide +kernel
theorem dX3_init_4 : decode cX3_init 4 = .ok (.aload_n 0, 1) := by decide +kernel
theorem dX3_init_5 : decode cX3_init 5 = .ok (.iconst 4, 1) := by decide +kernel
theorem dX3_init_6 : decode cX3_init 6 = .ok (.newarray .int, 2) := by decide +kernel
theorem dX3_init_8 : decode cX3_init 8 = .ok (.putfield 9, 3) := by decide +kernel
theorem dX3_init_11 : decode cX3_init 11 = .ok (.aload_n 0, 1) := by decide +kernel
theorem dX3_init_12 : decode cX3_init 12 = .ok (.iconst 4, 1) := by decide +kernel
theorem dX3_init_13 : decode cX3_init 13 = .ok (.newarray .int, 2) := by decide +kernel
theorem dX3_init_15 : decode cX3_init 15 = .ok (.putfield 15, 3) := by decide +kernel
theorem dX3_init_18 : decode cX3_init 18 = .ok (.aload_n 0, 1) := by decide +kernel
theorem dX3_init_19 : decode cX3_init 19 = .ok (.iconst 4, 1) := by decide +kernel
theorem dX3_init_20 : decode cX3_init 20 = .ok (.newarray .int, 2) := by decide +kernel
theorem dX3_init_22 : decode cX3_init 22 = .ok (.putfield 18, 3) := by decide +kernel
theorem dX3_init_25 : decode cX3_init 25 = .ok (.return_, 1) := by decide +kernel
theorem dX3_copyFrom_0 : decode cX3_copyFrom 0 = .ok (.aload_n 1, 1) := by decide +kernel
theorem dX3_copyFrom_1 : decode cX3_copyFrom 1 = .ok (.getfield 9, 3) := by decide +kernel
theorem dX3_copyFrom_4 : decode cX3_copyFrom 4 = .ok (.aload_n 0, 1) := by decide +kernel
theorem dX3_copyFrom_5 : decode cX3_copyFrom 5 = .ok (.getfield 9, 3) := by decide +kernel
theorem dX3_copyFrom_8 : decode cX3_copyFrom 8 = .ok (.invokestatic 21, 3) := by decide +kernel
theorem dX3_copyFrom_11 : decode cX3_copyFrom 11 = .ok (.aload_n 1, 1) := by decide +kernel
theorem dX3_copyFrom_12 : decode cX3_copyFrom 12 = .ok (.getfield 15, 3) := by decide +kernel
theorem dX3_copyFrom_15 : decode cX3_copyFrom 15 = .ok (.aload_n 0, 1) := by decide +kernel
theorem dX3_copyFrom_16 : decode cX3_copyFrom 16 = .ok (.getfield 15, 3) := by decide +kernel
theorem dX3_copyFrom_19 : decode cX3_copyFrom 19 = .ok (.invokestatic 21, 3) := by decide +kernel
theorem dX3_copyFrom_22 : decode cX3_copyFrom 22 = .ok (.aload_n 1, 1) := by decide +kernel
theorem dX3_copyFrom_23 : decode cX3_copyFrom 23 = .ok (.getfield 18, 3) := by decide +kernel
theorem dX3_copyFrom_26 : decode cX3_copyFrom 26 = .ok (.aload_n 0, 1) := by decide +kernel
theorem dX3_copyFrom_27 : decode cX3_copyFrom 27 = .ok (.getfield 18, 3) := by decide +kernel
theorem dX3_copyFrom_30 : decode cX3_copyFrom 30 = .ok (.invokestatic 21, 3) := by decide +kernel
theorem dX3_copyFrom_33 : decode cX3_copyFrom 33 = .ok (.aload_n 0, 1) := by decide +kernel
theorem dX3_copyFrom_34 : decode cX3_copyFrom 34 = .ok (.aload_n 1, 1) := by decide +kernel
theorem dX3_copyFrom_35 : decode cX3_copyFrom 35 = .ok (.getfield 25, 3) := by decide +kernel
theorem dX3_copyFrom_38 : decode cX3_copyFrom 38 = .ok (.putfield 25, 3) := by decide +kernel
theorem dX3_copyFrom_41 : decode cX3_copyFrom 41 = .ok (.return_, 1) := by decide +kernel
theorem dX3_putLast_0 : decode cX3_putLast 0 = .ok (.aload_n 0, 1) := by decide +kernel
theorem dX3_putLast_1 : decode cX3_putLast 1 = .ok (.getfield 25, 3) := by decide +kernel
theorem dX3_putLast_4 : decode cX3_putLast 4 = .ok (.iconst 0, 1) := by decide +kernel
theorem dX3_putLast_5 : decode cX3_putLast 5 = .ok (.iconst 3, 1) := by decide +kernel
theorem dX3_putLast_6 : decode cX3_putLast 6 = .ok (.invokestatic 29, 3) := by decide +kernel
theorem dX3_putLast_9 : decode cX3_putLast 9 = .ok (.ifCond .ne 5, 3) := by decide +kernel
theorem dX3_putLast_12 : decode cX3_putLast 12 = .ok (.iconst (-1), 1) := by decide +kernel
theorem dX3_putLast_13 : decode cX3_putLast 13 = .ok (.ireturn, 1) := by decide +kernel
theorem dX3_putLast_14 : decode cX3_putLast 14 = .ok (.aload_n 0, 1) := by decide +kernel
theorem dX3_putLast_15 : decode cX3_putLast 15 = .ok (.getfield 9, 3) := by decide +kernel
theorem dX3_putLast_18 : decode cX3_putLast 18 = .ok (.aload_n 0, 1) := by decide +kernel
theorem dX3_putLast_19 : decode cX3_putLast 19 = .ok (.getfield 25, 3) := by decide +kernel
theorem dX3_putLast_22 : decode cX3_putLast 22 = .ok (.iload_n 1, 1) := by decide +kernel
theorem dX3_putLast_23 : decode cX3_putLast 23 = .ok (.iastore, 1) := by decide +kernel
theorem dX3_putLast_24 : decode cX3_putLast 24 = .ok (.aload_n 0, 1) := by decide +kernel
theorem dX3_putLast_25 : decode cX3_putLast 25 = .ok (.getfield 15, 3) := by decide +kernel
theorem dX3_putLast_28 : decode cX3_putLast 28 = .ok (.aload_n 0, 1) := by decide +kernel
theorem dX3_putLast_29 : decode cX3_putLast 29 = .ok (.getfield 25, 3) := by decide +kernel
theorem dX3_putLast_32 : decode cX3_putLast 32 = .ok (.iload_n 2, 1) := by decide +kernel
theorem dX3_putLast_33 : decode cX3_putLast 33 = .ok (.iastore, 1) := by decide +kernel
theorem dX3_putLast_34 : decode cX3_putLast 34 = .ok (.aload_n 0, 1) := by decide +kernel
theorem dX3_putLast_35 : decode cX3_putLast 35 = .ok (.getfield 18, 3) := by decide +kernel
theorem dX3_putLast_38 : decode cX3_putLast 38 = .ok (.aload_n 0, 1) := by decide +kernel
theorem dX3_putLast_39 : decode cX3_putLast 39 = .ok (.getfield 25, 3) := by decide +kernel
theorem dX3_putLast_42 : decode cX3_putLast 42 = .ok (.iload_n 3, 1) := by decide +kernel
theorem dX3_putLast_43 : decode cX3_putLast 43 = .ok (.iastore, 1) := by decide +kernel
theorem dX3_putLast_44 : decode cX3_putLast 44 = .ok (.aload_n 0, 1) := by decide +kernel
theorem dX3_putLast_45 : decode cX3_putLast 45 = .ok (.dup, 1) := by decide +kernel
theorem dX3_putLast_46 : decode cX3_putLast 46 = .ok (.getfield 25, 3) := by decide +kernel
theorem dX3_putLast_49 : decode cX3_putLast 49 = .ok (.iconst 1, 1) := by decide +kernel
theorem dX3_putLast_50 : decode cX3_putLast 50 = .ok (.iadd, 1) := by decide +kernel
theorem dX3_putLast_51 : decode cX3_putLast 51 = .ok (.putfield 25, 3) := by decide +kernel
theorem dX3_putLast_54 : decode cX3_putLast 54 = .ok (.aload_n 0, 1) := by decide +kernel
theorem dX3_putLast_55 : decode cX3_putLast 55 = .ok (.getfield 25, 3) := by decide +kernel
theorem dX3_putLast_58 : decode cX3_putLast 58 = .ok (.iconst 1, 1) := by decide +kernel
theorem dX3_putLast_59 : decode cX3_putLast 59 = .ok (.isub, 1) := by decide +kernel
theorem dX3_putLast_60 : decode cX3_putLast 60 = .ok (.ireturn, 1) := by decide +kernel
theorem dX3_takeOut_0 : decode cX3_takeOut 0 = .ok (.iload_n 1, 1) := by decide +kernel
theorem dX3_takeOut_1 : decode cX3_takeOut 1 = .ok (.iconst 0, 1) := by decide +kernel
theorem dX3_takeOut_2 : decode cX3_takeOut 2 = .ok (.invokestatic 33, 3) := by decide +kernel
theorem dX3_takeOut_5 : decode cX3_takeOut 5 = .ok (.istore_n 2, 1) := by decide +kernel
theorem dX3_takeOut_6 : decode cX3_takeOut 6 = .ok (.iload_n 2, 1) := by decide +kernel
theorem dX3_takeOut_7 : decode cX3_takeOut 7 = .ok (.iconst 1, 1) := by decide +kernel
theorem dX3_takeOut_8 : decode cX3_takeOut 8 = .ok (.iadd, 1) := by decide +kernel
theorem dX3_takeOut_9 : decode cX3_takeOut 9 = .ok (.aload_n 0, 1) := by decide +kernel
theorem dX3_takeOut_10 : decode cX3_takeOut 10 = .ok (.getfield 25, 3) := by decide +kernel
theorem dX3_takeOut_13 : decode cX3_takeOut 13 = .ok (.if_icmp .ge 58, 3) := by decide +kernel
theorem dX3_takeOut_16 : decode cX3_takeOut 16 = .ok (.iload_n 2, 1) := by decide +kernel
theorem dX3_takeOut_17 : decode cX3_takeOut 17 = .ok (.iconst 1, 1) := by decide +kernel
theorem dX3_takeOut_18 : decode cX3_takeOut 18 = .ok (.iadd, 1) := by decide +kernel
theorem dX3_takeOut_19 : decode cX3_takeOut 19 = .ok (.iconst 4, 1) := by decide +kernel
theorem dX3_takeOut_20 : decode cX3_takeOut 20 = .ok (.if_icmp .ge 51, 3) := by decide +kernel
theorem dX3_takeOut_23 : decode cX3_takeOut 23 = .ok (.aload_n 0, 1) := by decide +kernel
theorem dX3_takeOut_24 : decode cX3_takeOut 24 = .ok (.getfield 9, 3) := by decide +kernel
theorem dX3_takeOut_27 : decode cX3_takeOut 27 = .ok (.iload_n 2, 1) := by decide +kernel
theorem dX3_takeOut_28 : decode cX3_takeOut 28 = .ok (.aload_n 0, 1) := by decide +kernel
theorem dX3_takeOut_29 : decode cX3_takeOut 29 = .ok (.getfield 9, 3) := by decide +kernel
theorem dX3_takeOut_32 : decode cX3_takeOut 32 = .ok (.iload_n 2, 1) := by decide +kernel
theorem dX3_takeOut_33 : decode cX3_takeOut 33 = .ok (.iconst 1, 1) := by decide +kernel
theorem dX3_takeOut_34 : decode cX3_takeOut 34 = .ok (.iadd, 1) := by decide +kernel
theorem dX3_takeOut_35 : decode cX3_takeOut 35 = .ok (.iaload, 1) := by decide +kernel
theorem dX3_takeOut_36 : decode cX3_takeOut 36 = .ok (.iastore, 1) := by decide +kernel
theorem dX3_takeOut_37 : decode cX3_takeOut 37 = .ok (.aload_n 0, 1) := by decide +kernel
theorem dX3_takeOut_38 : decode cX3_takeOut 38 = .ok (.getfield 15, 3) := by decide +kernel
theorem dX3_takeOut_41 : decode cX3_takeOut 41 = .ok (.iload_n 2, 1) := by decide +kernel
theorem dX3_takeOut_42 : decode cX3_takeOut 42 = .ok (.aload_n 0, 1) := by decide +kernel
theorem dX3_takeOut_43 : decode cX3_takeOut 43 = .ok (.getfield 15, 3) := by decide +kernel
theorem dX3_takeOut_46 : decode cX3_takeOut 46 = .ok (.iload_n 2, 1) := by decide +kernel
theorem dX3_takeOut_47 : decode cX3_takeOut 47 = .ok (.iconst 1, 1) := by decide +kernel
theorem dX3_takeOut_48 : decode cX3_takeOut 48 = .ok (.iadd, 1) := by decide +kernel
theorem dX3_takeOut_49 : decode cX3_takeOut 49 = .ok (.iaload, 1) := by decide +kernel
theorem dX3_takeOut_50 : decode cX3_takeOut 50 = .ok (.iastore, 1) := by decide +kernel
theorem dX3_takeOut_51 : decode cX3_takeOut 51 = .ok (.aload_n 0, 1) := by decide +kernel
theorem dX3_takeOut_52 : decode cX3_takeOut 52 = .ok (.getfield 18, 3) := by decide +kernel
theorem dX3_takeOut_55 : decode cX3_takeOut 55 = .ok (.iload_n 2, 1) := by decide +kernel
theorem dX3_takeOut_56 : decode cX3_takeOut 56 = .ok (.aload_n 0, 1) := by decide +kernel
theorem dX3_takeOut_57 : decode cX3_takeOut 57 = .ok (.getfield 18, 3) := by decide +kernel
theorem dX3_takeOut_60 : decode cX3_takeOut 60 = .ok (.iload_n 2, 1) := by decide +kernel
theorem dX3_takeOut_61 : decode cX3_takeOut 61 = .ok (.iconst 1, 1) := by decide +kernel
theorem dX3_takeOut_62 : decode cX3_takeOut 62 = .ok (.iadd, 1) := by decide +kernel
theorem dX3_takeOut_63 : decode cX3_takeOut 63 = .ok (.iaload, 1) := by decide +kernel
theorem dX3_takeOut_64 : decode cX3_takeOut 64 = .ok (.iastore, 1) := by decide +kernel
theorem dX3_takeOut_65 : decode cX3_takeOut 65 = .ok (.iinc 2 1, 3) := by decide +kernel
theorem dX3_takeOut_68 : decode cX3_takeOut 68 = .ok (.goto (-62), 3) := by decide +kernel
theorem dX3_takeOut_71 : decode cX3_takeOut 71 = .ok (.aload_n 0, 1) := by decide +kernel
theorem dX3_takeOut_72 : decode cX3_takeOut 72 = .ok (.dup, 1) := by decide +kernel
theorem dX3_takeOut_73 : decode cX3_takeOut 73 = .ok (.getfield 25, 3) := by decide +kernel
theorem dX3_takeOut_76 : decode cX3_takeOut 76 = .ok (.iconst 1, 1) := by decide +kernel
theorem dX3_takeOut_77 : decode cX3_takeOut 77 = .ok (.isub, 1) := by decide +kernel
theorem dX3_takeOut_78 : decode cX3_takeOut 78 = .ok (.putfield 25, 3) := by decide +kernel
theorem dX3_takeOut_81 : decode cX3_takeOut 81 = .ok (.return_, 1) := by decide +kernel
theorem dX4_init_0 : decode cX4_init 0 = .ok (.aload_n 0, 1) := by decide +kernel
theorem dX4_init_1 : decode cX4_init 1 = .ok (.invokespecial 3, 3) := by decide +kernel
theorem dX4_init_4 : decode cX4_init 4 = .ok (.aload_n 0, 1) := by decide +kernel
theorem dX4_init_5 : decode cX4_init 5 = .ok (.iconst 4, 1) := by decide +kernel
theorem dX4_init_6 : decode cX4_init 6 = .ok (.anewarray 9, 3) := by decide +kernel
theorem dX4_init_9 : decode cX4_init 9 = .ok (.putfield 11, 3) := by decide +kernel
theorem dX4_init_12 : decode cX4_init 12 = .ok (.iconst 0, 1) := by decide +kernel
theorem dX4_init_13 : decode cX4_init 13 = .ok (.istore_n 1, 1) := by decide +kernel
theorem dX4_init_14 : decode cX4_init 14 = .ok (.iload_n 1, 1) := by decide +kernel
theorem dX4_init_15 : decode cX4_init 15 = .ok (.iconst 4, 1) := by decide +kernel
theorem dX4_init_16 : decode cX4_init 16 = .ok (.if_icmp .ge 22, 3) := by decide +kernel
theorem dX4_init_19 : decode cX4_init 19 = .ok (.aload_n 0, 1) := by decide +kernel
theorem dX4_init_20 : decode cX4_init 20 = .ok (.getfield 11, 3) := by decide +kernel
theorem dX4_init_23 : decode cX4_init 23 = .ok (.iload_n 1, 1) := by decide +kernel
theorem dX4_init_24 : decode cX4_init 24 = .ok (.new 9, 3) := by decide +kernel
theorem dX4_init_27 : decode cX4_init 27 = .ok (.dup, 1) := by decide +kernel
theorem dX4_init_28 : decode cX4_init 28 = .ok (.invokespecial 17, 3) := by decide +kernel
theorem dX4_init_31 : decode cX4_init 31 = .ok (.aastore, 1) := by decide +kernel
theorem dX4_init_32 : decode cX4_init 32 = .ok (.iinc 1 1, 3) := by decide +kernel
theorem dX4_init_35 : decode cX4_init 35 = .ok (.goto (-21), 3) := by decide +kernel
theorem dX4_init_38 : decode cX4_init 38 = .ok (.return_, 1) := by decide +kernel
theorem dX4_save_0 : decode cX4_save 0 = .ok (.aload_n 0, 1) := by decide +kernel
theorem dX4_save_1 : decode cX4_save 1 = .ok (.aload_n 0, 1) := by decide +kernel
theorem dX4_save_2 : decode cX4_save 2 = .ok (.getfield 18, 3) := by decide +kernel
theorem dX4_save_5 : decode cX4_save 5 = .ok (.iconst 1, 1) := by decide +kernel
theorem dX4_save_6 : decode cX4_save 6 = .ok (.iadd, 1) := by decide +kernel
theorem dX4_save_7 : decode cX4_save 7 = .ok (.iconst 4, 1) := by decide +kernel
theorem dX4_save_8 : decode cX4_save 8 = .ok (.if_icmp .ge 12, 3) := by decide +kernel
theorem dX4_save_11 : decode cX4_save 11 = .ok (.aload_n 0, 1) := by decide +kernel
theorem dX4_save_12 : decode cX4_save 12 = .ok (.getfield 18, 3) := by decide +kernel
theorem dX4_save_15 : decode cX4_save 15 = .ok (.iconst 1, 1) := by decide +kernel
theorem dX4_save_16 : decode cX4_save 16 = .ok (.iadd, 1) := by decide +kernel
theorem dX4_save_17 : decode cX4_save 17 = .ok (.goto 4, 3) := by decide +kernel
theorem dX4_save_20 : decode cX4_save 20 = .ok (.iconst 0, 1) := by decide +kernel
theorem dX4_save_21 : decode cX4_save 21 = .ok (.putfield 18, 3) := by decide +kernel
theorem dX4_save_24 : decode cX4_save 24 = .ok (.aload_n 0, 1) := by decide +kernel
theorem dX4_save_25 : decode cX4_save 25 = .ok (.aload_n 0, 1) := by decide +kernel
theorem dX4_save_26 : decode cX4_save 26 = .ok (.getfield 22, 3) := by decide +kernel
theorem dX4_save_29 : decode cX4_save 29 = .ok (.iconst 1, 1) := by decide +kernel
theorem dX4_save_30 : decode cX4_save 30 = .ok (.iadd, 1) := by decide +kernel
theorem dX4_save_31 : decode cX4_save 31 = .ok (.iconst 4, 1) := by decide +kernel
theorem dX4_save_32 : decode cX4_save 32 = .ok (.invokestatic 25, 3) := by decide +kernel
theorem dX4_save_35 : decode cX4_save 35 = .ok (.putfield 22, 3) := by decide +kernel
theorem dX4_save_38 : decode cX4_save 38 = .ok (.aload_n 0, 1) := by decide +kernel
theorem dX4_save_39 : decode cX4_save 39 = .ok (.invokevirtual 31, 3) := by decide +kernel
theorem dX4_save_42 : decode cX4_save 42 = .ok (.astore_n 2, 1) := by decide +kernel
theorem dX4_save_43 : decode cX4_save 43 = .ok (.aload_n 2, 1) := by decide +kernel
theorem dX4_save_44 : decode cX4_save 44 = .ok (.ifnull 8, 3) := by decide +kernel
theorem dX4_save_47 : decode cX4_save 47 = .ok (.aload_n 2, 1) := by decide +kernel
theorem dX4_save_48 : decode cX4_save 48 = .ok (.aload_n 1, 1) := by decide +kernel
theorem dX4_save_49 : decode cX4_save 49 = .ok (.invokevirtual 35, 3) := by decide +kernel
theorem dX4_save_52 : decode cX4_save 52 = .ok (.return_, 1) := by decide +kernel
theorem dX4_restore_0 : decode cX4_restore 0 = .ok (.aload_n 0, 1) := by decide +kernel
theorem dX4_restore_1 : decode cX4_restore 1 = .ok (.invokevirtual 31, 3) := by decide +kernel
theorem dX4_restore_4 : decode cX4_restore 4 = .ok (.astore_n 2, 1) := by decide +kernel
theorem dX4_restore_5 : decode cX4_restore 5 = .ok (.aload_n 2, 1) := by decide +kernel
theorem dX4_restore_6 : decode cX4_restore 6 = .ok (.ifnull 8, 3) := by decide +kernel
theorem dX4_restore_9 : decode cX4_restore 9 = .ok (.aload_n 1, 1) := by decide +kernel
theorem dX4_restore_10 : decode cX4_restore 10 = .ok (.aload_n 2, 1) := by decide +kernel
theorem dX4_restore_11 : decode cX4_restore 11 = .ok (.invokevirtual 35, 3) := by decide +kernel
theorem dX4_restore_14 : decode cX4_restore 14 = .ok (.aload_n 0, 1) := by decide +kernel
theorem dX4_restore_15 : decode cX4_restore 15 = .ok (.aload_n 0, 1) := by decide +kernel
theorem dX4_restore_16 : decode cX4_restore 16 = .ok (.getfield 18, 3) := by decide +kernel
theorem dX4_restore_19 : decode cX4_restore 19 = .ok (.ifCond .le 12, 3) := by decide +kernel
theorem dX4_restore_22 : decode cX4_restore 22 = .ok (.aload_n 0, 1) := by decide +kernel
theorem dX4_restore_23 : decode cX4_restore 23 = .ok (.getfield 18, 3) := by decide +kernel
theorem dX4_restore_26 : decode cX4_restore 26 = .ok (.iconst 1, 1) := by decide +kernel
theorem dX4_restore_27 : decode cX4_restore 27 = .ok (.isub, 1) := by decide +kernel
theorem dX4_restore_28 : decode cX4_restore 28 = .ok (.goto 4, 3) := by decide +kernel
theorem dX4_restore_31 : decode cX4_restore 31 = .ok (.iconst 3, 1) := by decide +kernel
theorem dX4_restore_32 : decode cX4_restore 32 = .ok (.putfield 18, 3) := by decide +kernel
theorem dX4_restore_35 : decode cX4_restore 35 = .ok (.aload_n 0, 1) := by decide +kernel
theorem dX4_restore_36 : decode cX4_restore 36 = .ok (.dup, 1) := by decide +kernel
theorem dX4_restore_37 : decode cX4_restore 37 = .ok (.getfield 22, 3) := by decide +kernel
theorem dX4_restore_40 : decode cX4_restore 40 = .ok (.iconst 1, 1) := by decide +kernel
theorem dX4_restore_41 : decode cX4_restore 41 = .ok (.isub, 1) := by decide +kernel
theorem dX4_restore_42 : decode cX4_restore 42 = .ok (.putfield 22, 3) := by decide +kernel
theorem dX4_restore_45 : decode cX4_restore 45 = .ok (.return_, 1) := by decide +kernel
theorem dX4_newestPlace_0 : decode cX4_newestPlace 0 = .ok (.aload_n 0, 1) := by decide +kernel
theorem dX4_newestPlace_1 : decode cX4_newestPlace 1 = .ok (.getfield 18, 3) := by decide +kernel
theorem dX4_newestPlace_4 : decode cX4_newestPlace 4 = .ok (.iconst 0, 1) := by decide +kernel
theorem dX4_newestPlace_5 : decode cX4_newestPlace 5 = .ok (.iconst 3, 1) := by decide +kernel
theorem dX4_newestPlace_6 : decode cX4_newestPlace 6 = .ok (.invokestatic 39, 3) := by decide +kernel
theorem dX4_newestPlace_9 : decode cX4_newestPlace 9 = .ok (.ifCond .eq 15, 3) := by decide +kernel
theorem dX4_newestPlace_12 : decode cX4_newestPlace 12 = .ok (.aload_n 0, 1) := by decide +kernel
theorem dX4_newestPlace_13 : decode cX4_newestPlace 13 = .ok (.getfield 11, 3) := by decide +kernel
theorem dX4_newestPlace_16 : decode cX4_newestPlace 16 = .ok (.aload_n 0, 1) := by decide +kernel
theorem dX4_newestPlace_17 : decode cX4_newestPlace 17 = .ok (.getfield 18, 3) := by decide +kernel
theorem dX4_newestPlace_20 : decode cX4_newestPlace 20 = .ok (.aaload, 1) := by decide +kernel
theorem dX4_newestPlace_21 : decode cX4_newestPlace 21 = .ok (.goto 4, 3) := by decide +kernel
theorem dX4_newestPlace_24 : decode cX4_newestPlace 24 = .ok (.aconst_null, 1) := by decide +kernel
theorem dX4_newestPlace_25 : decode cX4_newestPlace 25 = .ok (.areturn, 1) := by decide +kernel
theorem dX5_init_0 : decode cX5_init 0 = .ok (.aload_n 0, 1) := by decide +kernel
theorem dX5_init_1 : decode cX5_init 1 = .ok (.invokespecial 3, 3) := by decide +kernel
theorem dX5_init_4 : decode cX5_init 4 = .ok (.aload_n 0, 1) := by decide +kernel
theorem dX5_init_5 : decode cX5_init 5 = .ok (.bipush 8, 2) := by decide +kernel
theorem dX5_init_7 : decode cX5_init 7 = .ok (.putfield 9, 3) := by decide +kernel
theorem dX5_init_10 : decode cX5_init 10 = .ok (.aload_n 0, 1) := by decide +kernel
theorem dX5_init_11 : decode cX5_init 11 = .ok (.iconst 4, 1) := by decide +kernel
theorem dX5_init_12 : decode cX5_init 12 = .ok (.putfield 15, 3) := by decide +kernel
theorem dX5_init_15 : decode cX5_init 15 = .ok (.aload_n 0, 1) := by decide +kernel
theorem dX5_init_16 : decode cX5_init 16 = .ok (.bipush 100, 2) := by decide +kernel
theorem dX5_init_18 : decode cX5_init 18 = .ok (.putfield 18, 3) := by decide +kernel
theorem dX5_init_21 : decode cX5_init 21 = .ok (.aload_n 0, 1) := by decide +kernel
theorem dX5_init_22 : decode cX5_init 22 = .ok (.iconst 5, 1) := by decide +kernel
theorem dX5_init_23 : decode cX5_init 23 = .ok (.newarray .int, 2) := by decide +kernel
theorem dX5_init_25 : decode cX5_init 25 = .ok (.putfield 21, 3) := by decide +kernel
theorem dX5_init_28 : decode cX5_init 28 = .ok (.aload_n 0, 1) := by decide +kernel
theorem dX5_init_29 : decode cX5_init 29 = .ok (.new 25, 3) := by decide +kernel
theorem dX5_init_32 : decode cX5_init 32 = .ok (.dup, 1) := by decide +kernel
theorem dX5_init_33 : decode cX5_init 33 = .ok (.invokespecial 27, 3) := by decide +kernel
theorem dX5_init_36 : decode cX5_init 36 = .ok (.putfield 28, 3) := by decide +kernel
theorem dX5_init_39 : decode cX5_init 39 = .ok (.aload_n 0, 1) := by decide +kernel
theorem dX5_init_40 : decode cX5_init 40 = .ok (.new 32, 3) := by decide +kernel
theorem dX5_init_43 : decode cX5_init 43 = .ok (.dup, 1) := by decide +kernel
theorem dX5_init_44 : decode cX5_init 44 = .ok (.invokespecial 34, 3) := by decide +kernel
theorem dX5_init_47 : decode cX5_init 47 = .ok (.putfield 35, 3) := by decide +kernel
theorem dX5_init_50 : decode cX5_init 50 = .ok (.aload_n 0, 1) := by decide +kernel
theorem dX5_init_51 : decode cX5_init 51 = .ok (.new 39, 3) := by decide +kernel
theorem dX5_init_54 : decode cX5_init 54 = .ok (.dup, 1) := by decide +kernel
theorem dX5_init_55 : decode cX5_init 55 = .ok (.invokespecial 41, 3) := by decide +kernel
theorem dX5_init_58 : decode cX5_init 58 = .ok (.putfield 42, 3) := by decide +kernel
theorem dX5_init_61 : decode cX5_init 61 = .ok (.aload_n 0, 1) := by decide +kernel
theorem dX5_init_62 : decode cX5_init 62 = .ok (.new 46, 3) := by decide +kernel
theorem dX5_init_65 : decode cX5_init 65 = .ok (.dup, 1) := by decide +kernel
theorem dX5_init_66 : decode cX5_init 66 = .ok (.invokespecial 48, 3) := by decide +kernel
theorem dX5_init_69 : decode cX5_init 69 = .ok (.putfield 49, 3) := by decide +kernel
theorem dX5_init_72 : decode cX5_init 72 = .ok (.return_, 1) := by decide +kernel
theorem dX5_copyFrom_0 : decode cX5_copyFrom 0 = .ok (.aload_n 0, 1) := by decide +kernel
theorem dX5_copyFrom_1 : decode cX5_copyFrom 1 = .ok (.aload_n 1, 1) := by decide +kernel
theorem dX5_copyFrom_2 : decode cX5_copyFrom 2 = .ok (.getfield 9, 3) := by decide +kernel
theorem dX5_copyFrom_5 : decode cX5_copyFrom 5 = .ok (.putfield 9, 3) := by decide +kernel
theorem dX5_copyFrom_8 : decode cX5_copyFrom 8 = .ok (.aload_n 0, 1) := by decide +kernel
theorem dX5_copyFrom_9 : decode cX5_copyFrom 9 = .ok (.aload_n 1, 1) := by decide +kernel
theorem dX5_copyFrom_10 : decode cX5_copyFrom 10 = .ok (.getfield 53, 3) := by decide +kernel
theorem dX5_copyFrom_13 : decode cX5_copyFrom 13 = .ok (.putfield 53, 3) := by decide +kernel
theorem dX5_copyFrom_16 : decode cX5_copyFrom 16 = .ok (.aload_n 0, 1) := by decide +kernel
theorem dX5_copyFrom_17 : decode cX5_copyFrom 17 = .ok (.aload_n 1, 1) := by decide +kernel
theorem dX5_copyFrom_18 : decode cX5_copyFrom 18 = .ok (.getfield 56, 3) := by decide +kernel
theorem dX5_copyFrom_21 : decode cX5_copyFrom 21 = .ok (.putfield 56, 3) := by decide +kernel
theorem dX5_copyFrom_24 : decode cX5_copyFrom 24 = .ok (.aload_n 0, 1) := by decide +kernel
theorem dX5_copyFrom_25 : decode cX5_copyFrom 25 = .ok (.aload_n 1, 1) := by decide +kernel
theorem dX5_copyFrom_26 : decode cX5_copyFrom 26 = .ok (.getfield 15, 3) := by decide +kernel
theorem dX5_copyFrom_29 : decode cX5_copyFrom 29 = .ok (.putfield 15, 3) := by decide +kernel
theorem dX5_copyFrom_32 : decode cX5_copyFrom 32 = .ok (.aload_n 0, 1) := by decide +kernel
theorem dX5_copyFrom_33 : decode cX5_copyFrom 33 = .ok (.aload_n 1, 1) := by decide +kernel
theorem dX5_copyFrom_34 : decode cX5_copyFrom 34 = .ok (.getfield 18, 3) := by decide +kernel
theorem dX5_copyFrom_37 : decode cX5_copyFrom 37 = .ok (.putfield 18, 3) := by decide +kernel
theorem dX5_copyFrom_40 : decode cX5_copyFrom 40 = .ok (.aload_n 0, 1) := by decide +kernel
theorem dX5_copyFrom_41 : decode cX5_copyFrom 41 = .ok (.aload_n 1, 1) := by decide +kernel
theorem dX5_copyFrom_42 : decode cX5_copyFrom 42 = .ok (.getfield 59, 3) := by decide +kernel
theorem dX5_copyFrom_45 : decode cX5_copyFrom 45 = .ok (.putfield 59, 3) := by decide +kernel
theorem dX5_copyFrom_48 : decode cX5_copyFrom 48 = .ok (.aload_n 0, 1) := by decide +kernel
theorem dX5_copyFrom_49 : decode cX5_copyFrom 49 = .ok (.aload_n 1, 1) := by decide +kernel
theorem dX5_copyFrom_50 : decode cX5_copyFrom 50 = .ok (.getfield 62, 3) := by decide +kernel
theorem dX5_copyFrom_53 : decode cX5_copyFrom 53 = .ok (.putfield 62, 3) := by decide +kernel
theorem dX5_copyFrom_56 : decode cX5_copyFrom 56 = .ok (.aload_n 0, 1) := by decide +kernel
theorem dX5_copyFrom_57 : decode cX5_copyFrom 57 = .ok (.aload_n 1, 1) := by decide +kernel
theorem dX5_copyFrom_58 : decode cX5_copyFrom 58 = .ok (.getfield 65, 3) := by decide +kernel
theorem dX5_copyFrom_61 : decode cX5_copyFrom 61 = .ok (.putfield 65, 3) := by decide +kernel
theorem dX5_copyFrom_64 : decode cX5_copyFrom 64 = .ok (.aload_n 1, 1) := by decide +kernel
theorem dX5_copyFrom_65 : decode cX5_copyFrom 65 = .ok (.getfield 21, 3) := by decide +kernel
theorem dX5_copyFrom_68 : decode cX5_copyFrom 68 = .ok (.aload_n 0, 1) := by decide +kernel
theorem dX5_copyFrom_69 : decode cX5_copyFrom 69 = .ok (.getfield 21, 3) := by decide +kernel
theorem dX5_copyFrom_72 : decode cX5_copyFrom 72 = .ok (.invokestatic 68, 3) := by decide +kernel
theorem dX5_copyFrom_75 : decode cX5_copyFrom 75 = .ok (.aload_n 0, 1) := by decide +kernel
theorem dX5_copyFrom_76 : decode cX5_copyFrom 76 = .ok (.getfield 28, 3) := by decide +kernel
theorem dX5_copyFrom_79 : decode cX5_copyFrom 79 = .ok (.aload_n 1, 1) := by decide +kernel
theorem dX5_copyFrom_80 : decode cX5_copyFrom 80 = .ok (.getfield 28, 3) := by decide +kernel
theorem dX5_copyFrom_83 : decode cX5_copyFrom 83 = .ok (.invokevirtual 72, 3) := by decide +kernel
theorem dX5_copyFrom_86 : decode cX5_copyFrom 86 = .ok (.aload_n 0, 1) := by decide +kernel
theorem dX5_copyFrom_87 : decode cX5_copyFrom 87 = .ok (.getfield 35, 3) := by decide +kernel
theorem dX5_copyFrom_90 : decode cX5_copyFrom 90 = .ok (.aload_n 1, 1) := by decide +kernel
theorem dX5_copyFrom_91 : decode cX5_copyFrom 91 = .ok (.getfield 35, 3) := by decide +kernel
theorem dX5_copyFrom_94 : decode cX5_copyFrom 94 = .ok (.invokevirtual 76, 3) := by decide +kernel
theorem dX5_copyFrom_97 : decode cX5_copyFrom 97 = .ok (.aload_n 0, 1) := by decide +kernel
theorem dX5_copyFrom_98 : decode cX5_copyFrom 98 = .ok (.getfield 42, 3) := by decide +kernel
theorem dX5_copyFrom_101 : decode cX5_copyFrom 101 = .ok (.aload_n 1, 1) := by decide +kernel
theorem dX5_copyFrom_102 : decode cX5_copyFrom 102 = .ok (.getfield 42, 3) := by decide +kernel
theorem dX5_copyFrom_105 : decode cX5_copyFrom 105 = .ok (.invokevirtual 79, 3) := by decide +kernel
theorem dX5_copyFrom_108 : decode cX5_copyFrom 108 = .ok (.aload_n 0, 1) := by decide +kernel
theorem dX5_copyFrom_109 : decode cX5_copyFrom 109 = .ok (.getfield 49, 3) := by decide +kernel
theorem dX5_copyFrom_112 : decode cX5_copyFrom 112 = .ok (.aload_n 1, 1) := by decide +kernel
theorem dX5_copyFrom_113 : decode cX5_copyFrom 113 = .ok (.getfield 49, 3) := by decide +kernel
theorem dX5_copyFrom_116 : decode cX5_copyFrom 116 = .ok (.invokevirtual 82, 3) := by decide +kernel
theorem dX5_copyFrom_119 : decode cX5_copyFrom 119 = .ok (.return_, 1) := by decide +kernel
theorem dX5_hasCam_0 : decode cX5_hasCam 0 = .ok (.aload_n 0, 1) := by decide +kernel
theorem dX5_hasCam_1 : decode cX5_hasCam 1 = .ok (.getfield 21, 3) := by decide +kernel
theorem dX5_hasCam_4 : decode cX5_hasCam 4 = .ok (.iload_n 1, 1) := by decide +kernel
theorem dX5_hasCam_5 : decode cX5_hasCam 5 = .ok (.iaload, 1) := by decide +kernel
theorem dX5_hasCam_6 : decode cX5_hasCam 6 = .ok (.iload_n 2, 1) := by decide +kernel
theorem dX5_hasCam_7 : decode cX5_hasCam 7 = .ok (.ishr, 1) := by decide +kernel
theorem dX5_hasCam_8 : decode cX5_hasCam 8 = .ok (.iconst 1, 1) := by decide +kernel
theorem dX5_hasCam_9 : decode cX5_hasCam 9 = .ok (.iand, 1) := by decide +kernel
theorem dX5_hasCam_10 : decode cX5_hasCam 10 = .ok (.iconst 1, 1) := by decide +kernel
theorem dX5_hasCam_11 : decode cX5_hasCam 11 = .ok (.if_icmp .ne 7, 3) := by decide +kernel
theorem dX5_hasCam_14 : decode cX5_hasCam 14 = .ok (.iconst 1, 1) := by decide +kernel
theorem dX5_hasCam_15 : decode cX5_hasCam 15 = .ok (.goto 4, 3) := by decide +kernel
theorem dX5_hasCam_18 : decode cX5_hasCam 18 = .ok (.iconst 0, 1) := by decide +kernel
theorem dX5_hasCam_19 : decode cX5_hasCam 19 = .ok (.ireturn, 1) := by decide +kernel
theorem dX5_putCam_0 : decode cX5_putCam 0 = .ok (.iconst 1, 1) := by decide +kernel
theorem dX5_putCam_1 : decode cX5_putCam 1 = .ok (.iload_n 2, 1) := by decide +kernel
theorem dX5_putCam_2 : decode cX5_putCam 2 = .ok (.ishl, 1) := by decide +kernel
theorem dX5_putCam_3 : decode cX5_putCam 3 = .ok (.istore 4, 2) := by decide +kernel
theorem dX5_putCam_5 : decode cX5_putCam 5 = .ok (.aload_n 0, 1) := by decide +kernel
theorem dX5_putCam_6 : decode cX5_putCam 6 = .ok (.getfield 21, 3) := by decide +kernel
theorem dX5_putCam_9 : decode cX5_putCam 9 = .ok (.iload_n 1, 1) := by decide +kernel
theorem dX5_putCam_10 : decode cX5_putCam 10 = .ok (.iload_n 3, 1) := by decide +kernel
theorem dX5_putCam_11 : decode cX5_putCam 11 = .ok (.ifCond .eq 15, 3) := by decide +kernel
theorem dX5_putCam_14 : decode cX5_putCam 14 = .ok (.aload_n 0, 1) := by decide +kernel
theorem dX5_putCam_15 : decode cX5_putCam 15 = .ok (.getfield 21, 3) := by decide +kernel
theorem dX5_putCam_18 : decode cX5_putCam 18 = .ok (.iload_n 1, 1) := by decide +kernel
theorem dX5_putCam_19 : decode cX5_putCam 19 = .ok (.iaload, 1) := by decide +kernel
theorem dX5_putCam_20 : decode cX5_putCam 20 = .ok (.iload 4, 2) := by decide +kernel
theorem dX5_putCam_22 : decode cX5_putCam 22 = .ok (.ior, 1) := by decide +kernel
theorem dX5_putCam_23 : decode cX5_putCam 23 = .ok (.goto 14, 3) := by decide +kernel
theorem dX5_putCam_26 : decode cX5_putCam 26 = .ok (.aload_n 0, 1) := by decide +kernel
theorem dX5_putCam_27 : decode cX5_putCam 27 = .ok (.getfield 21, 3) := by decide +kernel
theorem dX5_putCam_30 : decode cX5_putCam 30 = .ok (.iload_n 1, 1) := by decide +kernel
theorem dX5_putCam_31 : decode cX5_putCam 31 = .ok (.iaload, 1) := by decide +kernel
theorem dX5_putCam_32 : decode cX5_putCam 32 = .ok (.iload 4, 2) := by decide +kernel
theorem dX5_putCam_34 : decode cX5_putCam 34 = .ok (.iconst (-1), 1) := by decide +kernel
theorem dX5_putCam_35 : decode cX5_putCam 35 = .ok (.ixor, 1) := by decide +kernel
theorem dX5_putCam_36 : decode cX5_putCam 36 = .ok (.iand, 1) := by decide +kernel
theorem dX5_putCam_37 : decode cX5_putCam 37 = .ok (.iastore, 1) := by decide +kernel
theorem dX5_putCam_38 : decode cX5_putCam 38 = .ok (.return_, 1) := by decide +kernel
theorem dX5_camsOf_0 : decode cX5_camsOf 0 = .ok (.aload_n 0, 1) := by decide +kernel
theorem dX5_camsOf_1 : decode cX5_camsOf 1 = .ok (.getfield 21, 3) := by decide +kernel
theorem dX5_camsOf_4 : decode cX5_camsOf 4 = .ok (.iload_n 1, 1) := by decide +kernel
theorem dX5_camsOf_5 : decode cX5_camsOf 5 = .ok (.iaload, 1) := by decide +kernel
theorem dX5_camsOf_6 : decode cX5_camsOf 6 = .ok (.invokestatic 85, 3) := by decide +kernel
theorem dX5_camsOf_9 : decode cX5_camsOf 9 = .ok (.ireturn, 1) := by decide +kernel
theorem dX5_standAt_0 : decode cX5_standAt 0 = .ok (.aload_n 0, 1) := by decide +kernel
theorem dX5_standAt_1 : decode cX5_standAt 1 = .ok (.iload_n 1, 1) := by decide +kernel
theorem dX5_standAt_2 : decode cX5_standAt 2 = .ok (.putfield 53, 3) := by decide +kernel
theorem dX5_standAt_5 : decode cX5_standAt 5 = .ok (.aload_n 0, 1) := by decide +kernel
theorem dX5_standAt_6 : decode cX5_standAt 6 = .ok (.iconst 0, 1) := by decide +kernel
theorem dX5_standAt_7 : decode cX5_standAt 7 = .ok (.putfield 56, 3) := by decide +kernel
theorem dX5_standAt_10 : decode cX5_standAt 10 = .ok (.return_, 1) := by decide +kernel
theorem dX5_takeTracks_0 : decode cX5_takeTracks 0 = .ok (.aload_n 0, 1) := by decide +kernel
theorem dX5_takeTracks_1 : decode cX5_takeTracks 1 = .ok (.aload_n 1, 1) := by decide +kernel
theorem dX5_takeTracks_2 : decode cX5_takeTracks 2 = .ok (.getfield 91, 3) := by decide +kernel
theorem dX5_takeTracks_5 : decode cX5_takeTracks 5 = .ok (.putfield 9, 3) := by decide +kernel
theorem dX5_takeTracks_8 : decode cX5_takeTracks 8 = .ok (.aload_n 1, 1) := by decide +kernel
theorem dX5_takeTracks_9 : decode cX5_takeTracks 9 = .ok (.getfield 94, 3) := by decide +kernel
theorem dX5_takeTracks_12 : decode cX5_takeTracks 12 = .ok (.aload_n 0, 1) := by decide +kernel
theorem dX5_takeTracks_13 : decode cX5_takeTracks 13 = .ok (.getfield 21, 3) := by decide +kernel
theorem dX5_takeTracks_16 : decode cX5_takeTracks 16 = .ok (.invokestatic 68, 3) := by decide +kernel
theorem dX5_takeTracks_19 : decode cX5_takeTracks 19 = .ok (.aload_n 0, 1) := by decide +kernel
theorem dX5_takeTracks_20 : decode cX5_takeTracks 20 = .ok (.iconst 0, 1) := by decide +kernel
theorem dX5_takeTracks_21 : decode cX5_takeTracks 21 = .ok (.invokevirtual 95, 3) := by decide +kernel
theorem dX5_takeTracks_24 : decode cX5_takeTracks 24 = .ok (.aload_n 0, 1) := by decide +kernel
theorem dX5_takeTracks_25 : decode cX5_takeTracks 25 = .ok (.getfield 49, 3) := by decide +kernel
theorem dX5_takeTracks_28 : decode cX5_takeTracks 28 = .ok (.invokevirtual 99, 3) := by decide +kernel
theorem dX5_takeTracks_31 : decode cX5_takeTracks 31 = .ok (.return_, 1) := by decide +kernel
theorem dX5_tick_0 : decode cX5_tick 0 = .ok (.aload_n 0, 1) := by decide +kernel
theorem dX5_tick_1 : decode cX5_tick 1 = .ok (.dup, 1) := by decide +kernel
theorem dX5_tick_2 : decode cX5_tick 2 = .ok (.getfield 59, 3) := by decide +kernel
theorem dX5_tick_5 : decode cX5_tick 5 = .ok (.iconst 1, 1) := by decide +kernel
theorem dX5_tick_6 : decode cX5_tick 6 = .ok (.iadd, 1) := by decide +kernel
theorem dX5_tick_7 : decode cX5_tick 7 = .ok (.putfield 59, 3) := by decide +kernel
theorem dX5_tick_10 : decode cX5_tick 10 = .ok (.aload_n 0, 1) := by decide +kernel
theorem dX5_tick_11 : decode cX5_tick 11 = .ok (.getfield 28, 3) := by decide +kernel
theorem dX5_tick_14 : decode cX5_tick 14 = .ok (.invokevirtual 102, 3) := by decide +kernel
theorem dX5_tick_17 : decode cX5_tick 17 = .ok (.aload_n 0, 1) := by decide +kernel
theorem dX5_tick_18 : decode cX5_tick 18 = .ok (.invokevirtual 105, 3) := by decide +kernel
theorem dX5_tick_21 : decode cX5_tick 21 = .ok (.istore_n 1, 1) := by decide +kernel
theorem dX5_tick_22 : decode cX5_tick 22 = .ok (.iconst 0, 1) := by decide +kernel
theorem dX5_tick_23 : decode cX5_tick 23 = .ok (.istore_n 2, 1) := by decide +kernel
theorem dX5_tick_24 : decode cX5_tick 24 = .ok (.iload_n 2, 1) := by decide +kernel
theorem dX5_tick_25 : decode cX5_tick 25 = .ok (.iconst 5, 1) := by decide +kernel
theorem dX5_tick_26 : decode cX5_tick 26 = .ok (.if_icmp .ge 34, 3) := by decide +kernel
theorem dX5_tick_29 : decode cX5_tick 29 = .ok (.aload_n 0, 1) := by decide +kernel
theorem dX5_tick_30 : decode cX5_tick 30 = .ok (.iload_n 2, 1) := by decide +kernel
theorem dX5_tick_31 : decode cX5_tick 31 = .ok (.aload_n 0, 1) := by decide +kernel
theorem dX5_tick_32 : decode cX5_tick 32 = .ok (.getfield 53, 3) := by decide +kernel
theorem dX5_tick_35 : decode cX5_tick 35 = .ok (.invokevirtual 109, 3) := by decide +kernel
theorem dX5_tick_38 : decode cX5_tick 38 = .ok (.ifCond .eq 11, 3) := by decide +kernel
theorem dX5_tick_41 : decode cX5_tick 41 = .ok (.aload_n 0, 1) := by decide +kernel
theorem dX5_tick_42 : decode cX5_tick 42 = .ok (.iload_n 2, 1) := by decide +kernel
theorem dX5_tick_43 : decode cX5_tick 43 = .ok (.invokevirtual 113, 3) := by decide +kernel
theorem dX5_tick_46 : decode cX5_tick 46 = .ok (.goto 8, 3) := by decide +kernel
theorem dX5_tick_49 : decode cX5_tick 49 = .ok (.aload_n 0, 1) := by decide +kernel
theorem dX5_tick_50 : decode cX5_tick 50 = .ok (.iload_n 2, 1) := by decide +kernel
theorem dX5_tick_51 : decode cX5_tick 51 = .ok (.invokevirtual 116, 3) := by decide +kernel
theorem dX5_tick_54 : decode cX5_tick 54 = .ok (.iinc 2 1, 3) := by decide +kernel
theorem dX5_tick_57 : decode cX5_tick 57 = .ok (.goto (-33), 3) := by decide +kernel
theorem dX5_tick_60 : decode cX5_tick 60 = .ok (.iconst 0, 1) := by decide +kernel
theorem dX5_tick_61 : decode cX5_tick 61 = .ok (.istore_n 2, 1) := by decide +kernel
theorem dX5_tick_62 : decode cX5_tick 62 = .ok (.iload_n 2, 1) := by decide +kernel
theorem dX5_tick_63 : decode cX5_tick 63 = .ok (.iconst 5, 1) := by decide +kernel
theorem dX5_tick_64 : decode cX5_tick 64 = .ok (.if_icmp .ge 14, 3) := by decide +kernel
theorem dX5_tick_67 : decode cX5_tick 67 = .ok (.aload_n 0, 1) := by decide +kernel
theorem dX5_tick_68 : decode cX5_tick 68 = .ok (.iload_n 2, 1) := by decide +kernel
theorem dX5_tick_69 : decode cX5_tick 69 = .ok (.invokevirtual 119, 3) := by decide +kernel
theorem dX5_tick_72 : decode cX5_tick 72 = .ok (.iinc 2 1, 3) := by decide +kernel
theorem dX5_tick_75 : decode cX5_tick 75 = .ok (.goto (-13), 3) := by decide +kernel
theorem dX5_tick_78 : decode cX5_tick 78 = .ok (.iconst 0, 1) := by decide +kernel
theorem dX5_tick_79 : decode cX5_tick 79 = .ok (.istore_n 2, 1) := by decide +kernel
theorem dX5_tick_80 : decode cX5_tick 80 = .ok (.iload_n 2, 1) := by decide +kernel
theorem dX5_tick_81 : decode cX5_tick 81 = .ok (.iconst 5, 1) := by decide +kernel
theorem dX5_tick_82 : decode cX5_tick 82 = .ok (.if_icmp .ge 30, 3) := by decide +kernel
theorem dX5_tick_85 : decode cX5_tick 85 = .ok (.aload_n 0, 1) := by decide +kernel
theorem dX5_tick_86 : decode cX5_tick 86 = .ok (.getfield 49, 3) := by decide +kernel
theorem dX5_tick_89 : decode cX5_tick 89 = .ok (.iload_n 2, 1) := by decide +kernel
theorem dX5_tick_90 : decode cX5_tick 90 = .ok (.aload_n 0, 1) := by decide +kernel
theorem dX5_tick_91 : decode cX5_tick 91 = .ok (.getfield 53, 3) := by decide +kernel
theorem dX5_tick_94 : decode cX5_tick 94 = .ok (.aload_n 0, 1) := by decide +kernel
theorem dX5_tick_95 : decode cX5_tick 95 = .ok (.getfield 35, 3) := by decide +kernel
theorem dX5_tick_98 : decode cX5_tick 98 = .ok (.getfield 122, 3) := by decide +kernel
theorem dX5_tick_101 : decode cX5_tick 101 = .ok (.iload_n 2, 1) := by decide +kernel
theorem dX5_tick_102 : decode cX5_tick 102 = .ok (.iaload, 1) := by decide +kernel
theorem dX5_tick_103 : decode cX5_tick 103 = .ok (.invokevirtual 125, 3) := by decide +kernel
theorem dX5_tick_106 : decode cX5_tick 106 = .ok (.iinc 2 1, 3) := by decide +kernel
theorem dX5_tick_109 : decode cX5_tick 109 = .ok (.goto (-29), 3) := by decide +kernel
theorem dX5_tick_112 : decode cX5_tick 112 = .ok (.iload_n 1, 1) := by decide +kernel
theorem dX5_tick_113 : decode cX5_tick 113 = .ok (.ireturn, 1) := by decide +kernel
theorem dX5_moveDrum_0 : decode cX5_moveDrum 0 = .ok (.aload_n 0, 1) := by decide +kernel
theorem dX5_moveDrum_1 : decode cX5_moveDrum 1 = .ok (.dup, 1) := by decide +kernel
theorem dX5_moveDrum_2 : decode cX5_moveDrum 2 = .ok (.getfield 56, 3) := by decide +kernel
theorem dX5_moveDrum_5 : decode cX5_moveDrum 5 = .ok (.iconst 1, 1) := by decide +kernel
theorem dX5_moveDrum_6 : decode cX5_moveDrum 6 = .ok (.iadd, 1) := by decide +kernel
theorem dX5_moveDrum_7 : decode cX5_moveDrum 7 = .ok (.putfield 56, 3) := by decide +kernel
theorem dX5_moveDrum_10 : decode cX5_moveDrum 10 = .ok (.aload_n 0, 1) := by decide +kernel
theorem dX5_moveDrum_11 : decode cX5_moveDrum 11 = .ok (.getfield 56, 3) := by decide +kernel
theorem dX5_moveDrum_14 : decode cX5_moveDrum 14 = .ok (.aload_n 0, 1) := by decide +kernel
theorem dX5_moveDrum_15 : decode cX5_moveDrum 15 = .ok (.getfield 15, 3) := by decide +kernel
theorem dX5_moveDrum_18 : decode cX5_moveDrum 18 = .ok (.if_icmp .ge 5, 3) := by decide +kernel
theorem dX5_moveDrum_21 : decode cX5_moveDrum 21 = .ok (.iconst 0, 1) := by decide +kernel
theorem dX5_moveDrum_22 : decode cX5_moveDrum 22 = .ok (.ireturn, 1) := by decide +kernel
theorem dX5_moveDrum_23 : decode cX5_moveDrum 23 = .ok (.aload_n 0, 1) := by decide +kernel
theorem dX5_moveDrum_24 : decode cX5_moveDrum 24 = .ok (.getfield 28, 3) := by decide +kernel
theorem dX5_moveDrum_27 : decode cX5_moveDrum 27 = .ok (.getfield 129, 3) := by decide +kernel
theorem dX5_moveDrum_30 : decode cX5_moveDrum 30 = .ok (.aload_n 0, 1) := by decide +kernel
theorem dX5_moveDrum_31 : decode cX5_moveDrum 31 = .ok (.getfield 18, 3) := by decide +kernel
theorem dX5_moveDrum_34 : decode cX5_moveDrum 34 = .ok (.if_icmp .ge 31, 3) := by decide +kernel
theorem dX5_moveDrum_37 : decode cX5_moveDrum 37 = .ok (.aload_n 0, 1) := by decide +kernel
theorem dX5_moveDrum_38 : decode cX5_moveDrum 38 = .ok (.iconst 0, 1) := by decide +kernel
theorem dX5_moveDrum_39 : decode cX5_moveDrum 39 = .ok (.putfield 56, 3) := by decide +kernel
theorem dX5_moveDrum_42 : decode cX5_moveDrum 42 = .ok (.aload_n 0, 1) := by decide +kernel
theorem dX5_moveDrum_43 : decode cX5_moveDrum 43 = .ok (.dup, 1) := by decide +kernel
theorem dX5_moveDrum_44 : decode cX5_moveDrum 44 = .ok (.getfield 65, 3) := by decide +kernel
theorem dX5_moveDrum_47 : decode cX5_moveDrum 47 = .ok (.iconst 1, 1) := by decide +kernel
theorem dX5_moveDrum_48 : decode cX5_moveDrum 48 = .ok (.iadd, 1) := by decide +kernel
theorem dX5_moveDrum_49 : decode cX5_moveDrum 49 = .ok (.putfield 65, 3) := by decide +kernel
theorem dX5_moveDrum_52 : decode cX5_moveDrum 52 = .ok (.aload_n 0, 1) := by decide +kernel
theorem dX5_moveDrum_53 : decode cX5_moveDrum 53 = .ok (.getfield 49, 3) := by decide +kernel
theorem dX5_moveDrum_56 : decode cX5_moveDrum 56 = .ok (.aload_n 0, 1) := by decide +kernel
theorem dX5_moveDrum_57 : decode cX5_moveDrum 57 = .ok (.getfield 53, 3) := by decide +kernel
theorem dX5_moveDrum_60 : decode cX5_moveDrum 60 = .ok (.invokevirtual 132, 3) := by decide +kernel
theorem dX5_moveDrum_63 : decode cX5_moveDrum 63 = .ok (.iconst 1, 1) := by decide +kernel
theorem dX5_moveDrum_64 : decode cX5_moveDrum 64 = .ok (.ireturn, 1) := by decide +kernel
theorem dX5_moveDrum_65 : decode cX5_moveDrum 65 = .ok (.aload_n 0, 1) := by decide +kernel
theorem dX5_moveDrum_66 : decode cX5_moveDrum 66 = .ok (.aload_n 0, 1) := by decide +kernel
theorem dX5_moveDrum_67 : decode cX5_moveDrum 67 = .ok (.getfield 53, 3) := by decide +kernel
theorem dX5_moveDrum_70 : decode cX5_moveDrum 70 = .ok (.iconst 1, 1) := by decide +kernel
theorem dX5_moveDrum_71 : decode cX5_moveDrum 71 = .ok (.iadd, 1) := by decide +kernel
theorem dX5_moveDrum_72 : decode cX5_moveDrum 72 = .ok (.aload_n 0, 1) := by decide +kernel
theorem dX5_moveDrum_73 : decode cX5_moveDrum 73 = .ok (.getfield 9, 3) := by decide +kernel
theorem dX5_moveDrum_76 : decode cX5_moveDrum 76 = .ok (.if_icmp .ge 12, 3) := by decide +kernel
theorem dX5_moveDrum_79 : decode cX5_moveDrum 79 = .ok (.aload_n 0, 1) := by decide +kernel
theorem dX5_moveDrum_80 : decode cX5_moveDrum 80 = .ok (.getfield 53, 3) := by decide +kernel
theorem dX5_moveDrum_83 : decode cX5_moveDrum 83 = .ok (.iconst 1, 1) := by decide +kernel
theorem dX5_moveDrum_84 : decode cX5_moveDrum 84 = .ok (.iadd, 1) := by decide +kernel
theorem dX5_moveDrum_85 : decode cX5_moveDrum 85 = .ok (.goto 4, 3) := by decide +kernel
theorem dX5_moveDrum_88 : decode cX5_moveDrum 88 = .ok (.iconst 0, 1) := by decide +kernel
theorem dX5_moveDrum_89 : decode cX5_moveDrum 89 = .ok (.invokevirtual 95, 3) := by decide +kernel
theorem dX5_moveDrum_92 : decode cX5_moveDrum 92 = .ok (.aload_n 0, 1) := by decide +kernel
theorem dX5_moveDrum_93 : decode cX5_moveDrum 93 = .ok (.getfield 53, 3) := by decide +kernel
theorem dX5_moveDrum_96 : decode cX5_moveDrum 96 = .ok (.ifCond .le 5, 3) := by decide +kernel
theorem dX5_moveDrum_99 : decode cX5_moveDrum 99 = .ok (.iconst 2, 1) := by decide +kernel
theorem dX5_moveDrum_100 : decode cX5_moveDrum 100 = .ok (.ireturn, 1) := by decide +kernel
theorem dX5_moveDrum_101 : decode cX5_moveDrum 101 = .ok (.aload_n 0, 1) := by decide +kernel
theorem dX5_moveDrum_102 : decode cX5_moveDrum 102 = .ok (.dup, 1) := by decide +kernel
theorem dX5_moveDrum_103 : decode cX5_moveDrum 103 = .ok (.getfield 62, 3) := by decide +kernel
theorem dX5_moveDrum_106 : decode cX5_moveDrum 106 = .ok (.iconst 1, 1) := by decide +kernel
theorem dX5_moveDrum_107 : decode cX5_moveDrum 107 = .ok (.iadd, 1) := by decide +kernel
theorem dX5_moveDrum_108 : decode cX5_moveDrum 108 = .ok (.putfield 62, 3) := by decide +kernel
theorem dX5_moveDrum_111 : decode cX5_moveDrum 111 = .ok (.iconst 3, 1) := by decide +kernel
theorem dX5_moveDrum_112 : decode cX5_moveDrum 112 = .ok (.ireturn, 1) := by decide +kernel
theorem dX5_moveOut_0 : decode cX5_moveOut 0 = .ok (.aload_n 0, 1) := by decide +kernel
theorem dX5_moveOut_1 : decode cX5_moveOut 1 = .ok (.getfield 35, 3) := by decide +kernel
theorem dX5_moveOut_4 : decode cX5_moveOut 4 = .ok (.getfield 135, 3) := by decide +kernel
theorem dX5_moveOut_7 : decode cX5_moveOut 7 = .ok (.iload_n 1, 1) := by decide +kernel
theorem dX5_moveOut_8 : decode cX5_moveOut 8 = .ok (.iaload, 1) := by decide +kernel
theorem dX5_moveOut_9 : decode cX5_moveOut 9 = .ok (.aload_n 0, 1) := by decide +kernel
theorem dX5_moveOut_10 : decode cX5_moveOut 10 = .ok (.iload_n 1, 1) := by decide +kernel
theorem dX5_moveOut_11 : decode cX5_moveOut 11 = .ok (.invokevirtual 138, 3) := by decide +kernel
theorem dX5_moveOut_14 : decode cX5_moveOut 14 = .ok (.invokestatic 141, 3) := by decide +kernel
theorem dX5_moveOut_17 : decode cX5_moveOut 17 = .ok (.istore_n 2, 1) := by decide +kernel
theorem dX5_moveOut_18 : decode cX5_moveOut 18 = .ok (.iload_n 2, 1) := by decide +kernel
theorem dX5_moveOut_19 : decode cX5_moveOut 19 = .ok (.aload_n 0, 1) := by decide +kernel
theorem dX5_moveOut_20 : decode cX5_moveOut 20 = .ok (.getfield 28, 3) := by decide +kernel
theorem dX5_moveOut_23 : decode cX5_moveOut 23 = .ok (.aload_n 0, 1) := by decide +kernel
theorem dX5_moveOut_24 : decode cX5_moveOut 24 = .ok (.getfield 35, 3) := by decide +kernel
theorem dX5_moveOut_27 : decode cX5_moveOut 27 = .ok (.getfield 147, 3) := by decide +kernel
theorem dX5_moveOut_30 : decode cX5_moveOut 30 = .ok (.iload_n 1, 1) := by decide +kernel
theorem dX5_moveOut_31 : decode cX5_moveOut 31 = .ok (.iaload, 1) := by decide +kernel
theorem dX5_moveOut_32 : decode cX5_moveOut 32 = .ok (.invokevirtual 150, 3) := by decide +kernel
theorem dX5_moveOut_35 : decode cX5_moveOut 35 = .ok (.invokestatic 141, 3) := by decide +kernel
theorem dX5_moveOut_38 : decode cX5_moveOut 38 = .ok (.istore_n 2, 1) := by decide +kernel
theorem dX5_moveOut_39 : decode cX5_moveOut 39 = .ok (.aload_n 0, 1) := by decide +kernel
theorem dX5_moveOut_40 : decode cX5_moveOut 40 = .ok (.getfield 35, 3) := by decide +kernel
theorem dX5_moveOut_43 : decode cX5_moveOut 43 = .ok (.getfield 147, 3) := by decide +kernel
theorem dX5_moveOut_46 : decode cX5_moveOut 46 = .ok (.iload_n 1, 1) := by decide +kernel
theorem dX5_moveOut_47 : decode cX5_moveOut 47 = .ok (.iaload, 1) := by decide +kernel
theorem dX5_moveOut_48 : decode cX5_moveOut 48 = .ok (.iload_n 2, 1) := by decide +kernel
theorem dX5_moveOut_49 : decode cX5_moveOut 49 = .ok (.imul, 1) := by decide +kernel
theorem dX5_moveOut_50 : decode cX5_moveOut 50 = .ok (.istore_n 3, 1) := by decide +kernel
theorem dX5_moveOut_51 : decode cX5_moveOut 51 = .ok (.aload_n 0, 1) := by decide +kernel
theorem dX5_moveOut_52 : decode cX5_moveOut 52 = .ok (.getfield 28, 3) := by decide +kernel
theorem dX5_moveOut_55 : decode cX5_moveOut 55 = .ok (.iload_n 3, 1) := by decide +kernel
theorem dX5_moveOut_56 : decode cX5_moveOut 56 = .ok (.invokevirtual 153, 3) := by decide +kernel
theorem dX5_moveOut_59 : decode cX5_moveOut 59 = .ok (.aload_n 0, 1) := by decide +kernel
theorem dX5_moveOut_60 : decode cX5_moveOut 60 = .ok (.getfield 35, 3) := by decide +kernel
theorem dX5_moveOut_63 : decode cX5_moveOut 63 = .ok (.getfield 156, 3) := by decide +kernel
theorem dX5_moveOut_66 : decode cX5_moveOut 66 = .ok (.iload_n 1, 1) := by decide +kernel
theorem dX5_moveOut_67 : decode cX5_moveOut 67 = .ok (.dup2, 1) := by decide +kernel
theorem dX5_moveOut_68 : decode cX5_moveOut 68 = .ok (.iaload, 1) := by decide +kernel
theorem dX5_moveOut_69 : decode cX5_moveOut 69 = .ok (.iload_n 3, 1) := by decide +kernel
theorem dX5_moveOut_70 : decode cX5_moveOut 70 = .ok (.iadd, 1) := by decide +kernel
theorem dX5_moveOut_71 : decode cX5_moveOut 71 = .ok (.iastore, 1) := by decide +kernel
theorem dX5_moveOut_72 : decode cX5_moveOut 72 = .ok (.aload_n 0, 1) := by decide +kernel
theorem dX5_moveOut_73 : decode cX5_moveOut 73 = .ok (.getfield 35, 3) := by decide +kernel
theorem dX5_moveOut_76 : decode cX5_moveOut 76 = .ok (.getfield 122, 3) := by decide +kernel
theorem dX5_moveOut_79 : decode cX5_moveOut 79 = .ok (.iload_n 1, 1) := by decide +kernel
theorem dX5_moveOut_80 : decode cX5_moveOut 80 = .ok (.dup2, 1) := by decide +kernel
theorem dX5_moveOut_81 : decode cX5_moveOut 81 = .ok (.iaload, 1) := by decide +kernel
theorem dX5_moveOut_82 : decode cX5_moveOut 82 = .ok (.iload_n 2, 1) := by decide +kernel
theorem dX5_moveOut_83 : decode cX5_moveOut 83 = .ok (.iadd, 1) := by decide +kernel
theorem dX5_moveOut_84 : decode cX5_moveOut 84 = .ok (.iastore, 1) := by decide +kernel
theorem dX5_moveOut_85 : decode cX5_moveOut 85 = .ok (.return_, 1) := by decide +kernel
theorem dX5_moveIn_0 : decode cX5_moveIn 0 = .ok (.aload_n 0, 1) := by decide +kernel
theorem dX5_moveIn_1 : decode cX5_moveIn 1 = .ok (.getfield 35, 3) := by decide +kernel
theorem dX5_moveIn_4 : decode cX5_moveIn 4 = .ok (.getfield 122, 3) := by decide +kernel
theorem dX5_moveIn_7 : decode cX5_moveIn 7 = .ok (.iload_n 1, 1) := by decide +kernel
theorem dX5_moveIn_8 : decode cX5_moveIn 8 = .ok (.aload_n 0, 1) := by decide +kernel
theorem dX5_moveIn_9 : decode cX5_moveIn 9 = .ok (.getfield 35, 3) := by decide +kernel
theorem dX5_moveIn_12 : decode cX5_moveIn 12 = .ok (.getfield 122, 3) := by decide +kernel
theorem dX5_moveIn_15 : decode cX5_moveIn 15 = .ok (.iload_n 1, 1) := by decide +kernel
theorem dX5_moveIn_16 : decode cX5_moveIn 16 = .ok (.iaload, 1) := by decide +kernel
theorem dX5_moveIn_17 : decode cX5_moveIn 17 = .ok (.aload_n 0, 1) := by decide +kernel
theorem dX5_moveIn_18 : decode cX5_moveIn 18 = .ok (.getfield 35, 3) := by decide +kernel
theorem dX5_moveIn_21 : decode cX5_moveIn 21 = .ok (.getfield 135, 3) := by decide +kernel
theorem dX5_moveIn_24 : decode cX5_moveIn 24 = .ok (.iload_n 1, 1) := by decide +kernel
theorem dX5_moveIn_25 : decode cX5_moveIn 25 = .ok (.iaload, 1) := by decide +kernel
theorem dX5_moveIn_26 : decode cX5_moveIn 26 = .ok (.isub, 1) := by decide +kernel
theorem dX5_moveIn_27 : decode cX5_moveIn 27 = .ok (.iconst 0, 1) := by decide +kernel
theorem dX5_moveIn_28 : decode cX5_moveIn 28 = .ok (.invokestatic 159, 3) := by decide +kernel
theorem dX5_moveIn_31 : decode cX5_moveIn 31 = .ok (.iastore, 1) := by decide +kernel
theorem dX5_moveIn_32 : decode cX5_moveIn 32 = .ok (.return_, 1) := by decide +kernel
theorem dX5_leakAt_0 : decode cX5_leakAt 0 = .ok (.aload_n 0, 1) := by decide +kernel
theorem dX5_leakAt_1 : decode cX5_leakAt 1 = .ok (.iload_n 1, 1) := by decide +kernel
theorem dX5_leakAt_2 : decode cX5_leakAt 2 = .ok (.aload_n 0, 1) := by decide +kernel
theorem dX5_leakAt_3 : decode cX5_leakAt 3 = .ok (.getfield 53, 3) := by decide +kernel
theorem dX5_leakAt_6 : decode cX5_leakAt 6 = .ok (.invokevirtual 109, 3) := by decide +kernel
theorem dX5_leakAt_9 : decode cX5_leakAt 9 = .ok (.ifCond .eq 43, 3) := by decide +kernel
theorem dX5_leakAt_12 : decode cX5_leakAt 12 = .ok (.aload_n 0, 1) := by decide +kernel
theorem dX5_leakAt_13 : decode cX5_leakAt 13 = .ok (.getfield 35, 3) := by decide +kernel
theorem dX5_leakAt_16 : decode cX5_leakAt 16 = .ok (.getfield 122, 3) := by decide +kernel
theorem dX5_leakAt_19 : decode cX5_leakAt 19 = .ok (.iload_n 1, 1) := by decide +kernel
theorem dX5_leakAt_20 : decode cX5_leakAt 20 = .ok (.iaload, 1) := by decide +kernel
theorem dX5_leakAt_21 : decode cX5_leakAt 21 = .ok (.ifCond .le 31, 3) := by decide +kernel
theorem dX5_leakAt_24 : decode cX5_leakAt 24 = .ok (.aload_n 0, 1) := by decide +kernel
theorem dX5_leakAt_25 : decode cX5_leakAt 25 = .ok (.getfield 35, 3) := by decide +kernel
theorem dX5_leakAt_28 : decode cX5_leakAt 28 = .ok (.getfield 162, 3) := by decide +kernel
theorem dX5_leakAt_31 : decode cX5_leakAt 31 = .ok (.iload_n 1, 1) := by decide +kernel
theorem dX5_leakAt_32 : decode cX5_leakAt 32 = .ok (.dup2, 1) := by decide +kernel
theorem dX5_leakAt_33 : decode cX5_leakAt 33 = .ok (.iaload, 1) := by decide +kernel
theorem dX5_leakAt_34 : decode cX5_leakAt 34 = .ok (.aload_n 0, 1) := by decide +kernel
theorem dX5_leakAt_35 : decode cX5_leakAt 35 = .ok (.getfield 28, 3) := by decide +kernel
theorem dX5_leakAt_38 : decode cX5_leakAt 38 = .ok (.aload_n 0, 1) := by decide +kernel
theorem dX5_leakAt_39 : decode cX5_leakAt 39 = .ok (.getfield 35, 3) := by decide +kernel
theorem dX5_leakAt_42 : decode cX5_leakAt 42 = .ok (.getfield 165, 3) := by decide +kernel
theorem dX5_leakAt_45 : decode cX5_leakAt 45 = .ok (.iload_n 1, 1) := by decide +kernel
theorem dX5_leakAt_46 : decode cX5_leakAt 46 = .ok (.iaload, 1) := by decide +kernel
theorem dX5_leakAt_47 : decode cX5_leakAt 47 = .ok (.invokevirtual 168, 3) := by decide +kernel
theorem dX5_leakAt_50 : decode cX5_leakAt 50 = .ok (.iadd, 1) := by decide +kernel
theorem dX5_leakAt_51 : decode cX5_leakAt 51 = .ok (.iastore, 1) := by decide +kernel
theorem dX5_leakAt_52 : decode cX5_leakAt 52 = .ok (.return_, 1) := by decide +kernel
theorem dX5_roomByGuards_0 : decode cX5_roomByGuards 0 = .ok (.bipush 100, 2) := by decide +kernel
theorem dX5_roomByGuards_2 : decode cX5_roomByGuards 2 = .ok (.aload_n 0, 1) := by decide +kernel
theorem dX5_roomByGuards_3 : decode cX5_roomByGuards 3 = .ok (.getfield 35, 3) := by decide +kernel
theorem dX5_roomByGuards_6 : decode cX5_roomByGuards 6 = .ok (.getfield 122, 3) := by decide +kernel
theorem dX5_roomByGuards_9 : decode cX5_roomByGuards 9 = .ok (.iload_n 1, 1) := by decide +kernel
theorem dX5_roomByGuards_10 : decode cX5_roomByGuards 10 = .ok (.iaload, 1) := by decide +kernel
theorem dX5_roomByGuards_11 : decode cX5_roomByGuards 11 = .ok (.isub, 1) := by decide +kernel
theorem dX5_roomByGuards_12 : decode cX5_roomByGuards 12 = .ok (.istore_n 2, 1) := by decide +kernel
theorem dX5_roomByGuards_13 : decode cX5_roomByGuards 13 = .ok (.iconst 0, 1) := by decide +kernel
theorem dX5_roomByGuards_14 : decode cX5_roomByGuards 14 = .ok (.istore_n 3, 1) := by decide +kernel
theorem dX5_roomByGuards_15 : decode cX5_roomByGuards 15 = .ok (.iload_n 3, 1) := by decide +kernel
theorem dX5_roomByGuards_16 : decode cX5_roomByGuards 16 = .ok (.aload_n 0, 1) := by decide +kernel
theorem dX5_roomByGuards_17 : decode cX5_roomByGuards 17 = .ok (.getfield 42, 3) := by decide +kernel
theorem dX5_roomByGuards_20 : decode cX5_roomByGuards 20 = .ok (.getfield 171, 3) := by decide +kernel
theorem dX5_roomByGuards_23 : decode cX5_roomByGuards 23 = .ok (.if_icmp .ge 59, 3) := by decide +kernel
theorem dX5_roomByGuards_26 : decode cX5_roomByGuards 26 = .ok (.iload_n 3, 1) := by decide +kernel
theorem dX5_roomByGuards_27 : decode cX5_roomByGuards 27 = .ok (.iconst 4, 1) := by decide +kernel
theorem dX5_roomByGuards_28 : decode cX5_roomByGuards 28 = .ok (.if_icmp .ge 54, 3) := by decide +kernel
theorem dX5_roomByGuards_31 : decode cX5_roomByGuards 31 = .ok (.aload_n 0, 1) := by decide +kernel
theorem dX5_roomByGuards_32 : decode cX5_roomByGuards 32 = .ok (.getfield 42, 3) := by decide +kernel
theorem dX5_roomByGuards_35 : decode cX5_roomByGuards 35 = .ok (.getfield 174, 3) := by decide +kernel
theorem dX5_roomByGuards_38 : decode cX5_roomByGuards 38 = .ok (.iload_n 3, 1) := by decide +kernel
theorem dX5_roomByGuards_39 : decode cX5_roomByGuards 39 = .ok (.iaload, 1) := by decide +kernel
theorem dX5_roomByGuards_40 : decode cX5_roomByGuards 40 = .ok (.iload_n 1, 1) := by decide +kernel
theorem dX5_roomByGuards_41 : decode cX5_roomByGuards 41 = .ok (.if_icmp .ne 35, 3) := by decide +kernel
theorem dX5_roomByGuards_44 : decode cX5_roomByGuards 44 = .ok (.aload_n 0, 1) := by decide +kernel
theorem dX5_roomByGuards_45 : decode cX5_roomByGuards 45 = .ok (.iload_n 3, 1) := by decide +kernel
theorem dX5_roomByGuards_46 : decode cX5_roomByGuards 46 = .ok (.invokevirtual 177, 3) := by decide +kernel
theorem dX5_roomByGuards_49 : decode cX5_roomByGuards 49 = .ok (.ifCond .eq 27, 3) := by decide +kernel
theorem dX5_roomByGuards_52 : decode cX5_roomByGuards 52 = .ok (.iload_n 2, 1) := by decide +kernel
theorem dX5_roomByGuards_53 : decode cX5_roomByGuards 53 = .ok (.aload_n 0, 1) := by decide +kernel
theorem dX5_roomByGuards_54 : decode cX5_roomByGuards 54 = .ok (.getfield 42, 3) := by decide +kernel
theorem dX5_roomByGuards_57 : decode cX5_roomByGuards 57 = .ok (.getfield 181, 3) := by decide +kernel
theorem dX5_roomByGuards_60 : decode cX5_roomByGuards 60 = .ok (.iload_n 3, 1) := by decide +kernel
theorem dX5_roomByGuards_61 : decode cX5_roomByGuards 61 = .ok (.iaload, 1) := by decide +kernel
theorem dX5_roomByGuards_62 : decode cX5_roomByGuards 62 = .ok (.aload_n 0, 1) := by decide +kernel
theorem dX5_roomByGuards_63 : decode cX5_roomByGuards 63 = .ok (.getfield 35, 3) := by decide +kernel
theorem dX5_roomByGuards_66 : decode cX5_roomByGuards 66 = .ok (.getfield 122, 3) := by decide +kernel
theorem dX5_roomByGuards_69 : decode cX5_roomByGuards 69 = .ok (.iload_n 1, 1) := by decide +kernel
theorem dX5_roomByGuards_70 : decode cX5_roomByGuards 70 = .ok (.iaload, 1) := by decide +kernel
theorem dX5_roomByGuards_71 : decode cX5_roomByGuards 71 = .ok (.isub, 1) := by decide +kernel
theorem dX5_roomByGuards_72 : decode cX5_roomByGuards 72 = .ok (.invokestatic 141, 3) := by decide +kernel
theorem dX5_roomByGuards_75 : decode cX5_roomByGuards 75 = .ok (.istore_n 2, 1) := by decide +kernel
theorem dX5_roomByGuards_76 : decode cX5_roomByGuards 76 = .ok (.iinc 3 1, 3) := by decide +kernel
theorem dX5_roomByGuards_79 : decode cX5_roomByGuards 79 = .ok (.goto (-64), 3) := by decide +kernel
theorem dX5_roomByGuards_82 : decode cX5_roomByGuards 82 = .ok (.iload_n 2, 1) := by decide +kernel
theorem dX5_roomByGuards_83 : decode cX5_roomByGuards 83 = .ok (.iconst 0, 1) := by decide +kernel
theorem dX5_roomByGuards_84 : decode cX5_roomByGuards 84 = .ok (.invokestatic 159, 3) := by decide +kernel
theorem dX5_roomByGuards_87 : decode cX5_roomByGuards 87 = .ok (.ireturn, 1) := by decide +kernel
theorem dX5_holds_0 : decode cX5_holds 0 = .ok (.aload_n 0, 1) := by decide +kernel
theorem dX5_holds_1 : decode cX5_holds 1 = .ok (.getfield 42, 3) := by decide +kernel
theorem dX5_holds_4 : decode cX5_holds 4 = .ok (.getfield 184, 3) := by decide +kernel
theorem dX5_holds_7 : decode cX5_holds 7 = .ok (.iload_n 1, 1) := by decide +kernel
theorem dX5_holds_8 : decode cX5_holds 8 = .ok (.iaload, 1) := by decide +kernel
theorem dX5_holds_9 : decode cX5_holds 9 = .ok (.istore_n 2, 1) := by decide +kernel
theorem dX5_holds_10 : decode cX5_holds 10 = .ok (.iload_n 2, 1) := by decide +kernel
theorem dX5_holds_11 : decode cX5_holds 11 = .ok (.ifCond .lt 33, 3) := by decide +kernel
theorem dX5_holds_14 : decode cX5_holds 14 = .ok (.iload_n 2, 1) := by decide +kernel
theorem dX5_holds_15 : decode cX5_holds 15 = .ok (.iconst 5, 1) := by decide +kernel
theorem dX5_holds_16 : decode cX5_holds 16 = .ok (.if_icmp .ge 28, 3) := by decide +kernel
theorem dX5_holds_19 : decode cX5_holds 19 = .ok (.aload_n 0, 1) := by decide +kernel
theorem dX5_holds_20 : decode cX5_holds 20 = .ok (.getfield 35, 3) := by decide +kernel
theorem dX5_holds_23 : decode cX5_holds 23 = .ok (.getfield 122, 3) := by decide +kernel
theorem dX5_holds_26 : decode cX5_holds 26 = .ok (.iload_n 2, 1) := by decide +kernel
theorem dX5_holds_27 : decode cX5_holds 27 = .ok (.iaload, 1) := by decide +kernel
theorem dX5_holds_28 : decode cX5_holds 28 = .ok (.aload_n 0, 1) := by decide +kernel
theorem dX5_holds_29 : decode cX5_holds 29 = .ok (.getfield 42, 3) := by decide +kernel
theorem dX5_holds_32 : decode cX5_holds 32 = .ok (.getfield 181, 3) := by decide +kernel
theorem dX5_holds_35 : decode cX5_holds 35 = .ok (.iload_n 1, 1) := by decide +kernel
theorem dX5_holds_36 : decode cX5_holds 36 = .ok (.iaload, 1) := by decide +kernel
theorem dX5_holds_37 : decode cX5_holds 37 = .ok (.if_icmp .le 7, 3) := by decide +kernel
theorem dX5_holds_40 : decode cX5_holds 40 = .ok (.iconst 1, 1) := by decide +kernel
theorem dX5_holds_41 : decode cX5_holds 41 = .ok (.goto 4, 3) := by decide +kernel
theorem dX5_holds_44 : decode cX5_holds 44 = .ok (.iconst 0, 1) := by decide +kernel
theorem dX5_holds_45 : decode cX5_holds 45 = .ok (.ireturn, 1) := by decide +kernel
theorem dX5_tickUntilCycleEnds_0 : decode cX5_tickUntilCycleEnds 0 = .ok (.iconst 1, 1) := by decide +kernel
theorem dX5_tickUntilCycleEnds_1 : decode cX5_tickUntilCycleEnds 1 = .ok (.istore_n 2, 1) := by decide +kernel
theorem dX5_tickUntilCycleEnds_2 : decode cX5_tickUntilCycleEnds 2 = .ok (.iload_n 2, 1) := by decide +kernel
theorem dX5_tickUntilCycleEnds_3 : decode cX5_tickUntilCycleEnds 3 = .ok (.iload_n 1, 1) := by decide +kernel
theorem dX5_tickUntilCycleEnds_4 : decode cX5_tickUntilCycleEnds 4 = .ok (.if_icmp .gt 19, 3) := by decide +kernel
theorem dX5_tickUntilCycleEnds_7 : decode cX5_tickUntilCycleEnds 7 = .ok (.aload_n 0, 1) := by decide +kernel
theorem dX5_tickUntilCycleEnds_8 : decode cX5_tickUntilCycleEnds 8 = .ok (.invokevirtual 187, 3) := by decide +kernel
theorem dX5_tickUntilCycleEnds_11 : decode cX5_tickUntilCycleEnds 11 = .ok (.iconst 3, 1) := by decide +kernel
theorem dX5_tickUntilCycleEnds_12 : decode cX5_tickUntilCycleEnds 12 = .ok (.if_icmp .ne 5, 3) := by decide +kernel
theorem dX5_tickUntilCycleEnds_15 : decode cX5_tickUntilCycleEnds 15 = .ok (.iload_n 2, 1) := by decide +kernel
theorem dX5_tickUntilCycleEnds_16 : decode cX5_tickUntilCycleEnds 16 = .ok (.ireturn, 1) := by decide +kernel
theorem dX5_tickUntilCycleEnds_17 : decode cX5_tickUntilCycleEnds 17 = .ok (.iinc 2 1, 3) := by decide +kernel
theorem dX5_tickUntilCycleEnds_20 : decode cX5_tickUntilCycleEnds 20 = .ok (.goto (-18), 3) := by decide +kernel
theorem dX5_tickUntilCycleEnds_23 : decode cX5_tickUntilCycleEnds 23 = .ok (.iconst (-1), 1) := by decide +kernel
theorem dX5_tickUntilCycleEnds_24 : decode cX5_tickUntilCycleEnds 24 = .ok (.ireturn, 1) := by decide +kernel
theorem dX5_allDueAreOut_0 : decode cX5_allDueAreOut 0 = .ok (.iconst 0, 1) := by decide +kernel
theorem dX5_allDueAreOut_1 : decode cX5_allDueAreOut 1 = .ok (.istore_n 1, 1) := by decide +kernel
theorem dX5_allDueAreOut_2 : decode cX5_allDueAreOut 2 = .ok (.iload_n 1, 1) := by decide +kernel
theorem dX5_allDueAreOut_3 : decode cX5_allDueAreOut 3 = .ok (.iconst 5, 1) := by decide +kernel
theorem dX5_allDueAreOut_4 : decode cX5_allDueAreOut 4 = .ok (.if_icmp .ge 37, 3) := by decide +kernel
theorem dX5_allDueAreOut_7 : decode cX5_allDueAreOut 7 = .ok (.aload_n 0, 1) := by decide +kernel
theorem dX5_allDueAreOut_8 : decode cX5_allDueAreOut 8 = .ok (.iload_n 1, 1) := by decide +kernel
theorem dX5_allDueAreOut_9 : decode cX5_allDueAreOut 9 = .ok (.aload_n 0, 1) := by decide +kernel
theorem dX5_allDueAreOut_10 : decode cX5_allDueAreOut 10 = .ok (.getfield 53, 3) := by decide +kernel
theorem dX5_allDueAreOut_13 : decode cX5_allDueAreOut 13 = .ok (.invokevirtual 109, 3) := by decide +kernel
theorem dX5_allDueAreOut_16 : decode cX5_allDueAreOut 16 = .ok (.ifCond .eq 19, 3) := by decide +kernel
theorem dX5_allDueAreOut_19 : decode cX5_allDueAreOut 19 = .ok (.aload_n 0, 1) := by decide +kernel
theorem dX5_allDueAreOut_20 : decode cX5_allDueAreOut 20 = .ok (.getfield 35, 3) := by decide +kernel
theorem dX5_allDueAreOut_23 : decode cX5_allDueAreOut 23 = .ok (.getfield 122, 3) := by decide +kernel
theorem dX5_allDueAreOut_26 : decode cX5_allDueAreOut 26 = .ok (.iload_n 1, 1) := by decide +kernel
theorem dX5_allDueAreOut_27 : decode cX5_allDueAreOut 27 = .ok (.iaload, 1) := by decide +kernel
theorem dX5_allDueAreOut_28 : decode cX5_allDueAreOut 28 = .ok (.bipush 100, 2) := by decide +kernel
theorem dX5_allDueAreOut_30 : decode cX5_allDueAreOut 30 = .ok (.if_icmp .ge 5, 3) := by decide +kernel
theorem dX5_allDueAreOut_33 : decode cX5_allDueAreOut 33 = .ok (.iconst 0, 1) := by decide +kernel
theorem dX5_allDueAreOut_34 : decode cX5_allDueAreOut 34 = .ok (.ireturn, 1) := by decide +kernel
theorem dX5_allDueAreOut_35 : decode cX5_allDueAreOut 35 = .ok (.iinc 1 1, 3) := by decide +kernel
theorem dX5_allDueAreOut_38 : decode cX5_allDueAreOut 38 = .ok (.goto (-36), 3) := by decide +kernel
theorem dX5_allDueAreOut_41 : decode cX5_allDueAreOut 41 = .ok (.iconst 1, 1) := by decide +kernel
theorem dX5_allDueAreOut_42 : decode cX5_allDueAreOut 42 = .ok (.ireturn, 1) := by decide +kernel
theorem dX5_standsAs_0 : decode cX5_standsAs 0 = .ok (.iconst 0, 1) := by decide +kernel
theorem dX5_standsAs_1 : decode cX5_standsAs 1 = .ok (.istore_n 2, 1) := by decide +kernel
theorem dX5_standsAs_2 : decode cX5_standsAs 2 = .ok (.iload_n 2, 1) := by decide +kernel
theorem dX5_standsAs_3 : decode cX5_standsAs 3 = .ok (.iconst 5, 1) := by decide +kernel
theorem dX5_standsAs_4 : decode cX5_standsAs 4 = .ok (.if_icmp .ge 32, 3) := by decide +kernel
theorem dX5_standsAs_7 : decode cX5_standsAs 7 = .ok (.aload_n 0, 1) := by decide +kernel
theorem dX5_standsAs_8 : decode cX5_standsAs 8 = .ok (.getfield 35, 3) := by decide +kernel
theorem dX5_standsAs_11 : decode cX5_standsAs 11 = .ok (.getfield 122, 3) := by decide +kernel
theorem dX5_standsAs_14 : decode cX5_standsAs 14 = .ok (.iload_n 2, 1) := by decide +kernel
theorem dX5_standsAs_15 : decode cX5_standsAs 15 = .ok (.iaload, 1) := by decide +kernel
theorem dX5_standsAs_16 : decode cX5_standsAs 16 = .ok (.aload_n 1, 1) := by decide +kernel
theorem dX5_standsAs_17 : decode cX5_standsAs 17 = .ok (.getfield 35, 3) := by decide +kernel
theorem dX5_standsAs_20 : decode cX5_standsAs 20 = .ok (.getfield 122, 3) := by decide +kernel
theorem dX5_standsAs_23 : decode cX5_standsAs 23 = .ok (.iload_n 2, 1) := by decide +kernel
theorem dX5_standsAs_24 : decode cX5_standsAs 24 = .ok (.iaload, 1) := by decide +kernel
theorem dX5_standsAs_25 : decode cX5_standsAs 25 = .ok (.if_icmp .eq 5, 3) := by decide +kernel
theorem dX5_standsAs_28 : decode cX5_standsAs 28 = .ok (.iconst 0, 1) := by decide +kernel
theorem dX5_standsAs_29 : decode cX5_standsAs 29 = .ok (.ireturn, 1) := by decide +kernel
theorem dX5_standsAs_30 : decode cX5_standsAs 30 = .ok (.iinc 2 1, 3) := by decide +kernel
theorem dX5_standsAs_33 : decode cX5_standsAs 33 = .ok (.goto (-31), 3) := by decide +kernel
theorem dX5_standsAs_36 : decode cX5_standsAs 36 = .ok (.aload_n 0, 1) := by decide +kernel
theorem dX5_standsAs_37 : decode cX5_standsAs 37 = .ok (.getfield 53, 3) := by decide +kernel
theorem dX5_standsAs_40 : decode cX5_standsAs 40 = .ok (.aload_n 1, 1) := by decide +kernel
theorem dX5_standsAs_41 : decode cX5_standsAs 41 = .ok (.getfield 53, 3) := by decide +kernel
theorem dX5_standsAs_44 : decode cX5_standsAs 44 = .ok (.if_icmp .ne 35, 3) := by decide +kernel
theorem dX5_standsAs_47 : decode cX5_standsAs 47 = .ok (.aload_n 0, 1) := by decide +kernel
theorem dX5_standsAs_48 : decode cX5_standsAs 48 = .ok (.getfield 56, 3) := by decide +kernel
theorem dX5_standsAs_51 : decode cX5_standsAs 51 = .ok (.aload_n 1, 1) := by decide +kernel
theorem dX5_standsAs_52 : decode cX5_standsAs 52 = .ok (.getfield 56, 3) := by decide +kernel
theorem dX5_standsAs_55 : decode cX5_standsAs 55 = .ok (.if_icmp .ne 24, 3) := by decide +kernel
theorem dX5_standsAs_58 : decode cX5_standsAs 58 = .ok (.aload_n 0, 1) := by decide +kernel
theorem dX5_standsAs_59 : decode cX5_standsAs 59 = .ok (.getfield 28, 3) := by decide +kernel
theorem dX5_standsAs_62 : decode cX5_standsAs 62 = .ok (.getfield 129, 3) := by decide +kernel
theorem dX5_standsAs_65 : decode cX5_standsAs 65 = .ok (.aload_n 1, 1) := by decide +kernel
theorem dX5_standsAs_66 : decode cX5_standsAs 66 = .ok (.getfield 28, 3) := by decide +kernel
theorem dX5_standsAs_69 : decode cX5_standsAs 69 = .ok (.getfield 129, 3) := by decide +kernel
theorem dX5_standsAs_72 : decode cX5_standsAs 72 = .ok (.if_icmp .ne 7, 3) := by decide +kernel
theorem dX5_standsAs_75 : decode cX5_standsAs 75 = .ok (.iconst 1, 1) := by decide +kernel
theorem dX5_standsAs_76 : decode cX5_standsAs 76 = .ok (.goto 4, 3) := by decide +kernel
theorem dX5_standsAs_79 : decode cX5_standsAs 79 = .ok (.iconst 0, 1) := by decide +kernel
theorem dX5_standsAs_80 : decode cX5_standsAs 80 = .ok (.ireturn, 1) := by decide +kernel
theorem dX5_number_0 : decode cX5_number 0 = .ok (.iload_n 1, 1) := by decide +kernel
theorem dX5_number_1 : decode cX5_number 1 = .ok (.tableswitch 171 0 14 #[75, 80, 85, 90, 95, 100, 108, 116, 124, 132, 137, 142, 147, 155, 163], 75) := by decide +kernel
theorem dX5_number_76 : decode cX5_number 76 = .ok (.aload_n 0, 1) := by decide +kernel
theorem dX5_number_77 : decode cX5_number 77 = .ok (.getfield 9, 3) := by decide +kernel
theorem dX5_number_80 : decode cX5_number 80 = .ok (.ireturn, 1) := by decide +kernel
theorem dX5_number_81 : decode cX5_number 81 = .ok (.aload_n 0, 1) := by decide +kernel
theorem dX5_number_82 : decode cX5_number 82 = .ok (.getfield 53, 3) := by decide +kernel
theorem dX5_number_85 : decode cX5_number 85 = .ok (.ireturn, 1) := by decide +kernel
theorem dX5_number_86 : decode cX5_number 86 = .ok (.aload_n 0, 1) := by decide +kernel
theorem dX5_number_87 : decode cX5_number 87 = .ok (.getfield 56, 3) := by decide +kernel
theorem dX5_number_90 : decode cX5_number 90 = .ok (.ireturn, 1) := by decide +kernel
theorem dX5_number_91 : decode cX5_number 91 = .ok (.aload_n 0, 1) := by decide +kernel
theorem dX5_number_92 : decode cX5_number 92 = .ok (.getfield 15, 3) := by decide +kernel
theorem dX5_number_95 : decode cX5_number 95 = .ok (.ireturn, 1) := by decide +kernel
theorem dX5_number_96 : decode cX5_number 96 = .ok (.aload_n 0, 1) := by decide +kernel
theorem dX5_number_97 : decode cX5_number 97 = .ok (.getfield 18, 3) := by decide +kernel
theorem dX5_number_100 : decode cX5_number 100 = .ok (.ireturn, 1) := by decide +kernel
theorem dX5_number_101 : decode cX5_number 101 = .ok (.aload_n 0, 1) := by decide +kernel
theorem dX5_number_102 : decode cX5_number 102 = .ok (.getfield 28, 3) := by decide +kernel
theorem dX5_number_105 : decode cX5_number 105 = .ok (.getfield 129, 3) := by decide +kernel
theorem dX5_number_108 : decode cX5_number 108 = .ok (.ireturn, 1) := by decide +kernel
theorem dX5_number_109 : decode cX5_number 109 = .ok (.aload_n 0, 1) := by decide +kernel
theorem dX5_number_110 : decode cX5_number 110 = .ok (.getfield 28, 3) := by decide +kernel
theorem dX5_number_113 : decode cX5_number 113 = .ok (.getfield 190, 3) := by decide +kernel
theorem dX5_number_116 : decode cX5_number 116 = .ok (.ireturn, 1) := by decide +kernel
theorem dX5_number_117 : decode cX5_number 117 = .ok (.aload_n 0, 1) := by decide +kernel
theorem dX5_number_118 : decode cX5_number 118 = .ok (.getfield 28, 3) := by decide +kernel
theorem dX5_number_121 : decode cX5_number 121 = .ok (.getfield 193, 3) := by decide +kernel
theorem dX5_number_124 : decode cX5_number 124 = .ok (.ireturn, 1) := by decide +kernel
theorem dX5_number_125 : decode cX5_number 125 = .ok (.aload_n 0, 1) := by decide +kernel
theorem dX5_number_126 : decode cX5_number 126 = .ok (.getfield 42, 3) := by decide +kernel
theorem dX5_number_129 : decode cX5_number 129 = .ok (.getfield 171, 3) := by decide +kernel
theorem dX5_number_132 : decode cX5_number 132 = .ok (.ireturn, 1) := by decide +kernel
theorem dX5_number_133 : decode cX5_number 133 = .ok (.aload_n 0, 1) := by decide +kernel
theorem dX5_number_134 : decode cX5_number 134 = .ok (.getfield 59, 3) := by decide +kernel
theorem dX5_number_137 : decode cX5_number 137 = .ok (.ireturn, 1) := by decide +kernel
theorem dX5_number_138 : decode cX5_number 138 = .ok (.aload_n 0, 1) := by decide +kernel
theorem dX5_number_139 : decode cX5_number 139 = .ok (.getfield 62, 3) := by decide +kernel
theorem dX5_number_142 : decode cX5_number 142 = .ok (.ireturn, 1) := by decide +kernel
theorem dX5_number_143 : decode cX5_number 143 = .ok (.aload_n 0, 1) := by decide +kernel
theorem dX5_number_144 : decode cX5_number 144 = .ok (.getfield 65, 3) := by decide +kernel
theorem dX5_number_147 : decode cX5_number 147 = .ok (.ireturn, 1) := by decide +kernel
theorem dX5_number_148 : decode cX5_number 148 = .ok (.aload_n 0, 1) := by decide +kernel
theorem dX5_number_149 : decode cX5_number 149 = .ok (.getfield 28, 3) := by decide +kernel
theorem dX5_number_152 : decode cX5_number 152 = .ok (.getfield 196, 3) := by decide +kernel
theorem dX5_number_155 : decode cX5_number 155 = .ok (.ireturn, 1) := by decide +kernel
theorem dX5_number_156 : decode cX5_number 156 = .ok (.aload_n 0, 1) := by decide +kernel
theorem dX5_number_157 : decode cX5_number 157 = .ok (.getfield 28, 3) := by decide +kernel
theorem dX5_number_160 : decode cX5_number 160 = .ok (.getfield 199, 3) := by decide +kernel
theorem dX5_number_163 : decode cX5_number 163 = .ok (.ireturn, 1) := by decide +kernel
theorem dX5_number_164 : decode cX5_number 164 = .ok (.aload_n 0, 1) := by decide +kernel
theorem dX5_number_165 : decode cX5_number 165 = .ok (.getfield 28, 3) := by decide +kernel
theorem dX5_number_168 : decode cX5_number 168 = .ok (.getfield 202, 3) := by decide +kernel
theorem dX5_number_171 : decode cX5_number 171 = .ok (.ireturn, 1) := by decide +kernel
theorem dX5_number_172 : decode cX5_number 172 = .ok (.aload_n 0, 1) := by decide +kernel
theorem dX5_number_173 : decode cX5_number 173 = .ok (.getfield 28, 3) := by decide +kernel
theorem dX5_number_176 : decode cX5_number 176 = .ok (.getfield 204, 3) := by decide +kernel
theorem dX5_number_179 : decode cX5_number 179 = .ok (.ireturn, 1) := by decide +kernel
theorem dX5_cylinderNumber_0 : decode cX5_cylinderNumber 0 = .ok (.iload_n 2, 1) := by decide +kernel
theorem dX5_cylinderNumber_1 : decode cX5_cylinderNumber 1 = .ok (.tableswitch 105 0 6 #[43, 53, 63, 73, 83, 89, 95], 43) := by decide +kernel
theorem dX5_cylinderNumber_44 : decode cX5_cylinderNumber 44 = .ok (.aload_n 0, 1) := by decide +kernel
theorem dX5_cylinderNumber_45 : decode cX5_cylinderNumber 45 = .ok (.getfield 35, 3) := by decide +kernel
theorem dX5_cylinderNumber_48 : decode cX5_cylinderNumber 48 = .ok (.getfield 122, 3) := by decide +kernel
theorem dX5_cylinderNumber_51 : decode cX5_cylinderNumber 51 = .ok (.iload_n 1, 1) := by decide +kernel
theorem dX5_cylinderNumber_52 : decode cX5_cylinderNumber 52 = .ok (.iaload, 1) := by decide +kernel
theorem dX5_cylinderNumber_53 : decode cX5_cylinderNumber 53 = .ok (.ireturn, 1) := by decide +kernel
theorem dX5_cylinderNumber_54 : decode cX5_cylinderNumber 54 = .ok (.aload_n 0, 1) := by decide +kernel
theorem dX5_cylinderNumber_55 : decode cX5_cylinderNumber 55 = .ok (.getfield 35, 3) := by decide +kernel
theorem dX5_cylinderNumber_58 : decode cX5_cylinderNumber 58 = .ok (.getfield 147, 3) := by decide +kernel
theorem dX5_cylinderNumber_61 : decode cX5_cylinderNumber 61 = .ok (.iload_n 1, 1) := by decide +kernel
theorem dX5_cylinderNumber_62 : decode cX5_cylinderNumber 62 = .ok (.iaload, 1) := by decide +kernel
theorem dX5_cylinderNumber_63 : decode cX5_cylinderNumber 63 = .ok (.ireturn, 1) := by decide +kernel
theorem dX5_cylinderNumber_64 : decode cX5_cylinderNumber 64 = .ok (.aload_n 0, 1) := by decide +kernel
theorem dX5_cylinderNumber_65 : decode cX5_cylinderNumber 65 = .ok (.getfield 35, 3) := by decide +kernel
theorem dX5_cylinderNumber_68 : decode cX5_cylinderNumber 68 = .ok (.getfield 135, 3) := by decide +kernel
theorem dX5_cylinderNumber_71 : decode cX5_cylinderNumber 71 = .ok (.iload_n 1, 1) := by decide +kernel
theorem dX5_cylinderNumber_72 : decode cX5_cylinderNumber 72 = .ok (.iaload, 1) := by decide +kernel
theorem dX5_cylinderNumber_73 : decode cX5_cylinderNumber 73 = .ok (.ireturn, 1) := by decide +kernel
theorem dX5_cylinderNumber_74 : decode cX5_cylinderNumber 74 = .ok (.aload_n 0, 1) := by decide +kernel
theorem dX5_cylinderNumber_75 : decode cX5_cylinderNumber 75 = .ok (.getfield 35, 3) := by decide +kernel
theorem dX5_cylinderNumber_78 : decode cX5_cylinderNumber 78 = .ok (.getfield 165, 3) := by decide +kernel
theorem dX5_cylinderNumber_81 : decode cX5_cylinderNumber 81 = .ok (.iload_n 1, 1) := by decide +kernel
theorem dX5_cylinderNumber_82 : decode cX5_cylinderNumber 82 = .ok (.iaload, 1) := by decide +kernel
theorem dX5_cylinderNumber_83 : decode cX5_cylinderNumber 83 = .ok (.ireturn, 1) := by decide +kernel
theorem dX5_cylinderNumber_84 : decode cX5_cylinderNumber 84 = .ok (.aload_n 0, 1) := by decide +kernel
theorem dX5_cylinderNumber_85 : decode cX5_cylinderNumber 85 = .ok (.iload_n 1, 1) := by decide +kernel
theorem dX5_cylinderNumber_86 : decode cX5_cylinderNumber 86 = .ok (.invokevirtual 206, 3) := by decide +kernel
theorem dX5_cylinderNumber_89 : decode cX5_cylinderNumber 89 = .ok (.ireturn, 1) := by decide +kernel
theorem dX5_cylinderNumber_90 : decode cX5_cylinderNumber 90 = .ok (.aload_n 0, 1) := by decide +kernel
theorem dX5_cylinderNumber_91 : decode cX5_cylinderNumber 91 = .ok (.iload_n 1, 1) := by decide +kernel
theorem dX5_cylinderNumber_92 : decode cX5_cylinderNumber 92 = .ok (.invokevirtual 138, 3) := by decide +kernel
theorem dX5_cylinderNumber_95 : decode cX5_cylinderNumber 95 = .ok (.ireturn, 1) := by decide +kernel
theorem dX5_cylinderNumber_96 : decode cX5_cylinderNumber 96 = .ok (.aload_n 0, 1) := by decide +kernel
theorem dX5_cylinderNumber_97 : decode cX5_cylinderNumber 97 = .ok (.getfield 35, 3) := by decide +kernel
theorem dX5_cylinderNumber_100 : decode cX5_cylinderNumber 100 = .ok (.getfield 156, 3) := by decide +kernel
theorem dX5_cylinderNumber_103 : decode cX5_cylinderNumber 103 = .ok (.iload_n 1, 1) := by decide +kernel
theorem dX5_cylinderNumber_104 : decode cX5_cylinderNumber 104 = .ok (.iaload, 1) := by decide +kernel
theorem dX5_cylinderNumber_105 : decode cX5_cylinderNumber 105 = .ok (.ireturn, 1) := by decide +kernel
theorem dX5_cylinderNumber_106 : decode cX5_cylinderNumber 106 = .ok (.aload_n 0, 1) := by decide +kernel
theorem dX5_cylinderNumber_107 : decode cX5_cylinderNumber 107 = .ok (.getfield 35, 3) := by decide +kernel
theorem dX5_cylinderNumber_110 : decode cX5_cylinderNumber 110 = .ok (.getfield 162, 3) := by decide +kernel
theorem dX5_cylinderNumber_113 : decode cX5_cylinderNumber 113 = .ok (.iload_n 1, 1) := by decide +kernel
theorem dX5_cylinderNumber_114 : decode cX5_cylinderNumber 114 = .ok (.iaload, 1) := by decide +kernel
theorem dX5_cylinderNumber_115 : decode cX5_cylinderNumber 115 = .ok (.ireturn, 1) := by decide +kernel
theorem dX5_guardNumber_0 : decode cX5_guardNumber 0 = .ok (.iload_n 2, 1) := by decide +kernel
theorem dX5_guardNumber_1 : decode cX5_guardNumber 1 = .ok (.tableswitch 57 0 2 #[27, 37, 47], 27) := by decide +kernel
theorem dX5_guardNumber_28 : decode cX5_guardNumber 28 = .ok (.aload_n 0, 1) := by decide +kernel
theorem dX5_guardNumber_29 : decode cX5_guardNumber 29 = .ok (.getfield 42, 3) := by decide +kernel
theorem dX5_guardNumber_32 : decode cX5_guardNumber 32 = .ok (.getfield 174, 3) := by decide +kernel
theorem dX5_guardNumber_35 : decode cX5_guardNumber 35 = .ok (.iload_n 1, 1) := by decide +kernel
theorem dX5_guardNumber_36 : decode cX5_guardNumber 36 = .ok (.iaload, 1) := by decide +kernel
theorem dX5_guardNumber_37 : decode cX5_guardNumber 37 = .ok (.ireturn, 1) := by decide +kernel
theorem dX5_guardNumber_38 : decode cX5_guardNumber 38 = .ok (.aload_n 0, 1) := by decide +kernel
theorem dX5_guardNumber_39 : decode cX5_guardNumber 39 = .ok (.getfield 42, 3) := by decide +kernel
theorem dX5_guardNumber_42 : decode cX5_guardNumber 42 = .ok (.getfield 184, 3) := by decide +kernel
theorem dX5_guardNumber_45 : decode cX5_guardNumber 45 = .ok (.iload_n 1, 1) := by decide +kernel
theorem dX5_guardNumber_46 : decode cX5_guardNumber 46 = .ok (.iaload, 1) := by decide +kernel
theorem dX5_guardNumber_47 : decode cX5_guardNumber 47 = .ok (.ireturn, 1) := by decide +kernel
theorem dX5_guardNumber_48 : decode cX5_guardNumber 48 = .ok (.aload_n 0, 1) := by decide +kernel
theorem dX5_guardNumber_49 : decode cX5_guardNumber 49 = .ok (.getfield 42, 3) := by decide +kernel
theorem dX5_guardNumber_52 : decode cX5_guardNumber 52 = .ok (.getfield 181, 3) := by decide +kernel
theorem dX5_guardNumber_55 : decode cX5_guardNumber 55 = .ok (.iload_n 1, 1) := by decide +kernel
theorem dX5_guardNumber_56 : decode cX5_guardNumber 56 = .ok (.iaload, 1) := by decide +kernel
theorem dX5_guardNumber_57 : decode cX5_guardNumber 57 = .ok (.ireturn, 1) := by decide +kernel
theorem dX5_guardNumber_58 : decode cX5_guardNumber 58 = .ok (.aload_n 0, 1) := by decide +kernel
theorem dX5_guardNumber_59 : decode cX5_guardNumber 59 = .ok (.iload_n 1, 1) := by decide +kernel
theorem dX5_guardNumber_60 : decode cX5_guardNumber 60 = .ok (.invokevirtual 177, 3) := by decide +kernel
theorem dX5_guardNumber_63 : decode cX5_guardNumber 63 = .ok (.ifCond .eq 7, 3) := by decide +kernel
theorem dX5_guardNumber_66 : decode cX5_guardNumber 66 = .ok (.iconst 1, 1) := by decide +kernel
theorem dX5_guardNumber_67 : decode cX5_guardNumber 67 = .ok (.goto 4, 3) := by decide +kernel
theorem dX5_guardNumber_70 : decode cX5_guardNumber 70 = .ok (.iconst 0, 1) := by decide +kernel
theorem dX5_guardNumber_71 : decode cX5_guardNumber 71 = .ok (.ireturn, 1) := by decide +kernel
theorem dX6_init_0 : decode cX6_init 0 = .ok (.aload_n 0, 1) := by decide +kernel
theorem dX6_init_1 : decode cX6_init 1 = .ok (.invokespecial 3, 3) := by decide +kernel
theorem dX6_init_4 : decode cX6_init 4 = .ok (.aload_n 0, 1) := by decide +kernel
theorem dX6_init_5 : decode cX6_init 5 = .ok (.bipush 100, 2) := by decide +kernel
theorem dX6_init_7 : decode cX6_init 7 = .ok (.newarray .int, 2) := by decide +kernel
theorem dX6_init_9 : decode cX6_init 9 = .ok (.putfield 9, 3) := by decide +kernel
theorem dX6_init_12 : decode cX6_init 12 = .ok (.aload_n 0, 1) := by decide +kernel
theorem dX6_init_13 : decode cX6_init 13 = .ok (.iconst 5, 1) := by decide +kernel
theorem dX6_init_14 : decode cX6_init 14 = .ok (.newarray .int, 2) := by decide +kernel
theorem dX6_init_16 : decode cX6_init 16 = .ok (.putfield 15, 3) := by decide +kernel
theorem dX6_init_19 : decode cX6_init 19 = .ok (.return_, 1) := by decide +kernel
theorem dX6_read_0 : decode cX6_read 0 = .ok (.aload_n 0, 1) := by decide +kernel
theorem dX6_read_1 : decode cX6_read 1 = .ok (.iload_n 1, 1) := by decide +kernel
theorem dX6_read_2 : decode cX6_read 2 = .ok (.putfield 18, 3) := by decide +kernel
theorem dX6_read_5 : decode cX6_read 5 = .ok (.aload_n 0, 1) := by decide +kernel
theorem dX6_read_6 : decode cX6_read 6 = .ok (.iconst (-1), 1) := by decide +kernel
theorem dX6_read_7 : decode cX6_read 7 = .ok (.putfield 22, 3) := by decide +kernel
theorem dX6_read_10 : decode cX6_read 10 = .ok (.aload_n 0, 1) := by decide +kernel
theorem dX6_read_11 : decode cX6_read 11 = .ok (.iconst 0, 1) := by decide +kernel
theorem dX6_read_12 : decode cX6_read 12 = .ok (.putfield 25, 3) := by decide +kernel
theorem dX6_read_15 : decode cX6_read 15 = .ok (.aload_n 0, 1) := by decide +kernel
theorem dX6_read_16 : decode cX6_read 16 = .ok (.getfield 15, 3) := by decide +kernel
theorem dX6_read_19 : decode cX6_read 19 = .ok (.iconst 0, 1) := by decide +kernel
theorem dX6_read_20 : decode cX6_read 20 = .ok (.invokestatic 28, 3) := by decide +kernel
theorem dX6_read_23 : decode cX6_read 23 = .ok (.aload_n 0, 1) := by decide +kernel
theorem dX6_read_24 : decode cX6_read 24 = .ok (.aload_n 0, 1) := by decide +kernel
theorem dX6_read_25 : decode cX6_read 25 = .ok (.getfield 25, 3) := by decide +kernel
theorem dX6_read_28 : decode cX6_read 28 = .ok (.invokevirtual 34, 3) := by decide +kernel
theorem dX6_read_31 : decode cX6_read 31 = .ok (.bipush 110, 2) := by decide +kernel
theorem dX6_read_33 : decode cX6_read 33 = .ok (.if_icmp .ne 7, 3) := by decide +kernel
theorem dX6_read_36 : decode cX6_read 36 = .ok (.aload_n 0, 1) := by decide +kernel
theorem dX6_read_37 : decode cX6_read 37 = .ok (.invokevirtual 38, 3) := by decide +kernel
theorem dX6_read_40 : decode cX6_read 40 = .ok (.iconst 0, 1) := by decide +kernel
theorem dX6_read_41 : decode cX6_read 41 = .ok (.istore_n 2, 1) := by decide +kernel
theorem dX6_read_42 : decode cX6_read 42 = .ok (.iload_n 2, 1) := by decide +kernel
theorem dX6_read_43 : decode cX6_read 43 = .ok (.bipush 100, 2) := by decide +kernel
theorem dX6_read_45 : decode cX6_read 45 = .ok (.if_icmp .ge 32, 3) := by decide +kernel
theorem dX6_read_48 : decode cX6_read 48 = .ok (.aload_n 0, 1) := by decide +kernel
theorem dX6_read_49 : decode cX6_read 49 = .ok (.getfield 22, 3) := by decide +kernel
theorem dX6_read_52 : decode cX6_read 52 = .ok (.iconst (-1), 1) := by decide +kernel
theorem dX6_read_53 : decode cX6_read 53 = .ok (.if_icmp .ne 24, 3) := by decide +kernel
theorem dX6_read_56 : decode cX6_read 56 = .ok (.aload_n 0, 1) := by decide +kernel
theorem dX6_read_57 : decode cX6_read 57 = .ok (.getfield 25, 3) := by decide +kernel
theorem dX6_read_60 : decode cX6_read 60 = .ok (.aload_n 0, 1) := by decide +kernel
theorem dX6_read_61 : decode cX6_read 61 = .ok (.getfield 41, 3) := by decide +kernel
theorem dX6_read_64 : decode cX6_read 64 = .ok (.if_icmp .ge 13, 3) := by decide +kernel
theorem dX6_read_67 : decode cX6_read 67 = .ok (.aload_n 0, 1) := by decide +kernel
theorem dX6_read_68 : decode cX6_read 68 = .ok (.invokevirtual 44, 3) := by decide +kernel
theorem dX6_read_71 : decode cX6_read 71 = .ok (.iinc 2 1, 3) := by decide +kernel
theorem dX6_read_74 : decode cX6_read 74 = .ok (.goto (-32), 3) := by decide +kernel
theorem dX6_read_77 : decode cX6_read 77 = .ok (.return_, 1) := by decide +kernel
theorem dX6_putLast_0 : decode cX6_putLast 0 = .ok (.aload_n 0, 1) := by decide +kernel
theorem dX6_putLast_1 : decode cX6_putLast 1 = .ok (.getfield 41, 3) := by decide +kernel
theorem dX6_putLast_4 : decode cX6_putLast 4 = .ok (.iconst 0, 1) := by decide +kernel
theorem dX6_putLast_5 : decode cX6_putLast 5 = .ok (.bipush 99, 2) := by decide +kernel
theorem dX6_putLast_7 : decode cX6_putLast 7 = .ok (.invokestatic 47, 3) := by decide +kernel
theorem dX6_putLast_10 : decode cX6_putLast 10 = .ok (.ifCond .eq 23, 3) := by decide +kernel
theorem dX6_putLast_13 : decode cX6_putLast 13 = .ok (.aload_n 0, 1) := by decide +kernel
theorem dX6_putLast_14 : decode cX6_putLast 14 = .ok (.getfield 9, 3) := by decide +kernel
theorem dX6_putLast_17 : decode cX6_putLast 17 = .ok (.aload_n 0, 1) := by decide +kernel
theorem dX6_putLast_18 : decode cX6_putLast 18 = .ok (.getfield 41, 3) := by decide +kernel
theorem dX6_putLast_21 : decode cX6_putLast 21 = .ok (.iload_n 1, 1) := by decide +kernel
theorem dX6_putLast_22 : decode cX6_putLast 22 = .ok (.iastore, 1) := by decide +kernel
theorem dX6_putLast_23 : decode cX6_putLast 23 = .ok (.aload_n 0, 1) := by decide +kernel
theorem dX6_putLast_24 : decode cX6_putLast 24 = .ok (.dup, 1) := by decide +kernel
theorem dX6_putLast_25 : decode cX6_putLast 25 = .ok (.getfield 41, 3) := by decide +kernel
theorem dX6_putLast_28 : decode cX6_putLast 28 = .ok (.iconst 1, 1) := by decide +kernel
theorem dX6_putLast_29 : decode cX6_putLast 29 = .ok (.iadd, 1) := by decide +kernel
theorem dX6_putLast_30 : decode cX6_putLast 30 = .ok (.putfield 41, 3) := by decide +kernel
theorem dX6_putLast_33 : decode cX6_putLast 33 = .ok (.return_, 1) := by decide +kernel
theorem dX6_byteAt_0 : decode cX6_byteAt 0 = .ok (.iload_n 1, 1) := by decide +kernel
theorem dX6_byteAt_1 : decode cX6_byteAt 1 = .ok (.ifCond .lt 26, 3) := by decide +kernel
theorem dX6_byteAt_4 : decode cX6_byteAt 4 = .ok (.iload_n 1, 1) := by decide +kernel
theorem dX6_byteAt_5 : decode cX6_byteAt 5 = .ok (.aload_n 0, 1) := by decide +kernel
theorem dX6_byteAt_6 : decode cX6_byteAt 6 = .ok (.getfield 41, 3) := by decide +kernel
theorem dX6_byteAt_9 : decode cX6_byteAt 9 = .ok (.if_icmp .ge 18, 3) := by decide +kernel
theorem dX6_byteAt_12 : decode cX6_byteAt 12 = .ok (.iload_n 1, 1) := by decide +kernel
theorem dX6_byteAt_13 : decode cX6_byteAt 13 = .ok (.bipush 100, 2) := by decide +kernel
theorem dX6_byteAt_15 : decode cX6_byteAt 15 = .ok (.if_icmp .ge 12, 3) := by decide +kernel
theorem dX6_byteAt_18 : decode cX6_byteAt 18 = .ok (.aload_n 0, 1) := by decide +kernel
theorem dX6_byteAt_19 : decode cX6_byteAt 19 = .ok (.getfield 9, 3) := by decide +kernel
theorem dX6_byteAt_22 : decode cX6_byteAt 22 = .ok (.iload_n 1, 1) := by decide +kernel
theorem dX6_byteAt_23 : decode cX6_byteAt 23 = .ok (.iaload, 1) := by decide +kernel
theorem dX6_byteAt_24 : decode cX6_byteAt 24 = .ok (.goto 4, 3) := by decide +kernel
theorem dX6_byteAt_27 : decode cX6_byteAt 27 = .ok (.iconst (-1), 1) := by decide +kernel
theorem dX6_byteAt_28 : decode cX6_byteAt 28 = .ok (.ireturn, 1) := by decide +kernel
theorem dX6_isDigitAt_0 : decode cX6_isDigitAt 0 = .ok (.aload_n 0, 1) := by decide +kernel
theorem dX6_isDigitAt_1 : decode cX6_isDigitAt 1 = .ok (.iload_n 1, 1) := by decide +kernel
theorem dX6_isDigitAt_2 : decode cX6_isDigitAt 2 = .ok (.invokevirtual 34, 3) := by decide +kernel
theorem dX6_isDigitAt_5 : decode cX6_isDigitAt 5 = .ok (.bipush 48, 2) := by decide +kernel
theorem dX6_isDigitAt_7 : decode cX6_isDigitAt 7 = .ok (.bipush 57, 2) := by decide +kernel
theorem dX6_isDigitAt_9 : decode cX6_isDigitAt 9 = .ok (.invokestatic 47, 3) := by decide +kernel
theorem dX6_isDigitAt_12 : decode cX6_isDigitAt 12 = .ok (.ireturn, 1) := by decide +kernel
theorem dX6_readSteps_0 : decode cX6_readSteps 0 = .ok (.aload_n 0, 1) := by decide +kernel
theorem dX6_readSteps_1 : decode cX6_readSteps 1 = .ok (.getfield 25, 3) := by decide +kernel
theorem dX6_readSteps_4 : decode cX6_readSteps 4 = .ok (.iconst 1, 1) := by decide +kernel
theorem dX6_readSteps_5 : decode cX6_readSteps 5 = .ok (.iadd, 1) := by decide +kernel
theorem dX6_readSteps_6 : decode cX6_readSteps 6 = .ok (.istore_n 1, 1) := by decide +kernel
theorem dX6_readSteps_7 : decode cX6_readSteps 7 = .ok (.aload_n 0, 1) := by decide +kernel
theorem dX6_readSteps_8 : decode cX6_readSteps 8 = .ok (.iload_n 1, 1) := by decide +kernel
theorem dX6_readSteps_9 : decode cX6_readSteps 9 = .ok (.invokevirtual 51, 3) := by decide +kernel
theorem dX6_readSteps_12 : decode cX6_readSteps 12 = .ok (.ifCond .ne 9, 3) := by decide +kernel
theorem dX6_readSteps_15 : decode cX6_readSteps 15 = .ok (.aload_n 0, 1) := by decide +kernel
theorem dX6_readSteps_16 : decode cX6_readSteps 16 = .ok (.iload_n 1, 1) := by decide +kernel
theorem dX6_readSteps_17 : decode cX6_readSteps 17 = .ok (.putfield 22, 3) := by decide +kernel
theorem dX6_readSteps_20 : decode cX6_readSteps 20 = .ok (.return_, 1) := by decide +kernel
theorem dX6_readSteps_21 : decode cX6_readSteps 21 = .ok (.aload_n 0, 1) := by decide +kernel
theorem dX6_readSteps_22 : decode cX6_readSteps 22 = .ok (.iload_n 1, 1) := by decide +kernel
theorem dX6_readSteps_23 : decode cX6_readSteps 23 = .ok (.iconst 1, 1) := by decide +kernel
theorem dX6_readSteps_24 : decode cX6_readSteps 24 = .ok (.iadd, 1) := by decide +kernel
theorem dX6_readSteps_25 : decode cX6_readSteps 25 = .ok (.invokevirtual 51, 3) := by decide +kernel
theorem dX6_readSteps_28 : decode cX6_readSteps 28 = .ok (.ifCond .eq 9, 3) := by decide +kernel
theorem dX6_readSteps_31 : decode cX6_readSteps 31 = .ok (.iload_n 1, 1) := by decide +kernel
theorem dX6_readSteps_32 : decode cX6_readSteps 32 = .ok (.iconst 2, 1) := by decide +kernel
theorem dX6_readSteps_33 : decode cX6_readSteps 33 = .ok (.iadd, 1) := by decide +kernel
theorem dX6_readSteps_34 : decode cX6_readSteps 34 = .ok (.goto 6, 3) := by decide +kernel
theorem dX6_readSteps_37 : decode cX6_readSteps 37 = .ok (.iload_n 1, 1) := by decide +kernel
theorem dX6_readSteps_38 : decode cX6_readSteps 38 = .ok (.iconst 1, 1) := by decide +kernel
theorem dX6_readSteps_39 : decode cX6_readSteps 39 = .ok (.iadd, 1) := by decide +kernel
theorem dX6_readSteps_40 : decode cX6_readSteps 40 = .ok (.istore_n 2, 1) := by decide +kernel
theorem dX6_readSteps_41 : decode cX6_readSteps 41 = .ok (.iconst 0, 1) := by decide +kernel
theorem dX6_readSteps_42 : decode cX6_readSteps 42 = .ok (.istore_n 3, 1) := by decide +kernel
theorem dX6_readSteps_43 : decode cX6_readSteps 43 = .ok (.iload_n 1, 1) := by decide +kernel
theorem dX6_readSteps_44 : decode cX6_readSteps 44 = .ok (.istore 4, 2) := by decide +kernel
theorem dX6_readSteps_46 : decode cX6_readSteps 46 = .ok (.iload 4, 2) := by decide +kernel
theorem dX6_readSteps_48 : decode cX6_readSteps 48 = .ok (.iload_n 2, 1) := by decide +kernel
theorem dX6_readSteps_49 : decode cX6_readSteps 49 = .ok (.if_icmp .ge 24, 3) := by decide +kernel
theorem dX6_readSteps_52 : decode cX6_readSteps 52 = .ok (.bipush 10, 2) := by decide +kernel
theorem dX6_readSteps_54 : decode cX6_readSteps 54 = .ok (.iload_n 3, 1) := by decide +kernel
theorem dX6_readSteps_55 : decode cX6_readSteps 55 = .ok (.imul, 1) := by decide +kernel
theorem dX6_readSteps_56 : decode cX6_readSteps 56 = .ok (.aload_n 0, 1) := by decide +kernel
theorem dX6_readSteps_57 : decode cX6_readSteps 57 = .ok (.iload 4, 2) := by decide +kernel
theorem dX6_readSteps_59 : decode cX6_readSteps 59 = .ok (.invokevirtual 34, 3) := by decide +kernel
theorem dX6_readSteps_62 : decode cX6_readSteps 62 = .ok (.iadd, 1) := by decide +kernel
theorem dX6_readSteps_63 : decode cX6_readSteps 63 = .ok (.bipush 48, 2) := by decide +kernel
theorem dX6_readSteps_65 : decode cX6_readSteps 65 = .ok (.isub, 1) := by decide +kernel
theorem dX6_readSteps_66 : decode cX6_readSteps 66 = .ok (.istore_n 3, 1) := by decide +kernel
theorem dX6_readSteps_67 : decode cX6_readSteps 67 = .ok (.iinc 4 1, 3) := by decide +kernel
theorem dX6_readSteps_70 : decode cX6_readSteps 70 = .ok (.goto (-24), 3) := by decide +kernel
theorem dX6_readSteps_73 : decode cX6_readSteps 73 = .ok (.aload_n 0, 1) := by decide +kernel
theorem dX6_readSteps_74 : decode cX6_readSteps 74 = .ok (.iload_n 2, 1) := by decide +kernel
theorem dX6_readSteps_75 : decode cX6_readSteps 75 = .ok (.invokevirtual 51, 3) := by decide +kernel
theorem dX6_readSteps_78 : decode cX6_readSteps 78 = .ok (.ifCond .eq 11, 3) := by decide +kernel
theorem dX6_readSteps_81 : decode cX6_readSteps 81 = .ok (.aload_n 0, 1) := by decide +kernel
theorem dX6_readSteps_82 : decode cX6_readSteps 82 = .ok (.iload_n 2, 1) := by decide +kernel
theorem dX6_readSteps_83 : decode cX6_readSteps 83 = .ok (.putfield 22, 3) := by decide +kernel
theorem dX6_readSteps_86 : decode cX6_readSteps 86 = .ok (.goto 37, 3) := by decide +kernel
theorem dX6_readSteps_89 : decode cX6_readSteps 89 = .ok (.iload_n 3, 1) := by decide +kernel
theorem dX6_readSteps_90 : decode cX6_readSteps 90 = .ok (.iconst 2, 1) := by decide +kernel
theorem dX6_readSteps_91 : decode cX6_readSteps 91 = .ok (.bipush 16, 2) := by decide +kernel
theorem dX6_readSteps_93 : decode cX6_readSteps 93 = .ok (.invokestatic 47, 3) := by decide +kernel
theorem dX6_readSteps_96 : decode cX6_readSteps 96 = .ok (.ifCond .ne 11, 3) := by decide +kernel
theorem dX6_readSteps_99 : decode cX6_readSteps 99 = .ok (.aload_n 0, 1) := by decide +kernel
theorem dX6_readSteps_100 : decode cX6_readSteps 100 = .ok (.iload_n 1, 1) := by decide +kernel
theorem dX6_readSteps_101 : decode cX6_readSteps 101 = .ok (.putfield 22, 3) := by decide +kernel
theorem dX6_readSteps_104 : decode cX6_readSteps 104 = .ok (.goto 19, 3) := by decide +kernel
theorem dX6_readSteps_107 : decode cX6_readSteps 107 = .ok (.aload_n 0, 1) := by decide +kernel
theorem dX6_readSteps_108 : decode cX6_readSteps 108 = .ok (.iload_n 3, 1) := by decide +kernel
theorem dX6_readSteps_109 : decode cX6_readSteps 109 = .ok (.putfield 18, 3) := by decide +kernel
theorem dX6_readSteps_112 : decode cX6_readSteps 112 = .ok (.aload_n 0, 1) := by decide +kernel
theorem dX6_readSteps_113 : decode cX6_readSteps 113 = .ok (.iload_n 2, 1) := by decide +kernel
theorem dX6_readSteps_114 : decode cX6_readSteps 114 = .ok (.putfield 25, 3) := by decide +kernel
theorem dX6_readSteps_117 : decode cX6_readSteps 117 = .ok (.aload_n 0, 1) := by decide +kernel
theorem dX6_readSteps_118 : decode cX6_readSteps 118 = .ok (.bipush 59, 2) := by decide +kernel
theorem dX6_readSteps_120 : decode cX6_readSteps 120 = .ok (.invokevirtual 55, 3) := by decide +kernel
theorem dX6_readSteps_123 : decode cX6_readSteps 123 = .ok (.return_, 1) := by decide +kernel
theorem dX6_readTrack_0 : decode cX6_readTrack 0 = .ok (.aload_n 0, 1) := by decide +kernel
theorem dX6_readTrack_1 : decode cX6_readTrack 1 = .ok (.aload_n 0, 1) := by decide +kernel
theorem dX6_readTrack_2 : decode cX6_readTrack 2 = .ok (.getfield 25, 3) := by decide +kernel
theorem dX6_readTrack_5 : decode cX6_readTrack 5 = .ok (.invokevirtual 34, 3) := by decide +kernel
theorem dX6_readTrack_8 : decode cX6_readTrack 8 = .ok (.bipush 48, 2) := by decide +kernel
theorem dX6_readTrack_10 : decode cX6_readTrack 10 = .ok (.isub, 1) := by decide +kernel
theorem dX6_readTrack_11 : decode cX6_readTrack 11 = .ok (.istore_n 1, 1) := by decide +kernel
theorem dX6_readTrack_12 : decode cX6_readTrack 12 = .ok (.iload_n 1, 1) := by decide +kernel
theorem dX6_readTrack_13 : decode cX6_readTrack 13 = .ok (.iconst 0, 1) := by decide +kernel
theorem dX6_readTrack_14 : decode cX6_readTrack 14 = .ok (.iconst 4, 1) := by decide +kernel
theorem dX6_readTrack_15 : decode cX6_readTrack 15 = .ok (.invokestatic 47, 3) := by decide +kernel
theorem dX6_readTrack_18 : decode cX6_readTrack 18 = .ok (.ifCond .ne 12, 3) := by decide +kernel
theorem dX6_readTrack_21 : decode cX6_readTrack 21 = .ok (.aload_n 0, 1) := by decide +kernel
theorem dX6_readTrack_22 : decode cX6_readTrack 22 = .ok (.aload_n 0, 1) := by decide +kernel
theorem dX6_readTrack_23 : decode cX6_readTrack 23 = .ok (.getfield 25, 3) := by decide +kernel
theorem dX6_readTrack_26 : decode cX6_readTrack 26 = .ok (.putfield 22, 3) := by decide +kernel
theorem dX6_readTrack_29 : decode cX6_readTrack 29 = .ok (.return_, 1) := by decide +kernel
theorem dX6_readTrack_30 : decode cX6_readTrack 30 = .ok (.aload_n 0, 1) := by decide +kernel
theorem dX6_readTrack_31 : decode cX6_readTrack 31 = .ok (.dup, 1) := by decide +kernel
theorem dX6_readTrack_32 : decode cX6_readTrack 32 = .ok (.getfield 25, 3) := by decide +kernel
theorem dX6_readTrack_35 : decode cX6_readTrack 35 = .ok (.iconst 1, 1) := by decide +kernel
theorem dX6_readTrack_36 : decode cX6_readTrack 36 = .ok (.iadd, 1) := by decide +kernel
theorem dX6_readTrack_37 : decode cX6_readTrack 37 = .ok (.putfield 25, 3) := by decide +kernel
theorem dX6_readTrack_40 : decode cX6_readTrack 40 = .ok (.aload_n 0, 1) := by decide +kernel
theorem dX6_readTrack_41 : decode cX6_readTrack 41 = .ok (.bipush 58, 2) := by decide +kernel
theorem dX6_readTrack_43 : decode cX6_readTrack 43 = .ok (.invokevirtual 55, 3) := by decide +kernel
theorem dX6_readTrack_46 : decode cX6_readTrack 46 = .ok (.iconst 0, 1) := by decide +kernel
theorem dX6_readTrack_47 : decode cX6_readTrack 47 = .ok (.istore_n 2, 1) := by decide +kernel
theorem dX6_readTrack_48 : decode cX6_readTrack 48 = .ok (.iconst 0, 1) := by decide +kernel
theorem dX6_readTrack_49 : decode cX6_readTrack 49 = .ok (.istore_n 3, 1) := by decide +kernel
theorem dX6_readTrack_50 : decode cX6_readTrack 50 = .ok (.iload_n 3, 1) := by decide +kernel
theorem dX6_readTrack_51 : decode cX6_readTrack 51 = .ok (.aload_n 0, 1) := by decide +kernel
theorem dX6_readTrack_52 : decode cX6_readTrack 52 = .ok (.getfield 18, 3) := by decide +kernel
theorem dX6_readTrack_55 : decode cX6_readTrack 55 = .ok (.if_icmp .ge 55, 3) := by decide +kernel
theorem dX6_readTrack_58 : decode cX6_readTrack 58 = .ok (.aload_n 0, 1) := by decide +kernel
theorem dX6_readTrack_59 : decode cX6_readTrack 59 = .ok (.getfield 22, 3) := by decide +kernel
theorem dX6_readTrack_62 : decode cX6_readTrack 62 = .ok (.iconst (-1), 1) := by decide +kernel
theorem dX6_readTrack_63 : decode cX6_readTrack 63 = .ok (.if_icmp .ne 47, 3) := by decide +kernel
theorem dX6_readTrack_66 : decode cX6_readTrack 66 = .ok (.aload_n 0, 1) := by decide +kernel
theorem dX6_readTrack_67 : decode cX6_readTrack 67 = .ok (.aload_n 0, 1) := by decide +kernel
theorem dX6_readTrack_68 : decode cX6_readTrack 68 = .ok (.getfield 25, 3) := by decide +kernel
theorem dX6_readTrack_71 : decode cX6_readTrack 71 = .ok (.invokevirtual 34, 3) := by decide +kernel
theorem dX6_readTrack_74 : decode cX6_readTrack 74 = .ok (.bipush 120, 2) := by decide +kernel
theorem dX6_readTrack_76 : decode cX6_readTrack 76 = .ok (.if_icmp .ne 22, 3) := by decide +kernel
theorem dX6_readTrack_79 : decode cX6_readTrack 79 = .ok (.iload_n 2, 1) := by decide +kernel
theorem dX6_readTrack_80 : decode cX6_readTrack 80 = .ok (.iconst 1, 1) := by decide +kernel
theorem dX6_readTrack_81 : decode cX6_readTrack 81 = .ok (.iload_n 3, 1) := by decide +kernel
theorem dX6_readTrack_82 : decode cX6_readTrack 82 = .ok (.ishl, 1) := by decide +kernel
theorem dX6_readTrack_83 : decode cX6_readTrack 83 = .ok (.ior, 1) := by decide +kernel
theorem dX6_readTrack_84 : decode cX6_readTrack 84 = .ok (.istore_n 2, 1) := by decide +kernel
theorem dX6_readTrack_85 : decode cX6_readTrack 85 = .ok (.aload_n 0, 1) := by decide +kernel
theorem dX6_readTrack_86 : decode cX6_readTrack 86 = .ok (.dup, 1) := by decide +kernel
theorem dX6_readTrack_87 : decode cX6_readTrack 87 = .ok (.getfield 25, 3) := by decide +kernel
theorem dX6_readTrack_90 : decode cX6_readTrack 90 = .ok (.iconst 1, 1) := by decide +kernel
theorem dX6_readTrack_91 : decode cX6_readTrack 91 = .ok (.iadd, 1) := by decide +kernel
theorem dX6_readTrack_92 : decode cX6_readTrack 92 = .ok (.putfield 25, 3) := by decide +kernel
theorem dX6_readTrack_95 : decode cX6_readTrack 95 = .ok (.goto 9, 3) := by decide +kernel
theorem dX6_readTrack_98 : decode cX6_readTrack 98 = .ok (.aload_n 0, 1) := by decide +kernel
theorem dX6_readTrack_99 : decode cX6_readTrack 99 = .ok (.bipush 46, 2) := by decide +kernel
theorem dX6_readTrack_101 : decode cX6_readTrack 101 = .ok (.invokevirtual 55, 3) := by decide +kernel
theorem dX6_readTrack_104 : decode cX6_readTrack 104 = .ok (.iinc 3 1, 3) := by decide +kernel
theorem dX6_readTrack_107 : decode cX6_readTrack 107 = .ok (.goto (-57), 3) := by decide +kernel
theorem dX6_readTrack_110 : decode cX6_readTrack 110 = .ok (.aload_n 0, 1) := by decide +kernel
theorem dX6_readTrack_111 : decode cX6_readTrack 111 = .ok (.getfield 22, 3) := by decide +kernel
theorem dX6_readTrack_114 : decode cX6_readTrack 114 = .ok (.iconst (-1), 1) := by decide +kernel
theorem dX6_readTrack_115 : decode cX6_readTrack 115 = .ok (.if_icmp .ne 9, 3) := by decide +kernel
theorem dX6_readTrack_118 : decode cX6_readTrack 118 = .ok (.aload_n 0, 1) := by decide +kernel
theorem dX6_readTrack_119 : decode cX6_readTrack 119 = .ok (.bipush 59, 2) := by decide +kernel
theorem dX6_readTrack_121 : decode cX6_readTrack 121 = .ok (.invokevirtual 55, 3) := by decide +kernel
theorem dX6_readTrack_124 : decode cX6_readTrack 124 = .ok (.aload_n 0, 1) := by decide +kernel
theorem dX6_readTrack_125 : decode cX6_readTrack 125 = .ok (.getfield 15, 3) := by decide +kernel
theorem dX6_readTrack_128 : decode cX6_readTrack 128 = .ok (.iload_n 1, 1) := by decide +kernel
theorem dX6_readTrack_129 : decode cX6_readTrack 129 = .ok (.iload_n 2, 1) := by decide +kernel
theorem dX6_readTrack_130 : decode cX6_readTrack 130 = .ok (.iastore, 1) := by decide +kernel
theorem dX6_readTrack_131 : decode cX6_readTrack 131 = .ok (.return_, 1) := by decide +kernel
theorem dX6_passSign_0 : decode cX6_passSign 0 = .ok (.aload_n 0, 1) := by decide +kernel
theorem dX6_passSign_1 : decode cX6_passSign 1 = .ok (.aload_n 0, 1) := by decide +kernel
theorem dX6_passSign_2 : decode cX6_passSign 2 = .ok (.getfield 25, 3) := by decide +kernel
theorem dX6_passSign_5 : decode cX6_passSign 5 = .ok (.invokevirtual 34, 3) := by decide +kernel
theorem dX6_passSign_8 : decode cX6_passSign 8 = .ok (.iload_n 1, 1) := by decide +kernel
theorem dX6_passSign_9 : decode cX6_passSign 9 = .ok (.if_icmp .ne 16, 3) := by decide +kernel
theorem dX6_passSign_12 : decode cX6_passSign 12 = .ok (.aload_n 0, 1) := by decide +kernel
theorem dX6_passSign_13 : decode cX6_passSign 13 = .ok (.dup, 1) := by decide +kernel
theorem dX6_passSign_14 : decode cX6_passSign 14 = .ok (.getfield 25, 3) := by decide +kernel
theorem dX6_passSign_17 : decode cX6_passSign 17 = .ok (.iconst 1, 1) := by decide +kernel
theorem dX6_passSign_18 : decode cX6_passSign 18 = .ok (.iadd, 1) := by decide +kernel
theorem dX6_passSign_19 : decode cX6_passSign 19 = .ok (.putfield 25, 3) := by decide +kernel
theorem dX6_passSign_22 : decode cX6_passSign 22 = .ok (.goto 11, 3) := by decide +kernel
theorem dX6_passSign_25 : decode cX6_passSign 25 = .ok (.aload_n 0, 1) := by decide +kernel
theorem dX6_passSign_26 : decode cX6_passSign 26 = .ok (.aload_n 0, 1) := by decide +kernel
theorem dX6_passSign_27 : decode cX6_passSign 27 = .ok (.getfield 25, 3) := by decide +kernel
theorem dX6_passSign_30 : decode cX6_passSign 30 = .ok (.putfield 22, 3) := by decide +kernel
theorem dX6_passSign_33 : decode cX6_passSign 33 = .ok (.return_, 1) := by decide +kernel
theorem dX7_init_0 : decode cX7_init 0 = .ok (.aload_n 0, 1) := by decide +kernel
theorem dX7_init_1 : decode cX7_init 1 = .ok (.invokespecial 1, 3) := by decide +kernel
theorem dX7_init_4 : decode cX7_init 4 = .ok (.aload_n 0, 1) := by decide +kernel
theorem dX7_init_5 : decode cX7_init 5 = .ok (.new 7, 3) := by decide +kernel
theorem dX7_init_8 : decode cX7_init 8 = .ok (.dup, 1) := by decide +kernel
theorem dX7_init_9 : decode cX7_init 9 = .ok (.invokespecial 9, 3) := by decide +kernel
theorem dX7_init_12 : decode cX7_init 12 = .ok (.putfield 10, 3) := by decide +kernel
theorem dX7_init_15 : decode cX7_init 15 = .ok (.aload_n 0, 1) := by decide +kernel
theorem dX7_init_16 : decode cX7_init 16 = .ok (.new 16, 3) := by decide +kernel
theorem dX7_init_19 : decode cX7_init 19 = .ok (.dup, 1) := by decide +kernel
theorem dX7_init_20 : decode cX7_init 20 = .ok (.invokespecial 18, 3) := by decide +kernel
theorem dX7_init_23 : decode cX7_init 23 = .ok (.putfield 19, 3) := by decide +kernel
theorem dX7_init_26 : decode cX7_init 26 = .ok (.aload_n 0, 1) := by decide +kernel
theorem dX7_init_27 : decode cX7_init 27 = .ok (.new 23, 3) := by decide +kernel
theorem dX7_init_30 : decode cX7_init 30 = .ok (.dup, 1) := by decide +kernel
theorem dX7_init_31 : decode cX7_init 31 = .ok (.invokespecial 25, 3) := by decide +kernel
theorem dX7_init_34 : decode cX7_init 34 = .ok (.putfield 26, 3) := by decide +kernel
theorem dX7_init_37 : decode cX7_init 37 = .ok (.aload_n 0, 1) := by decide +kernel
theorem dX7_init_38 : decode cX7_init 38 = .ok (.new 7, 3) := by decide +kernel
theorem dX7_init_41 : decode cX7_init 41 = .ok (.dup, 1) := by decide +kernel
theorem dX7_init_42 : decode cX7_init 42 = .ok (.invokespecial 9, 3) := by decide +kernel
theorem dX7_init_45 : decode cX7_init 45 = .ok (.putfield 30, 3) := by decide +kernel
theorem dX7_init_48 : decode cX7_init 48 = .ok (.aload_n 0, 1) := by decide +kernel
theorem dX7_init_49 : decode cX7_init 49 = .ok (.new 7, 3) := by decide +kernel
theorem dX7_init_52 : decode cX7_init 52 = .ok (.dup, 1) := by decide +kernel
theorem dX7_init_53 : decode cX7_init 53 = .ok (.invokespecial 9, 3) := by decide +kernel
theorem dX7_init_56 : decode cX7_init 56 = .ok (.putfield 33, 3) := by decide +kernel
theorem dX7_init_59 : decode cX7_init 59 = .ok (.return_, 1) := by decide +kernel
theorem dX7_setCam_0 : decode cX7_setCam 0 = .ok (.iload_n 1, 1) := by decide +kernel
theorem dX7_setCam_1 : decode cX7_setCam 1 = .ok (.invokestatic 36, 3) := by decide +kernel
theorem dX7_setCam_4 : decode cX7_setCam 4 = .ok (.aload_n 0, 1) := by decide +kernel
theorem dX7_setCam_5 : decode cX7_setCam 5 = .ok (.iload_n 2, 1) := by decide +kernel
theorem dX7_setCam_6 : decode cX7_setCam 6 = .ok (.invokevirtual 40, 3) := by decide +kernel
theorem dX7_setCam_9 : decode cX7_setCam 9 = .ok (.aload_n 0, 1) := by decide +kernel
theorem dX7_setCam_10 : decode cX7_setCam 10 = .ok (.getfield 19, 3) := by decide +kernel
theorem dX7_setCam_13 : decode cX7_setCam 13 = .ok (.aload_n 0, 1) := by decide +kernel
theorem dX7_setCam_14 : decode cX7_setCam 14 = .ok (.getfield 10, 3) := by decide +kernel
theorem dX7_setCam_17 : decode cX7_setCam 17 = .ok (.invokevirtual 43, 3) := by decide +kernel
theorem dX7_setCam_20 : decode cX7_setCam 20 = .ok (.aload_n 0, 1) := by decide +kernel
theorem dX7_setCam_21 : decode cX7_setCam 21 = .ok (.getfield 10, 3) := by decide +kernel
theorem dX7_setCam_24 : decode cX7_setCam 24 = .ok (.iload_n 1, 1) := by decide +kernel
theorem dX7_setCam_25 : decode cX7_setCam 25 = .ok (.iload_n 2, 1) := by decide +kernel
theorem dX7_setCam_26 : decode cX7_setCam 26 = .ok (.iload_n 3, 1) := by decide +kernel
theorem dX7_setCam_27 : decode cX7_setCam 27 = .ok (.invokevirtual 47, 3) := by decide +kernel
theorem dX7_setCam_30 : decode cX7_setCam 30 = .ok (.aload_n 0, 1) := by decide +kernel
theorem dX7_setCam_31 : decode cX7_setCam 31 = .ok (.getfield 10, 3) := by decide +kernel
theorem dX7_setCam_34 : decode cX7_setCam 34 = .ok (.iload_n 1, 1) := by decide +kernel
theorem dX7_setCam_35 : decode cX7_setCam 35 = .ok (.invokevirtual 51, 3) := by decide +kernel
theorem dX7_setCam_38 : decode cX7_setCam 38 = .ok (.ireturn, 1) := by decide +kernel
theorem dX7_setPawl_0 : decode cX7_setPawl 0 = .ok (.iload_n 1, 1) := by decide +kernel
theorem dX7_setPawl_1 : decode cX7_setPawl 1 = .ok (.iconst 1, 1) := by decide +kernel
theorem dX7_setPawl_2 : decode cX7_setPawl 2 = .ok (.bipush 20, 2) := by decide +kernel
theorem dX7_setPawl_4 : decode cX7_setPawl 4 = .ok (.invokestatic 55, 3) := by decide +kernel
theorem dX7_setPawl_7 : decode cX7_setPawl 7 = .ok (.ifCond .eq 14, 3) := by decide +kernel
theorem dX7_setPawl_10 : decode cX7_setPawl 10 = .ok (.iload_n 2, 1) := by decide +kernel
theorem dX7_setPawl_11 : decode cX7_setPawl 11 = .ok (.iconst 0, 1) := by decide +kernel
theorem dX7_setPawl_12 : decode cX7_setPawl 12 = .ok (.sipush 5000, 3) := by decide +kernel
theorem dX7_setPawl_15 : decode cX7_setPawl 15 = .ok (.invokestatic 55, 3) := by decide +kernel
theorem dX7_setPawl_18 : decode cX7_setPawl 18 = .ok (.ifCond .ne 13, 3) := by decide +kernel
theorem dX7_setPawl_21 : decode cX7_setPawl 21 = .ok (.new 59, 3) := by decide +kernel
theorem dX7_setPawl_24 : decode cX7_setPawl 24 = .ok (.dup, 1) := by decide +kernel
theorem dX7_setPawl_25 : decode cX7_setPawl 25 = .ok (.ldc 61, 2) := by decide +kernel
theorem dX7_setPawl_27 : decode cX7_setPawl 27 = .ok (.invokespecial 63, 3) := by decide +kernel
theorem dX7_setPawl_30 : decode cX7_setPawl 30 = .ok (.athrow, 1) := by decide +kernel
theorem dX7_setPawl_31 : decode cX7_setPawl 31 = .ok (.aload_n 0, 1) := by decide +kernel
theorem dX7_setPawl_32 : decode cX7_setPawl 32 = .ok (.getfield 19, 3) := by decide +kernel
theorem dX7_setPawl_35 : decode cX7_setPawl 35 = .ok (.aload_n 0, 1) := by decide +kernel
theorem dX7_setPawl_36 : decode cX7_setPawl 36 = .ok (.getfield 10, 3) := by decide +kernel
theorem dX7_setPawl_39 : decode cX7_setPawl 39 = .ok (.invokevirtual 43, 3) := by decide +kernel
theorem dX7_setPawl_42 : decode cX7_setPawl 42 = .ok (.aload_n 0, 1) := by decide +kernel
theorem dX7_setPawl_43 : decode cX7_setPawl 43 = .ok (.getfield 10, 3) := by decide +kernel
theorem dX7_setPawl_46 : decode cX7_setPawl 46 = .ok (.getfield 66, 3) := by decide +kernel
theorem dX7_setPawl_49 : decode cX7_setPawl 49 = .ok (.istore_n 3, 1) := by decide +kernel
theorem dX7_setPawl_50 : decode cX7_setPawl 50 = .ok (.aload_n 0, 1) := by decide +kernel
theorem dX7_setPawl_51 : decode cX7_setPawl 51 = .ok (.getfield 10, 3) := by decide +kernel
theorem dX7_setPawl_54 : decode cX7_setPawl 54 = .ok (.iload_n 1, 1) := by decide +kernel
theorem dX7_setPawl_55 : decode cX7_setPawl 55 = .ok (.putfield 66, 3) := by decide +kernel
theorem dX7_setPawl_58 : decode cX7_setPawl 58 = .ok (.aload_n 0, 1) := by decide +kernel
theorem dX7_setPawl_59 : decode cX7_setPawl 59 = .ok (.getfield 10, 3) := by decide +kernel
theorem dX7_setPawl_62 : decode cX7_setPawl 62 = .ok (.iload_n 2, 1) := by decide +kernel
theorem dX7_setPawl_63 : decode cX7_setPawl 63 = .ok (.putfield 70, 3) := by decide +kernel
theorem dX7_setPawl_66 : decode cX7_setPawl 66 = .ok (.iload_n 3, 1) := by decide +kernel
theorem dX7_setPawl_67 : decode cX7_setPawl 67 = .ok (.ireturn, 1) := by decide +kernel
theorem dX7_setCylinder_0 : decode cX7_setCylinder 0 = .ok (.iload_n 1, 1) := by decide +kernel
theorem dX7_setCylinder_1 : decode cX7_setCylinder 1 = .ok (.invokestatic 36, 3) := by decide +kernel
theorem dX7_setCylinder_4 : decode cX7_setCylinder 4 = .ok (.iload_n 2, 1) := by decide +kernel
theorem dX7_setCylinder_5 : decode cX7_setCylinder 5 = .ok (.iconst 1, 1) := by decide +kernel
theorem dX7_setCylinder_6 : decode cX7_setCylinder 6 = .ok (.bipush 9, 2) := by decide +kernel
theorem dX7_setCylinder_8 : decode cX7_setCylinder 8 = .ok (.invokestatic 55, 3) := by decide +kernel
theorem dX7_setCylinder_11 : decode cX7_setCylinder 11 = .ok (.ifCond .eq 24, 3) := by decide +kernel
theorem dX7_setCylinder_14 : decode cX7_setCylinder 14 = .ok (.iload_n 3, 1) := by decide +kernel
theorem dX7_setCylinder_15 : decode cX7_setCylinder 15 = .ok (.iconst 1, 1) := by decide +kernel
theorem dX7_setCylinder_16 : decode cX7_setCylinder 16 = .ok (.bipush 50, 2) := by decide +kernel
theorem dX7_setCylinder_18 : decode cX7_setCylinder 18 = .ok (.invokestatic 55, 3) := by decide +kernel
theorem dX7_setCylinder_21 : decode cX7_setCylinder 21 = .ok (.ifCond .eq 14, 3) := by decide +kernel
theorem dX7_setCylinder_24 : decode cX7_setCylinder 24 = .ok (.iload 4, 2) := by decide +kernel
theorem dX7_setCylinder_26 : decode cX7_setCylinder 26 = .ok (.iconst 0, 1) := by decide +kernel
theorem dX7_setCylinder_27 : decode cX7_setCylinder 27 = .ok (.bipush 20, 2) := by decide +kernel
theorem dX7_setCylinder_29 : decode cX7_setCylinder 29 = .ok (.invokestatic 55, 3) := by decide +kernel
theorem dX7_setCylinder_32 : decode cX7_setCylinder 32 = .ok (.ifCond .ne 13, 3) := by decide +kernel
theorem dX7_setCylinder_35 : decode cX7_setCylinder 35 = .ok (.new 59, 3) := by decide +kernel
theorem dX7_setCylinder_38 : decode cX7_setCylinder 38 = .ok (.dup, 1) := by decide +kernel
theorem dX7_setCylinder_39 : decode cX7_setCylinder 39 = .ok (.ldc 73, 2) := by decide +kernel
theorem dX7_setCylinder_41 : decode cX7_setCylinder 41 = .ok (.invokespecial 63, 3) := by decide +kernel
theorem dX7_setCylinder_44 : decode cX7_setCylinder 44 = .ok (.athrow, 1) := by decide +kernel
theorem dX7_setCylinder_45 : decode cX7_setCylinder 45 = .ok (.aload_n 0, 1) := by decide +kernel
theorem dX7_setCylinder_46 : decode cX7_setCylinder 46 = .ok (.getfield 19, 3) := by decide +kernel
theorem dX7_setCylinder_49 : decode cX7_setCylinder 49 = .ok (.aload_n 0, 1) := by decide +kernel
theorem dX7_setCylinder_50 : decode cX7_setCylinder 50 = .ok (.getfield 10, 3) := by decide +kernel
theorem dX7_setCylinder_53 : decode cX7_setCylinder 53 = .ok (.invokevirtual 43, 3) := by decide +kernel
theorem dX7_setCylinder_56 : decode cX7_setCylinder 56 = .ok (.aload_n 0, 1) := by decide +kernel
theorem dX7_setCylinder_57 : decode cX7_setCylinder 57 = .ok (.getfield 10, 3) := by decide +kernel
theorem dX7_setCylinder_60 : decode cX7_setCylinder 60 = .ok (.getfield 75, 3) := by decide +kernel
theorem dX7_setCylinder_63 : decode cX7_setCylinder 63 = .ok (.getfield 79, 3) := by decide +kernel
theorem dX7_setCylinder_66 : decode cX7_setCylinder 66 = .ok (.iload_n 1, 1) := by decide +kernel
theorem dX7_setCylinder_67 : decode cX7_setCylinder 67 = .ok (.iload_n 2, 1) := by decide +kernel
theorem dX7_setCylinder_68 : decode cX7_setCylinder 68 = .ok (.iastore, 1) := by decide +kernel
theorem dX7_setCylinder_69 : decode cX7_setCylinder 69 = .ok (.aload_n 0, 1) := by decide +kernel
theorem dX7_setCylinder_70 : decode cX7_setCylinder 70 = .ok (.getfield 10, 3) := by decide +kernel
theorem dX7_setCylinder_73 : decode cX7_setCylinder 73 = .ok (.getfield 75, 3) := by decide +kernel
theorem dX7_setCylinder_76 : decode cX7_setCylinder 76 = .ok (.getfield 85, 3) := by decide +kernel
theorem dX7_setCylinder_79 : decode cX7_setCylinder 79 = .ok (.iload_n 1, 1) := by decide +kernel
theorem dX7_setCylinder_80 : decode cX7_setCylinder 80 = .ok (.iload_n 3, 1) := by decide +kernel
theorem dX7_setCylinder_81 : decode cX7_setCylinder 81 = .ok (.iastore, 1) := by decide +kernel
theorem dX7_setCylinder_82 : decode cX7_setCylinder 82 = .ok (.aload_n 0, 1) := by decide +kernel
theorem dX7_setCylinder_83 : decode cX7_setCylinder 83 = .ok (.getfield 10, 3) := by decide +kernel
theorem dX7_setCylinder_86 : decode cX7_setCylinder 86 = .ok (.getfield 75, 3) := by decide +kernel
theorem dX7_setCylinder_89 : decode cX7_setCylinder 89 = .ok (.getfield 88, 3) := by decide +kernel
theorem dX7_setCylinder_92 : decode cX7_setCylinder 92 = .ok (.iload_n 1, 1) := by decide +kernel
theorem dX7_setCylinder_93 : decode cX7_setCylinder 93 = .ok (.iload 4, 2) := by decide +kernel
theorem dX7_setCylinder_95 : decode cX7_setCylinder 95 = .ok (.iastore, 1) := by decide +kernel
theorem dX7_setCylinder_96 : decode cX7_setCylinder 96 = .ok (.aload_n 0, 1) := by decide +kernel
theorem dX7_setCylinder_97 : decode cX7_setCylinder 97 = .ok (.getfield 10, 3) := by decide +kernel
theorem dX7_setCylinder_100 : decode cX7_setCylinder 100 = .ok (.getfield 75, 3) := by decide +kernel
theorem dX7_setCylinder_103 : decode cX7_setCylinder 103 = .ok (.getfield 91, 3) := by decide +kernel
theorem dX7_setCylinder_106 : decode cX7_setCylinder 106 = .ok (.iload_n 1, 1) := by decide +kernel
theorem dX7_setCylinder_107 : decode cX7_setCylinder 107 = .ok (.iaload, 1) := by decide +kernel
theorem dX7_setCylinder_108 : decode cX7_setCylinder 108 = .ok (.ireturn, 1) := by decide +kernel
theorem dX7_setAir_0 : decode cX7_setAir 0 = .ok (.iload_n 1, 1) := by decide +kernel
theorem dX7_setAir_1 : decode cX7_setAir 1 = .ok (.bipush 100, 2) := by decide +kernel
theorem dX7_setAir_3 : decode cX7_setAir 3 = .ok (.sipush 9999, 3) := by decide +kernel
theorem dX7_setAir_6 : decode cX7_setAir 6 = .ok (.invokestatic 55, 3) := by decide +kernel
theorem dX7_setAir_9 : decode cX7_setAir 9 = .ok (.ifCond .eq 14, 3) := by decide +kernel
theorem dX7_setAir_12 : decode cX7_setAir 12 = .ok (.iload_n 2, 1) := by decide +kernel
theorem dX7_setAir_13 : decode cX7_setAir 13 = .ok (.iconst 0, 1) := by decide +kernel
theorem dX7_setAir_14 : decode cX7_setAir 14 = .ok (.sipush 500, 3) := by decide +kernel
theorem dX7_setAir_17 : decode cX7_setAir 17 = .ok (.invokestatic 55, 3) := by decide +kernel
theorem dX7_setAir_20 : decode cX7_setAir 20 = .ok (.ifCond .ne 13, 3) := by decide +kernel
theorem dX7_setAir_23 : decode cX7_setAir 23 = .ok (.new 59, 3) := by decide +kernel
theorem dX7_setAir_26 : decode cX7_setAir 26 = .ok (.dup, 1) := by decide +kernel
theorem dX7_setAir_27 : decode cX7_setAir 27 = .ok (.ldc 94, 2) := by decide +kernel
theorem dX7_setAir_29 : decode cX7_setAir 29 = .ok (.invokespecial 63, 3) := by decide +kernel
theorem dX7_setAir_32 : decode cX7_setAir 32 = .ok (.athrow, 1) := by decide +kernel
theorem dX7_setAir_33 : decode cX7_setAir 33 = .ok (.aload_n 0, 1) := by decide +kernel
theorem dX7_setAir_34 : decode cX7_setAir 34 = .ok (.getfield 19, 3) := by decide +kernel
theorem dX7_setAir_37 : decode cX7_setAir 37 = .ok (.aload_n 0, 1) := by decide +kernel
theorem dX7_setAir_38 : decode cX7_setAir 38 = .ok (.getfield 10, 3) := by decide +kernel
theorem dX7_setAir_41 : decode cX7_setAir 41 = .ok (.invokevirtual 43, 3) := by decide +kernel
theorem dX7_setAir_44 : decode cX7_setAir 44 = .ok (.aload_n 0, 1) := by decide +kernel
theorem dX7_setAir_45 : decode cX7_setAir 45 = .ok (.getfield 10, 3) := by decide +kernel
theorem dX7_setAir_48 : decode cX7_setAir 48 = .ok (.getfield 96, 3) := by decide +kernel
theorem dX7_setAir_51 : decode cX7_setAir 51 = .ok (.iload_n 1, 1) := by decide +kernel
theorem dX7_setAir_52 : decode cX7_setAir 52 = .ok (.putfield 100, 3) := by decide +kernel
theorem dX7_setAir_55 : decode cX7_setAir 55 = .ok (.aload_n 0, 1) := by decide +kernel
theorem dX7_setAir_56 : decode cX7_setAir 56 = .ok (.getfield 10, 3) := by decide +kernel
theorem dX7_setAir_59 : decode cX7_setAir 59 = .ok (.getfield 96, 3) := by decide +kernel
theorem dX7_setAir_62 : decode cX7_setAir 62 = .ok (.iload_n 2, 1) := by decide +kernel
theorem dX7_setAir_63 : decode cX7_setAir 63 = .ok (.putfield 105, 3) := by decide +kernel
theorem dX7_setAir_66 : decode cX7_setAir 66 = .ok (.aload_n 0, 1) := by decide +kernel
theorem dX7_setAir_67 : decode cX7_setAir 67 = .ok (.getfield 10, 3) := by decide +kernel
theorem dX7_setAir_70 : decode cX7_setAir 70 = .ok (.getfield 96, 3) := by decide +kernel
theorem dX7_setAir_73 : decode cX7_setAir 73 = .ok (.invokevirtual 108, 3) := by decide +kernel
theorem dX7_setAir_76 : decode cX7_setAir 76 = .ok (.aload_n 0, 1) := by decide +kernel
theorem dX7_setAir_77 : decode cX7_setAir 77 = .ok (.getfield 10, 3) := by decide +kernel
theorem dX7_setAir_80 : decode cX7_setAir 80 = .ok (.getfield 96, 3) := by decide +kernel
theorem dX7_setAir_83 : decode cX7_setAir 83 = .ok (.getfield 111, 3) := by decide +kernel
theorem dX7_setAir_86 : decode cX7_setAir 86 = .ok (.ireturn, 1) := by decide +kernel
theorem dX7_addGuard_0 : decode cX7_addGuard 0 = .ok (.iload_n 1, 1) := by decide +kernel
theorem dX7_addGuard_1 : decode cX7_addGuard 1 = .ok (.invokestatic 36, 3) := by decide +kernel
theorem dX7_addGuard_4 : decode cX7_addGuard 4 = .ok (.iload_n 2, 1) := by decide +kernel
theorem dX7_addGuard_5 : decode cX7_addGuard 5 = .ok (.invokestatic 36, 3) := by decide +kernel
theorem dX7_addGuard_8 : decode cX7_addGuard 8 = .ok (.iload_n 1, 1) := by decide +kernel
theorem dX7_addGuard_9 : decode cX7_addGuard 9 = .ok (.iload_n 2, 1) := by decide +kernel
theorem dX7_addGuard_10 : decode cX7_addGuard 10 = .ok (.if_icmp .eq 13, 3) := by decide +kernel
theorem dX7_addGuard_13 : decode cX7_addGuard 13 = .ok (.iload_n 3, 1) := by decide +kernel
theorem dX7_addGuard_14 : decode cX7_addGuard 14 = .ok (.iconst 1, 1) := by decide +kernel
theorem dX7_addGuard_15 : decode cX7_addGuard 15 = .ok (.bipush 99, 2) := by decide +kernel
theorem dX7_addGuard_17 : decode cX7_addGuard 17 = .ok (.invokestatic 55, 3) := by decide +kernel
theorem dX7_addGuard_20 : decode cX7_addGuard 20 = .ok (.ifCond .ne 13, 3) := by decide +kernel
theorem dX7_addGuard_23 : decode cX7_addGuard 23 = .ok (.new 59, 3) := by decide +kernel
theorem dX7_addGuard_26 : decode cX7_addGuard 26 = .ok (.dup, 1) := by decide +kernel
theorem dX7_addGuard_27 : decode cX7_addGuard 27 = .ok (.ldc 114, 2) := by decide +kernel
theorem dX7_addGuard_29 : decode cX7_addGuard 29 = .ok (.invokespecial 63, 3) := by decide +kernel
theorem dX7_addGuard_32 : decode cX7_addGuard 32 = .ok (.athrow, 1) := by decide +kernel
theorem dX7_addGuard_33 : decode cX7_addGuard 33 = .ok (.aload_n 0, 1) := by decide +kernel
theorem dX7_addGuard_34 : decode cX7_addGuard 34 = .ok (.getfield 10, 3) := by decide +kernel
theorem dX7_addGuard_37 : decode cX7_addGuard 37 = .ok (.getfield 116, 3) := by decide +kernel
theorem dX7_addGuard_40 : decode cX7_addGuard 40 = .ok (.getfield 120, 3) := by decide +kernel
theorem dX7_addGuard_43 : decode cX7_addGuard 43 = .ok (.iconst 4, 1) := by decide +kernel
theorem dX7_addGuard_44 : decode cX7_addGuard 44 = .ok (.if_icmp .lt 13, 3) := by decide +kernel
theorem dX7_addGuard_47 : decode cX7_addGuard 47 = .ok (.new 125, 3) := by decide +kernel
theorem dX7_addGuard_50 : decode cX7_addGuard 50 = .ok (.dup, 1) := by decide +kernel
theorem dX7_addGuard_51 : decode cX7_addGuard 51 = .ok (.ldc 127, 2) := by decide +kernel
theorem dX7_addGuard_53 : decode cX7_addGuard 53 = .ok (.invokespecial 129, 3) := by decide +kernel
theorem dX7_addGuard_56 : decode cX7_addGuard 56 = .ok (.athrow, 1) := by decide +kernel
theorem dX7_addGuard_57 : decode cX7_addGuard 57 = .ok (.aload_n 0, 1) := by decide +kernel
theorem dX7_addGuard_58 : decode cX7_addGuard 58 = .ok (.getfield 19, 3) := by decide +kernel
theorem dX7_addGuard_61 : decode cX7_addGuard 61 = .ok (.aload_n 0, 1) := by decide +kernel
theorem dX7_addGuard_62 : decode cX7_addGuard 62 = .ok (.getfield 10, 3) := by decide +kernel
theorem dX7_addGuard_65 : decode cX7_addGuard 65 = .ok (.invokevirtual 43, 3) := by decide +kernel
theorem dX7_addGuard_68 : decode cX7_addGuard 68 = .ok (.aload_n 0, 1) := by decide +kernel
theorem dX7_addGuard_69 : decode cX7_addGuard 69 = .ok (.getfield 10, 3) := by decide +kernel
theorem dX7_addGuard_72 : decode cX7_addGuard 72 = .ok (.getfield 116, 3) := by decide +kernel
theorem dX7_addGuard_75 : decode cX7_addGuard 75 = .ok (.iload_n 1, 1) := by decide +kernel
theorem dX7_addGuard_76 : decode cX7_addGuard 76 = .ok (.iload_n 2, 1) := by decide +kernel
theorem dX7_addGuard_77 : decode cX7_addGuard 77 = .ok (.iload_n 3, 1) := by decide +kernel
theorem dX7_addGuard_78 : decode cX7_addGuard 78 = .ok (.invokevirtual 130, 3) := by decide +kernel
theorem dX7_addGuard_81 : decode cX7_addGuard 81 = .ok (.ireturn, 1) := by decide +kernel
theorem dX7_removeGuard_0 : decode cX7_removeGuard 0 = .ok (.aload_n 0, 1) := by decide +kernel
theorem dX7_removeGuard_1 : decode cX7_removeGuard 1 = .ok (.iload_n 1, 1) := by decide +kernel
theorem dX7_removeGuard_2 : decode cX7_removeGuard 2 = .ok (.invokevirtual 134, 3) := by decide +kernel
theorem dX7_removeGuard_5 : decode cX7_removeGuard 5 = .ok (.aload_n 0, 1) := by decide +kernel
theorem dX7_removeGuard_6 : decode cX7_removeGuard 6 = .ok (.getfield 19, 3) := by decide +kernel
theorem dX7_removeGuard_9 : decode cX7_removeGuard 9 = .ok (.aload_n 0, 1) := by decide +kernel
theorem dX7_removeGuard_10 : decode cX7_removeGuard 10 = .ok (.getfield 10, 3) := by decide +kernel
theorem dX7_removeGuard_13 : decode cX7_removeGuard 13 = .ok (.invokevirtual 43, 3) := by decide +kernel
theorem dX7_removeGuard_16 : decode cX7_removeGuard 16 = .ok (.aload_n 0, 1) := by decide +kernel
theorem dX7_removeGuard_17 : decode cX7_removeGuard 17 = .ok (.getfield 10, 3) := by decide +kernel
theorem dX7_removeGuard_20 : decode cX7_removeGuard 20 = .ok (.getfield 116, 3) := by decide +kernel
theorem dX7_removeGuard_23 : decode cX7_removeGuard 23 = .ok (.iload_n 1, 1) := by decide +kernel
theorem dX7_removeGuard_24 : decode cX7_removeGuard 24 = .ok (.invokevirtual 137, 3) := by decide +kernel
theorem dX7_removeGuard_27 : decode cX7_removeGuard 27 = .ok (.aload_n 0, 1) := by decide +kernel
theorem dX7_removeGuard_28 : decode cX7_removeGuard 28 = .ok (.getfield 10, 3) := by decide +kernel
theorem dX7_removeGuard_31 : decode cX7_removeGuard 31 = .ok (.getfield 116, 3) := by decide +kernel
theorem dX7_removeGuard_34 : decode cX7_removeGuard 34 = .ok (.getfield 120, 3) := by decide +kernel
theorem dX7_removeGuard_37 : decode cX7_removeGuard 37 = .ok (.ireturn, 1) := by decide +kernel
theorem dX7_turn_0 : decode cX7_turn 0 = .ok (.aload_n 0, 1) := by decide +kernel
theorem dX7_turn_1 : decode cX7_turn 1 = .ok (.iload_n 1, 1) := by decide +kernel
theorem dX7_turn_2 : decode cX7_turn 2 = .ok (.invokevirtual 40, 3) := by decide +kernel
theorem dX7_turn_5 : decode cX7_turn 5 = .ok (.aload_n 0, 1) := by decide +kernel
theorem dX7_turn_6 : decode cX7_turn 6 = .ok (.getfield 19, 3) := by decide +kernel
theorem dX7_turn_9 : decode cX7_turn 9 = .ok (.aload_n 0, 1) := by decide +kernel
theorem dX7_turn_10 : decode cX7_turn 10 = .ok (.getfield 10, 3) := by decide +kernel
theorem dX7_turn_13 : decode cX7_turn 13 = .ok (.invokevirtual 43, 3) := by decide +kernel
theorem dX7_turn_16 : decode cX7_turn 16 = .ok (.aload_n 0, 1) := by decide +kernel
theorem dX7_turn_17 : decode cX7_turn 17 = .ok (.getfield 10, 3) := by decide +kernel
theorem dX7_turn_20 : decode cX7_turn 20 = .ok (.getfield 140, 3) := by decide +kernel
theorem dX7_turn_23 : decode cX7_turn 23 = .ok (.istore_n 2, 1) := by decide +kernel
theorem dX7_turn_24 : decode cX7_turn 24 = .ok (.aload_n 0, 1) := by decide +kernel
theorem dX7_turn_25 : decode cX7_turn 25 = .ok (.getfield 10, 3) := by decide +kernel
theorem dX7_turn_28 : decode cX7_turn 28 = .ok (.iload_n 1, 1) := by decide +kernel
theorem dX7_turn_29 : decode cX7_turn 29 = .ok (.invokevirtual 143, 3) := by decide +kernel
theorem dX7_turn_32 : decode cX7_turn 32 = .ok (.iload_n 2, 1) := by decide +kernel
theorem dX7_turn_33 : decode cX7_turn 33 = .ok (.ireturn, 1) := by decide +kernel
theorem dX7_run_0 : decode cX7_run 0 = .ok (.iload_n 1, 1) := by decide +kernel
theorem dX7_run_1 : decode cX7_run 1 = .ok (.iconst 1, 1) := by decide +kernel
theorem dX7_run_2 : decode cX7_run 2 = .ok (.sipush 500, 3) := by decide +kernel
theorem dX7_run_5 : decode cX7_run 5 = .ok (.invokestatic 55, 3) := by decide +kernel
theorem dX7_run_8 : decode cX7_run 8 = .ok (.ifCond .ne 13, 3) := by decide +kernel
theorem dX7_run_11 : decode cX7_run 11 = .ok (.new 59, 3) := by decide +kernel
theorem dX7_run_14 : decode cX7_run 14 = .ok (.dup, 1) := by decide +kernel
theorem dX7_run_15 : decode cX7_run 15 = .ok (.ldc 146, 2) := by decide +kernel
theorem dX7_run_17 : decode cX7_run 17 = .ok (.invokespecial 63, 3) := by decide +kernel
theorem dX7_run_20 : decode cX7_run 20 = .ok (.athrow, 1) := by decide +kernel
theorem dX7_run_21 : decode cX7_run 21 = .ok (.aload_n 0, 1) := by decide +kernel
theorem dX7_run_22 : decode cX7_run 22 = .ok (.getfield 10, 3) := by decide +kernel
theorem dX7_run_25 : decode cX7_run 25 = .ok (.getfield 148, 3) := by decide +kernel
theorem dX7_run_28 : decode cX7_run 28 = .ok (.iload_n 1, 1) := by decide +kernel
theorem dX7_run_29 : decode cX7_run 29 = .ok (.iadd, 1) := by decide +kernel
theorem dX7_run_30 : decode cX7_run 30 = .ok (.ldc 151, 2) := by decide +kernel
theorem dX7_run_32 : decode cX7_run 32 = .ok (.if_icmp .le 13, 3) := by decide +kernel
theorem dX7_run_35 : decode cX7_run 35 = .ok (.new 125, 3) := by decide +kernel
theorem dX7_run_38 : decode cX7_run 38 = .ok (.dup, 1) := by decide +kernel
theorem dX7_run_39 : decode cX7_run 39 = .ok (.ldc 152, 2) := by decide +kernel
theorem dX7_run_41 : decode cX7_run 41 = .ok (.invokespecial 129, 3) := by decide +kernel
theorem dX7_run_44 : decode cX7_run 44 = .ok (.athrow, 1) := by decide +kernel
theorem dX7_run_45 : decode cX7_run 45 = .ok (.aload_n 0, 1) := by decide +kernel
theorem dX7_run_46 : decode cX7_run 46 = .ok (.getfield 19, 3) := by decide +kernel
theorem dX7_run_49 : decode cX7_run 49 = .ok (.aload_n 0, 1) := by decide +kernel
theorem dX7_run_50 : decode cX7_run 50 = .ok (.getfield 10, 3) := by decide +kernel
theorem dX7_run_53 : decode cX7_run 53 = .ok (.invokevirtual 43, 3) := by decide +kernel
theorem dX7_run_56 : decode cX7_run 56 = .ok (.aload_n 0, 1) := by decide +kernel
theorem dX7_run_57 : decode cX7_run 57 = .ok (.getfield 10, 3) := by decide +kernel
theorem dX7_run_60 : decode cX7_run 60 = .ok (.getfield 154, 3) := by decide +kernel
theorem dX7_run_63 : decode cX7_run 63 = .ok (.istore_n 2, 1) := by decide +kernel
theorem dX7_run_64 : decode cX7_run 64 = .ok (.iconst 0, 1) := by decide +kernel
theorem dX7_run_65 : decode cX7_run 65 = .ok (.istore_n 3, 1) := by decide +kernel
theorem dX7_run_66 : decode cX7_run 66 = .ok (.iload_n 3, 1) := by decide +kernel
theorem dX7_run_67 : decode cX7_run 67 = .ok (.iload_n 1, 1) := by decide +kernel
theorem dX7_run_68 : decode cX7_run 68 = .ok (.if_icmp .ge 17, 3) := by decide +kernel
theorem dX7_run_71 : decode cX7_run 71 = .ok (.aload_n 0, 1) := by decide +kernel
theorem dX7_run_72 : decode cX7_run 72 = .ok (.getfield 10, 3) := by decide +kernel
theorem dX7_run_75 : decode cX7_run 75 = .ok (.invokevirtual 157, 3) := by decide +kernel
theorem dX7_run_78 : decode cX7_run 78 = .ok (.pop, 1) := by decide +kernel
theorem dX7_run_79 : decode cX7_run 79 = .ok (.iinc 3 1, 3) := by decide +kernel
theorem dX7_run_82 : decode cX7_run 82 = .ok (.goto (-16), 3) := by decide +kernel
theorem dX7_run_85 : decode cX7_run 85 = .ok (.aload_n 0, 1) := by decide +kernel
theorem dX7_run_86 : decode cX7_run 86 = .ok (.getfield 10, 3) := by decide +kernel
theorem dX7_run_89 : decode cX7_run 89 = .ok (.getfield 154, 3) := by decide +kernel
theorem dX7_run_92 : decode cX7_run 92 = .ok (.iload_n 2, 1) := by decide +kernel
theorem dX7_run_93 : decode cX7_run 93 = .ok (.isub, 1) := by decide +kernel
theorem dX7_run_94 : decode cX7_run 94 = .ok (.ireturn, 1) := by decide +kernel
theorem dX7_cam_0 : decode cX7_cam 0 = .ok (.iload_n 1, 1) := by decide +kernel
theorem dX7_cam_1 : decode cX7_cam 1 = .ok (.invokestatic 36, 3) := by decide +kernel
theorem dX7_cam_4 : decode cX7_cam 4 = .ok (.aload_n 0, 1) := by decide +kernel
theorem dX7_cam_5 : decode cX7_cam 5 = .ok (.iload_n 2, 1) := by decide +kernel
theorem dX7_cam_6 : decode cX7_cam 6 = .ok (.invokevirtual 40, 3) := by decide +kernel
theorem dX7_cam_9 : decode cX7_cam 9 = .ok (.aload_n 0, 1) := by decide +kernel
theorem dX7_cam_10 : decode cX7_cam 10 = .ok (.getfield 10, 3) := by decide +kernel
theorem dX7_cam_13 : decode cX7_cam 13 = .ok (.iload_n 1, 1) := by decide +kernel
theorem dX7_cam_14 : decode cX7_cam 14 = .ok (.iload_n 2, 1) := by decide +kernel
theorem dX7_cam_15 : decode cX7_cam 15 = .ok (.invokevirtual 161, 3) := by decide +kernel
theorem dX7_cam_18 : decode cX7_cam 18 = .ok (.ireturn, 1) := by decide +kernel
theorem dX7_cylinder_0 : decode cX7_cylinder 0 = .ok (.iload_n 1, 1) := by decide +kernel
theorem dX7_cylinder_1 : decode cX7_cylinder 1 = .ok (.invokestatic 36, 3) := by decide +kernel
theorem dX7_cylinder_4 : decode cX7_cylinder 4 = .ok (.iload_n 2, 1) := by decide +kernel
theorem dX7_cylinder_5 : decode cX7_cylinder 5 = .ok (.bipush 8, 2) := by decide +kernel
theorem dX7_cylinder_7 : decode cX7_cylinder 7 = .ok (.invokestatic 165, 3) := by decide +kernel
theorem dX7_cylinder_10 : decode cX7_cylinder 10 = .ok (.aload_n 0, 1) := by decide +kernel
theorem dX7_cylinder_11 : decode cX7_cylinder 11 = .ok (.getfield 10, 3) := by decide +kernel
theorem dX7_cylinder_14 : decode cX7_cylinder 14 = .ok (.iload_n 1, 1) := by decide +kernel
theorem dX7_cylinder_15 : decode cX7_cylinder 15 = .ok (.iload_n 2, 1) := by decide +kernel
theorem dX7_cylinder_16 : decode cX7_cylinder 16 = .ok (.invokevirtual 169, 3) := by decide +kernel
theorem dX7_cylinder_19 : decode cX7_cylinder 19 = .ok (.ireturn, 1) := by decide +kernel
theorem dX7_guard_0 : decode cX7_guard 0 = .ok (.aload_n 0, 1) := by decide +kernel
theorem dX7_guard_1 : decode cX7_guard 1 = .ok (.iload_n 1, 1) := by decide +kernel
theorem dX7_guard_2 : decode cX7_guard 2 = .ok (.invokevirtual 134, 3) := by decide +kernel
theorem dX7_guard_5 : decode cX7_guard 5 = .ok (.iload_n 2, 1) := by decide +kernel
theorem dX7_guard_6 : decode cX7_guard 6 = .ok (.iconst 4, 1) := by decide +kernel
theorem dX7_guard_7 : decode cX7_guard 7 = .ok (.invokestatic 165, 3) := by decide +kernel
theorem dX7_guard_10 : decode cX7_guard 10 = .ok (.aload_n 0, 1) := by decide +kernel
theorem dX7_guard_11 : decode cX7_guard 11 = .ok (.getfield 10, 3) := by decide +kernel
theorem dX7_guard_14 : decode cX7_guard 14 = .ok (.iload_n 1, 1) := by decide +kernel
theorem dX7_guard_15 : decode cX7_guard 15 = .ok (.iload_n 2, 1) := by decide +kernel
theorem dX7_guard_16 : decode cX7_guard 16 = .ok (.invokevirtual 173, 3) := by decide +kernel
theorem dX7_guard_19 : decode cX7_guard 19 = .ok (.ireturn, 1) := by decide +kernel
theorem dX7_value_0 : decode cX7_value 0 = .ok (.iload_n 1, 1) := by decide +kernel
theorem dX7_value_1 : decode cX7_value 1 = .ok (.bipush 16, 2) := by decide +kernel
theorem dX7_value_3 : decode cX7_value 3 = .ok (.invokestatic 165, 3) := by decide +kernel
theorem dX7_value_6 : decode cX7_value 6 = .ok (.aload_n 0, 1) := by decide +kernel
theorem dX7_value_7 : decode cX7_value 7 = .ok (.getfield 10, 3) := by decide +kernel
theorem dX7_value_10 : decode cX7_value 10 = .ok (.iload_n 1, 1) := by decide +kernel
theorem dX7_value_11 : decode cX7_value 11 = .ok (.invokevirtual 176, 3) := by decide +kernel
theorem dX7_value_14 : decode cX7_value 14 = .ok (.ireturn, 1) := by decide +kernel
theorem dX7_chart_0 : decode cX7_chart 0 = .ok (.iload_n 1, 1) := by decide +kernel
theorem dX7_chart_1 : decode cX7_chart 1 = .ok (.invokestatic 36, 3) := by decide +kernel
theorem dX7_chart_4 : decode cX7_chart 4 = .ok (.aload_n 0, 1) := by decide +kernel
theorem dX7_chart_5 : decode cX7_chart 5 = .ok (.iload_n 2, 1) := by decide +kernel
theorem dX7_chart_6 : decode cX7_chart 6 = .ok (.invokevirtual 40, 3) := by decide +kernel
theorem dX7_chart_9 : decode cX7_chart 9 = .ok (.aload_n 0, 1) := by decide +kernel
theorem dX7_chart_10 : decode cX7_chart 10 = .ok (.getfield 10, 3) := by decide +kernel
theorem dX7_chart_13 : decode cX7_chart 13 = .ok (.getfield 179, 3) := by decide +kernel
theorem dX7_chart_16 : decode cX7_chart 16 = .ok (.iload_n 1, 1) := by decide +kernel
theorem dX7_chart_17 : decode cX7_chart 17 = .ok (.iload_n 2, 1) := by decide +kernel
theorem dX7_chart_18 : decode cX7_chart 18 = .ok (.invokevirtual 183, 3) := by decide +kernel
theorem dX7_chart_21 : decode cX7_chart 21 = .ok (.ireturn, 1) := by decide +kernel
theorem dX7_skips_0 : decode cX7_skips 0 = .ok (.aload_n 0, 1) := by decide +kernel
theorem dX7_skips_1 : decode cX7_skips 1 = .ok (.iload_n 1, 1) := by decide +kernel
theorem dX7_skips_2 : decode cX7_skips 2 = .ok (.invokevirtual 40, 3) := by decide +kernel
theorem dX7_skips_5 : decode cX7_skips 5 = .ok (.aload_n 0, 1) := by decide +kernel
theorem dX7_skips_6 : decode cX7_skips 6 = .ok (.getfield 10, 3) := by decide +kernel
theorem dX7_skips_9 : decode cX7_skips 9 = .ok (.getfield 179, 3) := by decide +kernel
theorem dX7_skips_12 : decode cX7_skips 12 = .ok (.iload_n 1, 1) := by decide +kernel
theorem dX7_skips_13 : decode cX7_skips 13 = .ok (.invokevirtual 188, 3) := by decide +kernel
theorem dX7_skips_16 : decode cX7_skips 16 = .ok (.ireturn, 1) := by decide +kernel
theorem dX7_ticksToOut_0 : decode cX7_ticksToOut 0 = .ok (.iload_n 1, 1) := by decide +kernel
theorem dX7_ticksToOut_1 : decode cX7_ticksToOut 1 = .ok (.invokestatic 36, 3) := by decide +kernel
theorem dX7_ticksToOut_4 : decode cX7_ticksToOut 4 = .ok (.aload_n 0, 1) := by decide +kernel
theorem dX7_ticksToOut_5 : decode cX7_ticksToOut 5 = .ok (.getfield 30, 3) := by decide +kernel
theorem dX7_ticksToOut_8 : decode cX7_ticksToOut 8 = .ok (.aload_n 0, 1) := by decide +kernel
theorem dX7_ticksToOut_9 : decode cX7_ticksToOut 9 = .ok (.getfield 10, 3) := by decide +kernel
theorem dX7_ticksToOut_12 : decode cX7_ticksToOut 12 = .ok (.invokevirtual 191, 3) := by decide +kernel
theorem dX7_ticksToOut_15 : decode cX7_ticksToOut 15 = .ok (.iconst 0, 1) := by decide +kernel
theorem dX7_ticksToOut_16 : decode cX7_ticksToOut 16 = .ok (.istore_n 2, 1) := by decide +kernel
theorem dX7_ticksToOut_17 : decode cX7_ticksToOut 17 = .ok (.iload_n 2, 1) := by decide +kernel
theorem dX7_ticksToOut_18 : decode cX7_ticksToOut 18 = .ok (.sipush 500, 3) := by decide +kernel
theorem dX7_ticksToOut_21 : decode cX7_ticksToOut 21 = .ok (.if_icmp .gt 36, 3) := by decide +kernel
theorem dX7_ticksToOut_24 : decode cX7_ticksToOut 24 = .ok (.aload_n 0, 1) := by decide +kernel
theorem dX7_ticksToOut_25 : decode cX7_ticksToOut 25 = .ok (.getfield 30, 3) := by decide +kernel
theorem dX7_ticksToOut_28 : decode cX7_ticksToOut 28 = .ok (.getfield 75, 3) := by decide +kernel
theorem dX7_ticksToOut_31 : decode cX7_ticksToOut 31 = .ok (.getfield 91, 3) := by decide +kernel
theorem dX7_ticksToOut_34 : decode cX7_ticksToOut 34 = .ok (.iload_n 1, 1) := by decide +kernel
theorem dX7_ticksToOut_35 : decode cX7_ticksToOut 35 = .ok (.iaload, 1) := by decide +kernel
theorem dX7_ticksToOut_36 : decode cX7_ticksToOut 36 = .ok (.bipush 100, 2) := by decide +kernel
theorem dX7_ticksToOut_38 : decode cX7_ticksToOut 38 = .ok (.if_icmp .ne 5, 3) := by decide +kernel
theorem dX7_ticksToOut_41 : decode cX7_ticksToOut 41 = .ok (.iload_n 2, 1) := by decide +kernel
theorem dX7_ticksToOut_42 : decode cX7_ticksToOut 42 = .ok (.ireturn, 1) := by decide +kernel
theorem dX7_ticksToOut_43 : decode cX7_ticksToOut 43 = .ok (.aload_n 0, 1) := by decide +kernel
theorem dX7_ticksToOut_44 : decode cX7_ticksToOut 44 = .ok (.getfield 30, 3) := by decide +kernel
theorem dX7_ticksToOut_47 : decode cX7_ticksToOut 47 = .ok (.invokevirtual 157, 3) := by decide +kernel
theorem dX7_ticksToOut_50 : decode cX7_ticksToOut 50 = .ok (.pop, 1) := by decide +kernel
theorem dX7_ticksToOut_51 : decode cX7_ticksToOut 51 = .ok (.iinc 2 1, 3) := by decide +kernel
theorem dX7_ticksToOut_54 : decode cX7_ticksToOut 54 = .ok (.goto (-37), 3) := by decide +kernel
theorem dX7_ticksToOut_57 : decode cX7_ticksToOut 57 = .ok (.iconst (-1), 1) := by decide +kernel
theorem dX7_ticksToOut_58 : decode cX7_ticksToOut 58 = .ok (.ireturn, 1) := by decide +kernel
theorem dX7_ticksToCycle_0 : decode cX7_ticksToCycle 0 = .ok (.aload_n 0, 1) := by decide +kernel
theorem dX7_ticksToCycle_1 : decode cX7_ticksToCycle 1 = .ok (.getfield 30, 3) := by decide +kernel
theorem dX7_ticksToCycle_4 : decode cX7_ticksToCycle 4 = .ok (.aload_n 0, 1) := by decide +kernel
theorem dX7_ticksToCycle_5 : decode cX7_ticksToCycle 5 = .ok (.getfield 10, 3) := by decide +kernel
theorem dX7_ticksToCycle_8 : decode cX7_ticksToCycle 8 = .ok (.invokevirtual 191, 3) := by decide +kernel
theorem dX7_ticksToCycle_11 : decode cX7_ticksToCycle 11 = .ok (.aload_n 0, 1) := by decide +kernel
theorem dX7_ticksToCycle_12 : decode cX7_ticksToCycle 12 = .ok (.getfield 30, 3) := by decide +kernel
theorem dX7_ticksToCycle_15 : decode cX7_ticksToCycle 15 = .ok (.sipush 1000, 3) := by decide +kernel
theorem dX7_ticksToCycle_18 : decode cX7_ticksToCycle 18 = .ok (.invokevirtual 194, 3) := by decide +kernel
theorem dX7_ticksToCycle_21 : decode cX7_ticksToCycle 21 = .ok (.ireturn, 1) := by decide +kernel
theorem dX7_leastCompressor_0 : decode cX7_leastCompressor 0 = .ok (.iload_n 1, 1) := by decide +kernel
theorem dX7_leastCompressor_1 : decode cX7_leastCompressor 1 = .ok (.iconst 1, 1) := by decide +kernel
theorem dX7_leastCompressor_2 : decode cX7_leastCompressor 2 = .ok (.sipush 300, 3) := by decide +kernel
theorem dX7_leastCompressor_5 : decode cX7_leastCompressor 5 = .ok (.invokestatic 55, 3) := by decide +kernel
theorem dX7_leastCompressor_8 : decode cX7_leastCompressor 8 = .ok (.ifCond .ne 13, 3) := by decide +kernel
theorem dX7_leastCompressor_11 : decode cX7_leastCompressor 11 = .ok (.new 59, 3) := by decide +kernel
theorem dX7_leastCompressor_14 : decode cX7_leastCompressor 14 = .ok (.dup, 1) := by decide +kernel
theorem dX7_leastCompressor_15 : decode cX7_leastCompressor 15 = .ok (.ldc 146, 2) := by decide +kernel
theorem dX7_leastCompressor_17 : decode cX7_leastCompressor 17 = .ok (.invokespecial 63, 3) := by decide +kernel
theorem dX7_leastCompressor_20 : decode cX7_leastCompressor 20 = .ok (.athrow, 1) := by decide +kernel
theorem dX7_leastCompressor_21 : decode cX7_leastCompressor 21 = .ok (.iconst 0, 1) := by decide +kernel
theorem dX7_leastCompressor_22 : decode cX7_leastCompressor 22 = .ok (.istore_n 2, 1) := by decide +kernel
theorem dX7_leastCompressor_23 : decode cX7_leastCompressor 23 = .ok (.iload_n 2, 1) := by decide +kernel
theorem dX7_leastCompressor_24 : decode cX7_leastCompressor 24 = .ok (.sipush 500, 3) := by decide +kernel
theorem dX7_leastCompressor_27 : decode cX7_leastCompressor 27 = .ok (.if_icmp .gt 20, 3) := by decide +kernel
theorem dX7_leastCompressor_30 : decode cX7_leastCompressor 30 = .ok (.aload_n 0, 1) := by decide +kernel
theorem dX7_leastCompressor_31 : decode cX7_leastCompressor 31 = .ok (.iload_n 2, 1) := by decide +kernel
theorem dX7_leastCompressor_32 : decode cX7_leastCompressor 32 = .ok (.iload_n 1, 1) := by decide +kernel
theorem dX7_leastCompressor_33 : decode cX7_leastCompressor 33 = .ok (.invokevirtual 197, 3) := by decide +kernel
theorem dX7_leastCompressor_36 : decode cX7_leastCompressor 36 = .ok (.ifCond .eq 5, 3) := by decide +kernel
theorem dX7_leastCompressor_39 : decode cX7_leastCompressor 39 = .ok (.iload_n 2, 1) := by decide +kernel
theorem dX7_leastCompressor_40 : decode cX7_leastCompressor 40 = .ok (.ireturn, 1) := by decide +kernel
theorem dX7_leastCompressor_41 : decode cX7_leastCompressor 41 = .ok (.iinc 2 10, 3) := by decide +kernel
theorem dX7_leastCompressor_44 : decode cX7_leastCompressor 44 = .ok (.goto (-21), 3) := by decide +kernel
theorem dX7_leastCompressor_47 : decode cX7_leastCompressor 47 = .ok (.iconst (-1), 1) := by decide +kernel
theorem dX7_leastCompressor_48 : decode cX7_leastCompressor 48 = .ok (.ireturn, 1) := by decide +kernel
theorem dX7_shortestDwell_0 : decode cX7_shortestDwell 0 = .ok (.iconst 1, 1) := by decide +kernel
theorem dX7_shortestDwell_1 : decode cX7_shortestDwell 1 = .ok (.istore_n 1, 1) := by decide +kernel
theorem dX7_shortestDwell_2 : decode cX7_shortestDwell 2 = .ok (.iload_n 1, 1) := by decide +kernel
theorem dX7_shortestDwell_3 : decode cX7_shortestDwell 3 = .ok (.bipush 20, 2) := by decide +kernel
theorem dX7_shortestDwell_5 : decode cX7_shortestDwell 5 = .ok (.if_icmp .gt 19, 3) := by decide +kernel
theorem dX7_shortestDwell_8 : decode cX7_shortestDwell 8 = .ok (.aload_n 0, 1) := by decide +kernel
theorem dX7_shortestDwell_9 : decode cX7_shortestDwell 9 = .ok (.iload_n 1, 1) := by decide +kernel
theorem dX7_shortestDwell_10 : decode cX7_shortestDwell 10 = .ok (.invokevirtual 200, 3) := by decide +kernel
theorem dX7_shortestDwell_13 : decode cX7_shortestDwell 13 = .ok (.ifCond .eq 5, 3) := by decide +kernel
theorem dX7_shortestDwell_16 : decode cX7_shortestDwell 16 = .ok (.iload_n 1, 1) := by decide +kernel
theorem dX7_shortestDwell_17 : decode cX7_shortestDwell 17 = .ok (.ireturn, 1) := by decide +kernel
theorem dX7_shortestDwell_18 : decode cX7_shortestDwell 18 = .ok (.iinc 1 1, 3) := by decide +kernel
theorem dX7_shortestDwell_21 : decode cX7_shortestDwell 21 = .ok (.goto (-19), 3) := by decide +kernel
theorem dX7_shortestDwell_24 : decode cX7_shortestDwell 24 = .ok (.iconst (-1), 1) := by decide +kernel
theorem dX7_shortestDwell_25 : decode cX7_shortestDwell 25 = .ok (.ireturn, 1) := by decide +kernel
theorem dX7_repeats_0 : decode cX7_repeats 0 = .ok (.aload_n 0, 1) := by decide +kernel
theorem dX7_repeats_1 : decode cX7_repeats 1 = .ok (.getfield 30, 3) := by decide +kernel
theorem dX7_repeats_4 : decode cX7_repeats 4 = .ok (.aload_n 0, 1) := by decide +kernel
theorem dX7_repeats_5 : decode cX7_repeats 5 = .ok (.getfield 10, 3) := by decide +kernel
theorem dX7_repeats_8 : decode cX7_repeats 8 = .ok (.invokevirtual 191, 3) := by decide +kernel
theorem dX7_repeats_11 : decode cX7_repeats 11 = .ok (.aload_n 0, 1) := by decide +kernel
theorem dX7_repeats_12 : decode cX7_repeats 12 = .ok (.getfield 30, 3) := by decide +kernel
theorem dX7_repeats_15 : decode cX7_repeats 15 = .ok (.sipush 2000, 3) := by decide +kernel
theorem dX7_repeats_18 : decode cX7_repeats 18 = .ok (.invokevirtual 194, 3) := by decide +kernel
theorem dX7_repeats_21 : decode cX7_repeats 21 = .ok (.istore_n 1, 1) := by decide +kernel
theorem dX7_repeats_22 : decode cX7_repeats 22 = .ok (.iload_n 1, 1) := by decide +kernel
theorem dX7_repeats_23 : decode cX7_repeats 23 = .ok (.iconst (-1), 1) := by decide +kernel
theorem dX7_repeats_24 : decode cX7_repeats 24 = .ok (.if_icmp .ne 5, 3) := by decide +kernel
theorem dX7_repeats_27 : decode cX7_repeats 27 = .ok (.iconst 0, 1) := by decide +kernel
theorem dX7_repeats_28 : decode cX7_repeats 28 = .ok (.ireturn, 1) := by decide +kernel
theorem dX7_repeats_29 : decode cX7_repeats 29 = .ok (.aload_n 0, 1) := by decide +kernel
theorem dX7_repeats_30 : decode cX7_repeats 30 = .ok (.getfield 33, 3) := by decide +kernel
theorem dX7_repeats_33 : decode cX7_repeats 33 = .ok (.aload_n 0, 1) := by decide +kernel
theorem dX7_repeats_34 : decode cX7_repeats 34 = .ok (.getfield 30, 3) := by decide +kernel
theorem dX7_repeats_37 : decode cX7_repeats 37 = .ok (.invokevirtual 191, 3) := by decide +kernel
theorem dX7_repeats_40 : decode cX7_repeats 40 = .ok (.aload_n 0, 1) := by decide +kernel
theorem dX7_repeats_41 : decode cX7_repeats 41 = .ok (.getfield 30, 3) := by decide +kernel
theorem dX7_repeats_44 : decode cX7_repeats 44 = .ok (.sipush 2000, 3) := by decide +kernel
theorem dX7_repeats_47 : decode cX7_repeats 47 = .ok (.iload_n 1, 1) := by decide +kernel
theorem dX7_repeats_48 : decode cX7_repeats 48 = .ok (.isub, 1) := by decide +kernel
theorem dX7_repeats_49 : decode cX7_repeats 49 = .ok (.invokevirtual 194, 3) := by decide +kernel
theorem dX7_repeats_52 : decode cX7_repeats 52 = .ok (.iconst (-1), 1) := by decide +kernel
theorem dX7_repeats_53 : decode cX7_repeats 53 = .ok (.if_icmp .ne 5, 3) := by decide +kernel
theorem dX7_repeats_56 : decode cX7_repeats 56 = .ok (.iconst 0, 1) := by decide +kernel
theorem dX7_repeats_57 : decode cX7_repeats 57 = .ok (.ireturn, 1) := by decide +kernel
theorem dX7_repeats_58 : decode cX7_repeats 58 = .ok (.aload_n 0, 1) := by decide +kernel
theorem dX7_repeats_59 : decode cX7_repeats 59 = .ok (.getfield 30, 3) := by decide +kernel
theorem dX7_repeats_62 : decode cX7_repeats 62 = .ok (.aload_n 0, 1) := by decide +kernel
theorem dX7_repeats_63 : decode cX7_repeats 63 = .ok (.getfield 33, 3) := by decide +kernel
theorem dX7_repeats_66 : decode cX7_repeats 66 = .ok (.invokevirtual 204, 3) := by decide +kernel
theorem dX7_repeats_69 : decode cX7_repeats 69 = .ok (.ireturn, 1) := by decide +kernel
theorem dX7_useful_0 : decode cX7_useful 0 = .ok (.aload_n 0, 1) := by decide +kernel
theorem dX7_useful_1 : decode cX7_useful 1 = .ok (.getfield 10, 3) := by decide +kernel
theorem dX7_useful_4 : decode cX7_useful 4 = .ok (.getfield 96, 3) := by decide +kernel
theorem dX7_useful_7 : decode cX7_useful 7 = .ok (.getfield 208, 3) := by decide +kernel
theorem dX7_useful_10 : decode cX7_useful 10 = .ok (.ifCond .le 29, 3) := by decide +kernel
theorem dX7_useful_13 : decode cX7_useful 13 = .ok (.aload_n 0, 1) := by decide +kernel
theorem dX7_useful_14 : decode cX7_useful 14 = .ok (.getfield 10, 3) := by decide +kernel
theorem dX7_useful_17 : decode cX7_useful 17 = .ok (.getfield 96, 3) := by decide +kernel
theorem dX7_useful_20 : decode cX7_useful 20 = .ok (.getfield 211, 3) := by decide +kernel
theorem dX7_useful_23 : decode cX7_useful 23 = .ok (.i2d, 1) := by decide +kernel
theorem dX7_useful_24 : decode cX7_useful 24 = .ok (.aload_n 0, 1) := by decide +kernel
theorem dX7_useful_25 : decode cX7_useful 25 = .ok (.getfield 10, 3) := by decide +kernel
theorem dX7_useful_28 : decode cX7_useful 28 = .ok (.getfield 96, 3) := by decide +kernel
theorem dX7_useful_31 : decode cX7_useful 31 = .ok (.getfield 208, 3) := by decide +kernel
theorem dX7_useful_34 : decode cX7_useful 34 = .ok (.i2d, 1) := by decide +kernel
theorem dX7_useful_35 : decode cX7_useful 35 = .ok (.ddiv, 1) := by decide +kernel
theorem dX7_useful_36 : decode cX7_useful 36 = .ok (.goto 4, 3) := by decide +kernel
theorem dX7_useful_39 : decode cX7_useful 39 = .ok (.dconst 0, 1) := by decide +kernel
theorem dX7_useful_40 : decode cX7_useful 40 = .ok (.dreturn, 1) := by decide +kernel
theorem dX7_append_0 : decode cX7_append 0 = .ok (.iload_n 1, 1) := by decide +kernel
theorem dX7_append_1 : decode cX7_append 1 = .ok (.iconst 0, 1) := by decide +kernel
theorem dX7_append_2 : decode cX7_append 2 = .ok (.bipush 127, 2) := by decide +kernel
theorem dX7_append_4 : decode cX7_append 4 = .ok (.invokestatic 55, 3) := by decide +kernel
theorem dX7_append_7 : decode cX7_append 7 = .ok (.ifCond .ne 13, 3) := by decide +kernel
theorem dX7_append_10 : decode cX7_append 10 = .ok (.new 59, 3) := by decide +kernel
theorem dX7_append_13 : decode cX7_append 13 = .ok (.dup, 1) := by decide +kernel
theorem dX7_append_14 : decode cX7_append 14 = .ok (.ldc 214, 2) := by decide +kernel
theorem dX7_append_16 : decode cX7_append 16 = .ok (.invokespecial 63, 3) := by decide +kernel
theorem dX7_append_19 : decode cX7_append 19 = .ok (.athrow, 1) := by decide +kernel
theorem dX7_append_20 : decode cX7_append 20 = .ok (.aload_n 0, 1) := by decide +kernel
theorem dX7_append_21 : decode cX7_append 21 = .ok (.getfield 26, 3) := by decide +kernel
theorem dX7_append_24 : decode cX7_append 24 = .ok (.getfield 216, 3) := by decide +kernel
theorem dX7_append_27 : decode cX7_append 27 = .ok (.bipush 100, 2) := by decide +kernel
theorem dX7_append_29 : decode cX7_append 29 = .ok (.if_icmp .lt 13, 3) := by decide +kernel
theorem dX7_append_32 : decode cX7_append 32 = .ok (.new 125, 3) := by decide +kernel
theorem dX7_append_35 : decode cX7_append 35 = .ok (.dup, 1) := by decide +kernel
theorem dX7_append_36 : decode cX7_append 36 = .ok (.ldc 219, 2) := by decide +kernel
theorem dX7_append_38 : decode cX7_append 38 = .ok (.invokespecial 129, 3) := by decide +kernel
theorem dX7_append_41 : decode cX7_append 41 = .ok (.athrow, 1) := by decide +kernel
theorem dX7_append_42 : decode cX7_append 42 = .ok (.aload_n 0, 1) := by decide +kernel
theorem dX7_append_43 : decode cX7_append 43 = .ok (.getfield 26, 3) := by decide +kernel
theorem dX7_append_46 : decode cX7_append 46 = .ok (.iload_n 1, 1) := by decide +kernel
theorem dX7_append_47 : decode cX7_append 47 = .ok (.invokevirtual 221, 3) := by decide +kernel
theorem dX7_append_50 : decode cX7_append 50 = .ok (.aload_n 0, 1) := by decide +kernel
theorem dX7_append_51 : decode cX7_append 51 = .ok (.getfield 26, 3) := by decide +kernel
theorem dX7_append_54 : decode cX7_append 54 = .ok (.getfield 216, 3) := by decide +kernel
theorem dX7_append_57 : decode cX7_append 57 = .ok (.ireturn, 1) := by decide +kernel
theorem dX7_clearText_0 : decode cX7_clearText 0 = .ok (.aload_n 0, 1) := by decide +kernel
theorem dX7_clearText_1 : decode cX7_clearText 1 = .ok (.getfield 26, 3) := by decide +kernel
theorem dX7_clearText_4 : decode cX7_clearText 4 = .ok (.getfield 216, 3) := by decide +kernel
theorem dX7_clearText_7 : decode cX7_clearText 7 = .ok (.istore_n 1, 1) := by decide +kernel
theorem dX7_clearText_8 : decode cX7_clearText 8 = .ok (.aload_n 0, 1) := by decide +kernel
theorem dX7_clearText_9 : decode cX7_clearText 9 = .ok (.getfield 26, 3) := by decide +kernel
theorem dX7_clearText_12 : decode cX7_clearText 12 = .ok (.iconst 0, 1) := by decide +kernel
theorem dX7_clearText_13 : decode cX7_clearText 13 = .ok (.putfield 216, 3) := by decide +kernel
theorem dX7_clearText_16 : decode cX7_clearText 16 = .ok (.iload_n 1, 1) := by decide +kernel
theorem dX7_clearText_17 : decode cX7_clearText 17 = .ok (.ireturn, 1) := by decide +kernel
theorem dX7_parse_0 : decode cX7_parse 0 = .ok (.aload_n 0, 1) := by decide +kernel
theorem dX7_parse_1 : decode cX7_parse 1 = .ok (.getfield 26, 3) := by decide +kernel
theorem dX7_parse_4 : decode cX7_parse 4 = .ok (.aload_n 0, 1) := by decide +kernel
theorem dX7_parse_5 : decode cX7_parse 5 = .ok (.getfield 10, 3) := by decide +kernel
theorem dX7_parse_8 : decode cX7_parse 8 = .ok (.getfield 223, 3) := by decide +kernel
theorem dX7_parse_11 : decode cX7_parse 11 = .ok (.invokevirtual 226, 3) := by decide +kernel
theorem dX7_parse_14 : decode cX7_parse 14 = .ok (.aload_n 0, 1) := by decide +kernel
theorem dX7_parse_15 : decode cX7_parse 15 = .ok (.getfield 26, 3) := by decide +kernel
theorem dX7_parse_18 : decode cX7_parse 18 = .ok (.getfield 229, 3) := by decide +kernel
theorem dX7_parse_21 : decode cX7_parse 21 = .ok (.iconst (-1), 1) := by decide +kernel
theorem dX7_parse_22 : decode cX7_parse 22 = .ok (.if_icmp .eq 14, 3) := by decide +kernel
theorem dX7_parse_25 : decode cX7_parse 25 = .ok (.bipush (-10), 2) := by decide +kernel
theorem dX7_parse_27 : decode cX7_parse 27 = .ok (.aload_n 0, 1) := by decide +kernel
theorem dX7_parse_28 : decode cX7_parse 28 = .ok (.getfield 26, 3) := by decide +kernel
theorem dX7_parse_31 : decode cX7_parse 31 = .ok (.getfield 229, 3) := by decide +kernel
theorem dX7_parse_34 : decode cX7_parse 34 = .ok (.isub, 1) := by decide +kernel
theorem dX7_parse_35 : decode cX7_parse 35 = .ok (.ireturn, 1) := by decide +kernel
theorem dX7_parse_36 : decode cX7_parse 36 = .ok (.aload_n 0, 1) := by decide +kernel
theorem dX7_parse_37 : decode cX7_parse 37 = .ok (.getfield 19, 3) := by decide +kernel
theorem dX7_parse_40 : decode cX7_parse 40 = .ok (.aload_n 0, 1) := by decide +kernel
theorem dX7_parse_41 : decode cX7_parse 41 = .ok (.getfield 10, 3) := by decide +kernel
theorem dX7_parse_44 : decode cX7_parse 44 = .ok (.invokevirtual 43, 3) := by decide +kernel
theorem dX7_parse_47 : decode cX7_parse 47 = .ok (.aload_n 0, 1) := by decide +kernel
theorem dX7_parse_48 : decode cX7_parse 48 = .ok (.getfield 10, 3) := by decide +kernel
theorem dX7_parse_51 : decode cX7_parse 51 = .ok (.aload_n 0, 1) := by decide +kernel
theorem dX7_parse_52 : decode cX7_parse 52 = .ok (.getfield 26, 3) := by decide +kernel
theorem dX7_parse_55 : decode cX7_parse 55 = .ok (.invokevirtual 232, 3) := by decide +kernel
theorem dX7_parse_58 : decode cX7_parse 58 = .ok (.iconst 0, 1) := by decide +kernel
theorem dX7_parse_59 : decode cX7_parse 59 = .ok (.istore_n 1, 1) := by decide +kernel
theorem dX7_parse_60 : decode cX7_parse 60 = .ok (.iconst 0, 1) := by decide +kernel
theorem dX7_parse_61 : decode cX7_parse 61 = .ok (.istore_n 2, 1) := by decide +kernel
theorem dX7_parse_62 : decode cX7_parse 62 = .ok (.iload_n 2, 1) := by decide +kernel
theorem dX7_parse_63 : decode cX7_parse 63 = .ok (.iconst 5, 1) := by decide +kernel
theorem dX7_parse_64 : decode cX7_parse 64 = .ok (.if_icmp .ge 20, 3) := by decide +kernel
theorem dX7_parse_67 : decode cX7_parse 67 = .ok (.iload_n 1, 1) := by decide +kernel
theorem dX7_parse_68 : decode cX7_parse 68 = .ok (.aload_n 0, 1) := by decide +kernel
theorem dX7_parse_69 : decode cX7_parse 69 = .ok (.getfield 10, 3) := by decide +kernel
theorem dX7_parse_72 : decode cX7_parse 72 = .ok (.iload_n 2, 1) := by decide +kernel
theorem dX7_parse_73 : decode cX7_parse 73 = .ok (.invokevirtual 51, 3) := by decide +kernel
theorem dX7_parse_76 : decode cX7_parse 76 = .ok (.iadd, 1) := by decide +kernel
theorem dX7_parse_77 : decode cX7_parse 77 = .ok (.istore_n 1, 1) := by decide +kernel
theorem dX7_parse_78 : decode cX7_parse 78 = .ok (.iinc 2 1, 3) := by decide +kernel
theorem dX7_parse_81 : decode cX7_parse 81 = .ok (.goto (-19), 3) := by decide +kernel
theorem dX7_parse_84 : decode cX7_parse 84 = .ok (.iload_n 1, 1) := by decide +kernel
theorem dX7_parse_85 : decode cX7_parse 85 = .ok (.ireturn, 1) := by decide +kernel
theorem dX7_undo_0 : decode cX7_undo 0 = .ok (.aload_n 0, 1) := by decide +kernel
theorem dX7_undo_1 : decode cX7_undo 1 = .ok (.getfield 19, 3) := by decide +kernel
theorem dX7_undo_4 : decode cX7_undo 4 = .ok (.getfield 236, 3) := by decide +kernel
theorem dX7_undo_7 : decode cX7_undo 7 = .ok (.ifCond .ne 13, 3) := by decide +kernel
theorem dX7_undo_10 : decode cX7_undo 10 = .ok (.new 125, 3) := by decide +kernel
theorem dX7_undo_13 : decode cX7_undo 13 = .ok (.dup, 1) := by decide +kernel
theorem dX7_undo_14 : decode cX7_undo 14 = .ok (.ldc 237, 2) := by decide +kernel
theorem dX7_undo_16 : decode cX7_undo 16 = .ok (.invokespecial 129, 3) := by decide +kernel
theorem dX7_undo_19 : decode cX7_undo 19 = .ok (.athrow, 1) := by decide +kernel
theorem dX7_undo_20 : decode cX7_undo 20 = .ok (.aload_n 0, 1) := by decide +kernel
theorem dX7_undo_21 : decode cX7_undo 21 = .ok (.getfield 19, 3) := by decide +kernel
theorem dX7_undo_24 : decode cX7_undo 24 = .ok (.aload_n 0, 1) := by decide +kernel
theorem dX7_undo_25 : decode cX7_undo 25 = .ok (.getfield 10, 3) := by decide +kernel
theorem dX7_undo_28 : decode cX7_undo 28 = .ok (.invokevirtual 239, 3) := by decide +kernel
theorem dX7_undo_31 : decode cX7_undo 31 = .ok (.aload_n 0, 1) := by decide +kernel
theorem dX7_undo_32 : decode cX7_undo 32 = .ok (.getfield 19, 3) := by decide +kernel
theorem dX7_undo_35 : decode cX7_undo 35 = .ok (.getfield 236, 3) := by decide +kernel
theorem dX7_undo_38 : decode cX7_undo 38 = .ok (.ireturn, 1) := by decide +kernel
theorem dX7_digest_0 : decode cX7_digest 0 = .ok (.ldc2_w 242, 3) := by decide +kernel
theorem dX7_digest_3 : decode cX7_digest 3 = .ok (.aload_n 0, 1) := by decide +kernel
theorem dX7_digest_4 : decode cX7_digest 4 = .ok (.getfield 26, 3) := by decide +kernel
theorem dX7_digest_7 : decode cX7_digest 7 = .ok (.getfield 216, 3) := by decide +kernel
theorem dX7_digest_10 : decode cX7_digest 10 = .ok (.invokestatic 244, 3) := by decide +kernel
theorem dX7_digest_13 : decode cX7_digest 13 = .ok (.lstore_n 1, 1) := by decide +kernel
theorem dX7_digest_14 : decode cX7_digest 14 = .ok (.iconst 0, 1) := by decide +kernel
theorem dX7_digest_15 : decode cX7_digest 15 = .ok (.istore_n 3, 1) := by decide +kernel
theorem dX7_digest_16 : decode cX7_digest 16 = .ok (.iload_n 3, 1) := by decide +kernel
theorem dX7_digest_17 : decode cX7_digest 17 = .ok (.bipush 16, 2) := by decide +kernel
theorem dX7_digest_19 : decode cX7_digest 19 = .ok (.if_icmp .ge 22, 3) := by decide +kernel
theorem dX7_digest_22 : decode cX7_digest 22 = .ok (.lload_n 1, 1) := by decide +kernel
theorem dX7_digest_23 : decode cX7_digest 23 = .ok (.aload_n 0, 1) := by decide +kernel
theorem dX7_digest_24 : decode cX7_digest 24 = .ok (.getfield 10, 3) := by decide +kernel
theorem dX7_digest_27 : decode cX7_digest 27 = .ok (.iload_n 3, 1) := by decide +kernel
theorem dX7_digest_28 : decode cX7_digest 28 = .ok (.invokevirtual 176, 3) := by decide +kernel
theorem dX7_digest_31 : decode cX7_digest 31 = .ok (.invokestatic 244, 3) := by decide +kernel
theorem dX7_digest_34 : decode cX7_digest 34 = .ok (.lstore_n 1, 1) := by decide +kernel
theorem dX7_digest_35 : decode cX7_digest 35 = .ok (.iinc 3 1, 3) := by decide +kernel
theorem dX7_digest_38 : decode cX7_digest 38 = .ok (.goto (-22), 3) := by decide +kernel
theorem dX7_digest_41 : decode cX7_digest 41 = .ok (.aload_n 0, 1) := by decide +kernel
theorem dX7_digest_42 : decode cX7_digest 42 = .ok (.lload_n 1, 1) := by decide +kernel
theorem dX7_digest_43 : decode cX7_digest 43 = .ok (.invokevirtual 248, 3) := by decide +kernel
theorem dX7_digest_46 : decode cX7_digest 46 = .ok (.lstore_n 1, 1) := by decide +kernel
theorem dX7_digest_47 : decode cX7_digest 47 = .ok (.aload_n 0, 1) := by decide +kernel
theorem dX7_digest_48 : decode cX7_digest 48 = .ok (.lload_n 1, 1) := by decide +kernel
theorem dX7_digest_49 : decode cX7_digest 49 = .ok (.invokevirtual 252, 3) := by decide +kernel
theorem dX7_digest_52 : decode cX7_digest 52 = .ok (.lstore_n 1, 1) := by decide +kernel
theorem dX7_digest_53 : decode cX7_digest 53 = .ok (.aload_n 0, 1) := by decide +kernel
theorem dX7_digest_54 : decode cX7_digest 54 = .ok (.lload_n 1, 1) := by decide +kernel
theorem dX7_digest_55 : decode cX7_digest 55 = .ok (.invokevirtual 255, 3) := by decide +kernel
theorem dX7_digest_58 : decode cX7_digest 58 = .ok (.lstore_n 1, 1) := by decide +kernel
theorem dX7_digest_59 : decode cX7_digest 59 = .ok (.lload_n 1, 1) := by decide +kernel
theorem dX7_digest_60 : decode cX7_digest 60 = .ok (.aload_n 0, 1) := by decide +kernel
theorem dX7_digest_61 : decode cX7_digest 61 = .ok (.invokevirtual 258, 3) := by decide +kernel
theorem dX7_digest_64 : decode cX7_digest 64 = .ok (.invokestatic 244, 3) := by decide +kernel
theorem dX7_digest_67 : decode cX7_digest 67 = .ok (.lstore_n 1, 1) := by decide +kernel
theorem dX7_digest_68 : decode cX7_digest 68 = .ok (.lload_n 1, 1) := by decide +kernel
theorem dX7_digest_69 : decode cX7_digest 69 = .ok (.aload_n 0, 1) := by decide +kernel
theorem dX7_digest_70 : decode cX7_digest 70 = .ok (.getfield 19, 3) := by decide +kernel
theorem dX7_digest_73 : decode cX7_digest 73 = .ok (.getfield 236, 3) := by decide +kernel
theorem dX7_digest_76 : decode cX7_digest 76 = .ok (.invokestatic 244, 3) := by decide +kernel
theorem dX7_digest_79 : decode cX7_digest 79 = .ok (.lreturn, 1) := by decide +kernel
theorem dX7_within_0 : decode cX7_within 0 = .ok (.iload_n 0, 1) := by decide +kernel
theorem dX7_within_1 : decode cX7_within 1 = .ok (.iload_n 1, 1) := by decide +kernel
theorem dX7_within_2 : decode cX7_within 2 = .ok (.if_icmp .lt 12, 3) := by decide +kernel
theorem dX7_within_5 : decode cX7_within 5 = .ok (.iload_n 0, 1) := by decide +kernel
theorem dX7_within_6 : decode cX7_within 6 = .ok (.iload_n 2, 1) := by decide +kernel
theorem dX7_within_7 : decode cX7_within 7 = .ok (.if_icmp .gt 7, 3) := by decide +kernel
theorem dX7_within_10 : decode cX7_within 10 = .ok (.iconst 1, 1) := by decide +kernel
theorem dX7_within_11 : decode cX7_within 11 = .ok (.goto 4, 3) := by decide +kernel
theorem dX7_within_14 : decode cX7_within 14 = .ok (.iconst 0, 1) := by decide +kernel
theorem dX7_within_15 : decode cX7_within 15 = .ok (.ireturn, 1) := by decide +kernel
theorem dX7_requireCylinder_0 : decode cX7_requireCylinder 0 = .ok (.iload_n 0, 1) := by decide +kernel
theorem dX7_requireCylinder_1 : decode cX7_requireCylinder 1 = .ok (.iconst 0, 1) := by decide +kernel
theorem dX7_requireCylinder_2 : decode cX7_requireCylinder 2 = .ok (.iconst 4, 1) := by decide +kernel
theorem dX7_requireCylinder_3 : decode cX7_requireCylinder 3 = .ok (.invokestatic 55, 3) := by decide +kernel
theorem dX7_requireCylinder_6 : decode cX7_requireCylinder 6 = .ok (.ifCond .ne 14, 3) := by decide +kernel
theorem dX7_requireCylinder_9 : decode cX7_requireCylinder 9 = .ok (.new 261, 3) := by decide +kernel
theorem dX7_requireCylinder_12 : decode cX7_requireCylinder 12 = .ok (.dup, 1) := by decide +kernel
theorem dX7_requireCylinder_13 : decode cX7_requireCylinder 13 = .ok (.ldc_w 263, 3) := by decide +kernel
theorem dX7_requireCylinder_16 : decode cX7_requireCylinder 16 = .ok (.invokespecial 265, 3) := by decide +kernel
theorem dX7_requireCylinder_19 : decode cX7_requireCylinder 19 = .ok (.athrow, 1) := by decide +kernel
theorem dX7_requireCylinder_20 : decode cX7_requireCylinder 20 = .ok (.return_, 1) := by decide +kernel
theorem dX7_requireStep_0 : decode cX7_requireStep 0 = .ok (.iload_n 1, 1) := by decide +kernel
theorem dX7_requireStep_1 : decode cX7_requireStep 1 = .ok (.iconst 0, 1) := by decide +kernel
theorem dX7_requireStep_2 : decode cX7_requireStep 2 = .ok (.aload_n 0, 1) := by decide +kernel
theorem dX7_requireStep_3 : decode cX7_requireStep 3 = .ok (.getfield 10, 3) := by decide +kernel
theorem dX7_requireStep_6 : decode cX7_requireStep 6 = .ok (.getfield 223, 3) := by decide +kernel
theorem dX7_requireStep_9 : decode cX7_requireStep 9 = .ok (.iconst 1, 1) := by decide +kernel
theorem dX7_requireStep_10 : decode cX7_requireStep 10 = .ok (.isub, 1) := by decide +kernel
theorem dX7_requireStep_11 : decode cX7_requireStep 11 = .ok (.invokestatic 55, 3) := by decide +kernel
theorem dX7_requireStep_14 : decode cX7_requireStep 14 = .ok (.ifCond .ne 14, 3) := by decide +kernel
theorem dX7_requireStep_17 : decode cX7_requireStep 17 = .ok (.new 261, 3) := by decide +kernel
theorem dX7_requireStep_20 : decode cX7_requireStep 20 = .ok (.dup, 1) := by decide +kernel
theorem dX7_requireStep_21 : decode cX7_requireStep 21 = .ok (.ldc_w 266, 3) := by decide +kernel
theorem dX7_requireStep_24 : decode cX7_requireStep 24 = .ok (.invokespecial 265, 3) := by decide +kernel
theorem dX7_requireStep_27 : decode cX7_requireStep 27 = .ok (.athrow, 1) := by decide +kernel
theorem dX7_requireStep_28 : decode cX7_requireStep 28 = .ok (.return_, 1) := by decide +kernel
theorem dX7_requireGuard_0 : decode cX7_requireGuard 0 = .ok (.iload_n 1, 1) := by decide +kernel
theorem dX7_requireGuard_1 : decode cX7_requireGuard 1 = .ok (.iconst 0, 1) := by decide +kernel
theorem dX7_requireGuard_2 : decode cX7_requireGuard 2 = .ok (.aload_n 0, 1) := by decide +kernel
theorem dX7_requireGuard_3 : decode cX7_requireGuard 3 = .ok (.getfield 10, 3) := by decide +kernel
theorem dX7_requireGuard_6 : decode cX7_requireGuard 6 = .ok (.getfield 116, 3) := by decide +kernel
theorem dX7_requireGuard_9 : decode cX7_requireGuard 9 = .ok (.getfield 120, 3) := by decide +kernel
theorem dX7_requireGuard_12 : decode cX7_requireGuard 12 = .ok (.iconst 4, 1) := by decide +kernel
theorem dX7_requireGuard_13 : decode cX7_requireGuard 13 = .ok (.invokestatic 268, 3) := by decide +kernel
theorem dX7_requireGuard_16 : decode cX7_requireGuard 16 = .ok (.iconst 1, 1) := by decide +kernel
theorem dX7_requireGuard_17 : decode cX7_requireGuard 17 = .ok (.isub, 1) := by decide +kernel
theorem dX7_requireGuard_18 : decode cX7_requireGuard 18 = .ok (.invokestatic 55, 3) := by decide +kernel
theorem dX7_requireGuard_21 : decode cX7_requireGuard 21 = .ok (.ifCond .ne 14, 3) := by decide +kernel
theorem dX7_requireGuard_24 : decode cX7_requireGuard 24 = .ok (.new 261, 3) := by decide +kernel
theorem dX7_requireGuard_27 : decode cX7_requireGuard 27 = .ok (.dup, 1) := by decide +kernel
theorem dX7_requireGuard_28 : decode cX7_requireGuard 28 = .ok (.ldc_w 273, 3) := by decide +kernel
theorem dX7_requireGuard_31 : decode cX7_requireGuard 31 = .ok (.invokespecial 265, 3) := by decide +kernel
theorem dX7_requireGuard_34 : decode cX7_requireGuard 34 = .ok (.athrow, 1) := by decide +kernel
theorem dX7_requireGuard_35 : decode cX7_requireGuard 35 = .ok (.return_, 1) := by decide +kernel
theorem dX7_requireWhat_0 : decode cX7_requireWhat 0 = .ok (.iload_n 0, 1) := by decide +kernel
theorem dX7_requireWhat_1 : decode cX7_requireWhat 1 = .ok (.iconst 0, 1) := by decide +kernel
theorem dX7_requireWhat_2 : decode cX7_requireWhat 2 = .ok (.iload_n 1, 1) := by decide +kernel
theorem dX7_requireWhat_3 : decode cX7_requireWhat 3 = .ok (.iconst 1, 1) := by decide +kernel
theorem dX7_requireWhat_4 : decode cX7_requireWhat 4 = .ok (.isub, 1) := by decide +kernel
theorem dX7_requireWhat_5 : decode cX7_requireWhat 5 = .ok (.invokestatic 55, 3) := by decide +kernel
theorem dX7_requireWhat_8 : decode cX7_requireWhat 8 = .ok (.ifCond .ne 14, 3) := by decide +kernel
theorem dX7_requireWhat_11 : decode cX7_requireWhat 11 = .ok (.new 59, 3) := by decide +kernel
theorem dX7_requireWhat_14 : decode cX7_requireWhat 14 = .ok (.dup, 1) := by decide +kernel
theorem dX7_requireWhat_15 : decode cX7_requireWhat 15 = .ok (.ldc_w 275, 3) := by decide +kernel
theorem dX7_requireWhat_18 : decode cX7_requireWhat 18 = .ok (.invokespecial 63, 3) := by decide +kernel
theorem dX7_requireWhat_21 : decode cX7_requireWhat 21 = .ok (.athrow, 1) := by decide +kernel
theorem dX7_requireWhat_22 : decode cX7_requireWhat 22 = .ok (.return_, 1) := by decide +kernel
theorem dX7_goesWithoutSkip_0 : decode cX7_goesWithoutSkip 0 = .ok (.aload_n 0, 1) := by decide +kernel
theorem dX7_goesWithoutSkip_1 : decode cX7_goesWithoutSkip 1 = .ok (.getfield 30, 3) := by decide +kernel
theorem dX7_goesWithoutSkip_4 : decode cX7_goesWithoutSkip 4 = .ok (.aload_n 0, 1) := by decide +kernel
theorem dX7_goesWithoutSkip_5 : decode cX7_goesWithoutSkip 5 = .ok (.getfield 10, 3) := by decide +kernel
theorem dX7_goesWithoutSkip_8 : decode cX7_goesWithoutSkip 8 = .ok (.invokevirtual 191, 3) := by decide +kernel
theorem dX7_goesWithoutSkip_11 : decode cX7_goesWithoutSkip 11 = .ok (.aload_n 0, 1) := by decide +kernel
theorem dX7_goesWithoutSkip_12 : decode cX7_goesWithoutSkip 12 = .ok (.getfield 30, 3) := by decide +kernel
theorem dX7_goesWithoutSkip_15 : decode cX7_goesWithoutSkip 15 = .ok (.getfield 96, 3) := by decide +kernel
theorem dX7_goesWithoutSkip_18 : decode cX7_goesWithoutSkip 18 = .ok (.iload_n 1, 1) := by decide +kernel
theorem dX7_goesWithoutSkip_19 : decode cX7_goesWithoutSkip 19 = .ok (.putfield 105, 3) := by decide +kernel
theorem dX7_goesWithoutSkip_22 : decode cX7_goesWithoutSkip 22 = .ok (.iconst 0, 1) := by decide +kernel
theorem dX7_goesWithoutSkip_23 : decode cX7_goesWithoutSkip 23 = .ok (.istore_n 3, 1) := by decide +kernel
theorem dX7_goesWithoutSkip_24 : decode cX7_goesWithoutSkip 24 = .ok (.iload_n 3, 1) := by decide +kernel
theorem dX7_goesWithoutSkip_25 : decode cX7_goesWithoutSkip 25 = .ok (.iload_n 2, 1) := by decide +kernel
theorem dX7_goesWithoutSkip_26 : decode cX7_goesWithoutSkip 26 = .ok (.if_icmp .ge 22, 3) := by decide +kernel
theorem dX7_goesWithoutSkip_29 : decode cX7_goesWithoutSkip 29 = .ok (.aload_n 0, 1) := by decide +kernel
theorem dX7_goesWithoutSkip_30 : decode cX7_goesWithoutSkip 30 = .ok (.getfield 30, 3) := by decide +kernel
theorem dX7_goesWithoutSkip_33 : decode cX7_goesWithoutSkip 33 = .ok (.invokevirtual 157, 3) := by decide +kernel
theorem dX7_goesWithoutSkip_36 : decode cX7_goesWithoutSkip 36 = .ok (.iconst 1, 1) := by decide +kernel
theorem dX7_goesWithoutSkip_37 : decode cX7_goesWithoutSkip 37 = .ok (.if_icmp .ne 5, 3) := by decide +kernel
theorem dX7_goesWithoutSkip_40 : decode cX7_goesWithoutSkip 40 = .ok (.iconst 0, 1) := by decide +kernel
theorem dX7_goesWithoutSkip_41 : decode cX7_goesWithoutSkip 41 = .ok (.ireturn, 1) := by decide +kernel
theorem dX7_goesWithoutSkip_42 : decode cX7_goesWithoutSkip 42 = .ok (.iinc 3 1, 3) := by decide +kernel
theorem dX7_goesWithoutSkip_45 : decode cX7_goesWithoutSkip 45 = .ok (.goto (-21), 3) := by decide +kernel
theorem dX7_goesWithoutSkip_48 : decode cX7_goesWithoutSkip 48 = .ok (.iconst 1, 1) := by decide +kernel
theorem dX7_goesWithoutSkip_49 : decode cX7_goesWithoutSkip 49 = .ok (.ireturn, 1) := by decide +kernel
theorem dX7_dwellSuffices_0 : decode cX7_dwellSuffices 0 = .ok (.aload_n 0, 1) := by decide +kernel
theorem dX7_dwellSuffices_1 : decode cX7_dwellSuffices 1 = .ok (.getfield 30, 3) := by decide +kernel
theorem dX7_dwellSuffices_4 : decode cX7_dwellSuffices 4 = .ok (.aload_n 0, 1) := by decide +kernel
theorem dX7_dwellSuffices_5 : decode cX7_dwellSuffices 5 = .ok (.getfield 10, 3) := by decide +kernel
theorem dX7_dwellSuffices_8 : decode cX7_dwellSuffices 8 = .ok (.invokevirtual 191, 3) := by decide +kernel
theorem dX7_dwellSuffices_11 : decode cX7_dwellSuffices 11 = .ok (.aload_n 0, 1) := by decide +kernel
theorem dX7_dwellSuffices_12 : decode cX7_dwellSuffices 12 = .ok (.getfield 30, 3) := by decide +kernel
theorem dX7_dwellSuffices_15 : decode cX7_dwellSuffices 15 = .ok (.iconst 0, 1) := by decide +kernel
theorem dX7_dwellSuffices_16 : decode cX7_dwellSuffices 16 = .ok (.invokevirtual 143, 3) := by decide +kernel
theorem dX7_dwellSuffices_19 : decode cX7_dwellSuffices 19 = .ok (.aload_n 0, 1) := by decide +kernel
theorem dX7_dwellSuffices_20 : decode cX7_dwellSuffices 20 = .ok (.getfield 30, 3) := by decide +kernel
theorem dX7_dwellSuffices_23 : decode cX7_dwellSuffices 23 = .ok (.iload_n 1, 1) := by decide +kernel
theorem dX7_dwellSuffices_24 : decode cX7_dwellSuffices 24 = .ok (.putfield 66, 3) := by decide +kernel
theorem dX7_dwellSuffices_27 : decode cX7_dwellSuffices 27 = .ok (.aload_n 0, 1) := by decide +kernel
theorem dX7_dwellSuffices_28 : decode cX7_dwellSuffices 28 = .ok (.getfield 30, 3) := by decide +kernel
theorem dX7_dwellSuffices_31 : decode cX7_dwellSuffices 31 = .ok (.getfield 75, 3) := by decide +kernel
theorem dX7_dwellSuffices_34 : decode cX7_dwellSuffices 34 = .ok (.getfield 91, 3) := by decide +kernel
theorem dX7_dwellSuffices_37 : decode cX7_dwellSuffices 37 = .ok (.iconst 0, 1) := by decide +kernel
theorem dX7_dwellSuffices_38 : decode cX7_dwellSuffices 38 = .ok (.invokestatic 277, 3) := by decide +kernel
theorem dX7_dwellSuffices_41 : decode cX7_dwellSuffices 41 = .ok (.iconst 0, 1) := by decide +kernel
theorem dX7_dwellSuffices_42 : decode cX7_dwellSuffices 42 = .ok (.istore_n 2, 1) := by decide +kernel
theorem dX7_dwellSuffices_43 : decode cX7_dwellSuffices 43 = .ok (.iload_n 2, 1) := by decide +kernel
theorem dX7_dwellSuffices_44 : decode cX7_dwellSuffices 44 = .ok (.sipush 1000, 3) := by decide +kernel
theorem dX7_dwellSuffices_47 : decode cX7_dwellSuffices 47 = .ok (.if_icmp .ge 46, 3) := by decide +kernel
theorem dX7_dwellSuffices_50 : decode cX7_dwellSuffices 50 = .ok (.aload_n 0, 1) := by decide +kernel
theorem dX7_dwellSuffices_51 : decode cX7_dwellSuffices 51 = .ok (.getfield 30, 3) := by decide +kernel
theorem dX7_dwellSuffices_54 : decode cX7_dwellSuffices 54 = .ok (.invokevirtual 283, 3) := by decide +kernel
theorem dX7_dwellSuffices_57 : decode cX7_dwellSuffices 57 = .ok (.istore_n 3, 1) := by decide +kernel
theorem dX7_dwellSuffices_58 : decode cX7_dwellSuffices 58 = .ok (.aload_n 0, 1) := by decide +kernel
theorem dX7_dwellSuffices_59 : decode cX7_dwellSuffices 59 = .ok (.getfield 30, 3) := by decide +kernel
theorem dX7_dwellSuffices_62 : decode cX7_dwellSuffices 62 = .ok (.invokevirtual 157, 3) := by decide +kernel
theorem dX7_dwellSuffices_65 : decode cX7_dwellSuffices 65 = .ok (.istore 4, 2) := by decide +kernel
theorem dX7_dwellSuffices_67 : decode cX7_dwellSuffices 67 = .ok (.iload 4, 2) := by decide +kernel
theorem dX7_dwellSuffices_69 : decode cX7_dwellSuffices 69 = .ok (.iconst 2, 1) := by decide +kernel
theorem dX7_dwellSuffices_70 : decode cX7_dwellSuffices 70 = .ok (.if_icmp .lt 9, 3) := by decide +kernel
theorem dX7_dwellSuffices_73 : decode cX7_dwellSuffices 73 = .ok (.iload_n 3, 1) := by decide +kernel
theorem dX7_dwellSuffices_74 : decode cX7_dwellSuffices 74 = .ok (.ifCond .ne 5, 3) := by decide +kernel
theorem dX7_dwellSuffices_77 : decode cX7_dwellSuffices 77 = .ok (.iconst 0, 1) := by decide +kernel
theorem dX7_dwellSuffices_78 : decode cX7_dwellSuffices 78 = .ok (.ireturn, 1) := by decide +kernel
theorem dX7_dwellSuffices_79 : decode cX7_dwellSuffices 79 = .ok (.iload 4, 2) := by decide +kernel
theorem dX7_dwellSuffices_81 : decode cX7_dwellSuffices 81 = .ok (.iconst 3, 1) := by decide +kernel
theorem dX7_dwellSuffices_82 : decode cX7_dwellSuffices 82 = .ok (.if_icmp .ne 5, 3) := by decide +kernel
theorem dX7_dwellSuffices_85 : decode cX7_dwellSuffices 85 = .ok (.iconst 1, 1) := by decide +kernel
theorem dX7_dwellSuffices_86 : decode cX7_dwellSuffices 86 = .ok (.ireturn, 1) := by decide +kernel
theorem dX7_dwellSuffices_87 : decode cX7_dwellSuffices 87 = .ok (.iinc 2 1, 3) := by decide +kernel
theorem dX7_dwellSuffices_90 : decode cX7_dwellSuffices 90 = .ok (.goto (-47), 3) := by decide +kernel
theorem dX7_dwellSuffices_93 : decode cX7_dwellSuffices 93 = .ok (.iconst 0, 1) := by decide +kernel
theorem dX7_dwellSuffices_94 : decode cX7_dwellSuffices 94 = .ok (.ireturn, 1) := by decide +kernel
theorem dX7_hashWith_0 : decode cX7_hashWith 0 = .ok (.ldc2_w 287, 3) := by decide +kernel
theorem dX7_hashWith_3 : decode cX7_hashWith 3 = .ok (.lload_n 0, 1) := by decide +kernel
theorem dX7_hashWith_4 : decode cX7_hashWith 4 = .ok (.lmul, 1) := by decide +kernel
theorem dX7_hashWith_5 : decode cX7_hashWith 5 = .ok (.iload_n 2, 1) := by decide +kernel
theorem dX7_hashWith_6 : decode cX7_hashWith 6 = .ok (.i2l, 1) := by decide +kernel
theorem dX7_hashWith_7 : decode cX7_hashWith 7 = .ok (.ladd, 1) := by decide +kernel
theorem dX7_hashWith_8 : decode cX7_hashWith 8 = .ok (.lreturn, 1) := by decide +kernel
theorem dX7_hashWithCylinders_0 : decode cX7_hashWithCylinders 0 = .ok (.iconst 0, 1) := by decide +kernel
theorem dX7_hashWithCylinders_1 : decode cX7_hashWithCylinders 1 = .ok (.istore_n 3, 1) := by decide +kernel
theorem dX7_hashWithCylinders_2 : decode cX7_hashWithCylinders 2 = .ok (.iload_n 3, 1) := by decide +kernel
theorem dX7_hashWithCylinders_3 : decode cX7_hashWithCylinders 3 = .ok (.iconst 5, 1) := by decide +kernel
theorem dX7_hashWithCylinders_4 : decode cX7_hashWithCylinders 4 = .ok (.if_icmp .ge 40, 3) := by decide +kernel
theorem dX7_hashWithCylinders_7 : decode cX7_hashWithCylinders 7 = .ok (.iconst 0, 1) := by decide +kernel
theorem dX7_hashWithCylinders_8 : decode cX7_hashWithCylinders 8 = .ok (.istore 4, 2) := by decide +kernel
theorem dX7_hashWithCylinders_10 : decode cX7_hashWithCylinders 10 = .ok (.iload 4, 2) := by decide +kernel
theorem dX7_hashWithCylinders_12 : decode cX7_hashWithCylinders 12 = .ok (.bipush 8, 2) := by decide +kernel
theorem dX7_hashWithCylinders_14 : decode cX7_hashWithCylinders 14 = .ok (.if_icmp .ge 24, 3) := by decide +kernel
theorem dX7_hashWithCylinders_17 : decode cX7_hashWithCylinders 17 = .ok (.lload_n 1, 1) := by decide +kernel
theorem dX7_hashWithCylinders_18 : decode cX7_hashWithCylinders 18 = .ok (.aload_n 0, 1) := by decide +kernel
theorem dX7_hashWithCylinders_19 : decode cX7_hashWithCylinders 19 = .ok (.getfield 10, 3) := by decide +kernel
theorem dX7_hashWithCylinders_22 : decode cX7_hashWithCylinders 22 = .ok (.iload_n 3, 1) := by decide +kernel
theorem dX7_hashWithCylinders_23 : decode cX7_hashWithCylinders 23 = .ok (.iload 4, 2) := by decide +kernel
theorem dX7_hashWithCylinders_25 : decode cX7_hashWithCylinders 25 = .ok (.invokevirtual 169, 3) := by decide +kernel
theorem dX7_hashWithCylinders_28 : decode cX7_hashWithCylinders 28 = .ok (.invokestatic 244, 3) := by decide +kernel
theorem dX7_hashWithCylinders_31 : decode cX7_hashWithCylinders 31 = .ok (.lstore_n 1, 1) := by decide +kernel
theorem dX7_hashWithCylinders_32 : decode cX7_hashWithCylinders 32 = .ok (.iinc 4 1, 3) := by decide +kernel
theorem dX7_hashWithCylinders_35 : decode cX7_hashWithCylinders 35 = .ok (.goto (-25), 3) := by decide +kernel
theorem dX7_hashWithCylinders_38 : decode cX7_hashWithCylinders 38 = .ok (.iinc 3 1, 3) := by decide +kernel
theorem dX7_hashWithCylinders_41 : decode cX7_hashWithCylinders 41 = .ok (.goto (-39), 3) := by decide +kernel
theorem dX7_hashWithCylinders_44 : decode cX7_hashWithCylinders 44 = .ok (.lload_n 1, 1) := by decide +kernel
theorem dX7_hashWithCylinders_45 : decode cX7_hashWithCylinders 45 = .ok (.lreturn, 1) := by decide +kernel
theorem dX7_hashWithGuards_0 : decode cX7_hashWithGuards 0 = .ok (.iconst 0, 1) := by decide +kernel
theorem dX7_hashWithGuards_1 : decode cX7_hashWithGuards 1 = .ok (.istore_n 3, 1) := by decide +kernel
theorem dX7_hashWithGuards_2 : decode cX7_hashWithGuards 2 = .ok (.iload_n 3, 1) := by decide +kernel
theorem dX7_hashWithGuards_3 : decode cX7_hashWithGuards 3 = .ok (.aload_n 0, 1) := by decide +kernel
theorem dX7_hashWithGuards_4 : decode cX7_hashWithGuards 4 = .ok (.getfield 10, 3) := by decide +kernel
theorem dX7_hashWithGuards_7 : decode cX7_hashWithGuards 7 = .ok (.getfield 116, 3) := by decide +kernel
theorem dX7_hashWithGuards_10 : decode cX7_hashWithGuards 10 = .ok (.getfield 120, 3) := by decide +kernel
theorem dX7_hashWithGuards_13 : decode cX7_hashWithGuards 13 = .ok (.if_icmp .ge 44, 3) := by decide +kernel
theorem dX7_hashWithGuards_16 : decode cX7_hashWithGuards 16 = .ok (.iload_n 3, 1) := by decide +kernel
theorem dX7_hashWithGuards_17 : decode cX7_hashWithGuards 17 = .ok (.iconst 4, 1) := by decide +kernel
theorem dX7_hashWithGuards_18 : decode cX7_hashWithGuards 18 = .ok (.if_icmp .ge 39, 3) := by decide +kernel
theorem dX7_hashWithGuards_21 : decode cX7_hashWithGuards 21 = .ok (.iconst 0, 1) := by decide +kernel
theorem dX7_hashWithGuards_22 : decode cX7_hashWithGuards 22 = .ok (.istore 4, 2) := by decide +kernel
theorem dX7_hashWithGuards_24 : decode cX7_hashWithGuards 24 = .ok (.iload 4, 2) := by decide +kernel
theorem dX7_hashWithGuards_26 : decode cX7_hashWithGuards 26 = .ok (.iconst 4, 1) := by decide +kernel
theorem dX7_hashWithGuards_27 : decode cX7_hashWithGuards 27 = .ok (.if_icmp .ge 24, 3) := by decide +kernel
theorem dX7_hashWithGuards_30 : decode cX7_hashWithGuards 30 = .ok (.lload_n 1, 1) := by decide +kernel
theorem dX7_hashWithGuards_31 : decode cX7_hashWithGuards 31 = .ok (.aload_n 0, 1) := by decide +kernel
theorem dX7_hashWithGuards_32 : decode cX7_hashWithGuards 32 = .ok (.getfield 10, 3) := by decide +kernel
theorem dX7_hashWithGuards_35 : decode cX7_hashWithGuards 35 = .ok (.iload_n 3, 1) := by decide +kernel
theorem dX7_hashWithGuards_36 : decode cX7_hashWithGuards 36 = .ok (.iload 4, 2) := by decide +kernel
theorem dX7_hashWithGuards_38 : decode cX7_hashWithGuards 38 = .ok (.invokevirtual 173, 3) := by decide +kernel
theorem dX7_hashWithGuards_41 : decode cX7_hashWithGuards 41 = .ok (.invokestatic 244, 3) := by decide +kernel
theorem dX7_hashWithGuards_44 : decode cX7_hashWithGuards 44 = .ok (.lstore_n 1, 1) := by decide +kernel
theorem dX7_hashWithGuards_45 : decode cX7_hashWithGuards 45 = .ok (.iinc 4 1, 3) := by decide +kernel
theorem dX7_hashWithGuards_48 : decode cX7_hashWithGuards 48 = .ok (.goto (-24), 3) := by decide +kernel
theorem dX7_hashWithGuards_51 : decode cX7_hashWithGuards 51 = .ok (.iinc 3 1, 3) := by decide +kernel
theorem dX7_hashWithGuards_54 : decode cX7_hashWithGuards 54 = .ok (.goto (-52), 3) := by decide +kernel
theorem dX7_hashWithGuards_57 : decode cX7_hashWithGuards 57 = .ok (.lload_n 1, 1) := by decide +kernel
theorem dX7_hashWithGuards_58 : decode cX7_hashWithGuards 58 = .ok (.lreturn, 1) := by decide +kernel
theorem dX7_hashWithSteps_0 : decode cX7_hashWithSteps 0 = .ok (.iconst 0, 1) := by decide +kernel
theorem dX7_hashWithSteps_1 : decode cX7_hashWithSteps 1 = .ok (.istore_n 3, 1) := by decide +kernel
theorem dX7_hashWithSteps_2 : decode cX7_hashWithSteps 2 = .ok (.iload_n 3, 1) := by decide +kernel
theorem dX7_hashWithSteps_3 : decode cX7_hashWithSteps 3 = .ok (.aload_n 0, 1) := by decide +kernel
theorem dX7_hashWithSteps_4 : decode cX7_hashWithSteps 4 = .ok (.getfield 10, 3) := by decide +kernel
theorem dX7_hashWithSteps_7 : decode cX7_hashWithSteps 7 = .ok (.getfield 223, 3) := by decide +kernel
theorem dX7_hashWithSteps_10 : decode cX7_hashWithSteps 10 = .ok (.if_icmp .ge 81, 3) := by decide +kernel
theorem dX7_hashWithSteps_13 : decode cX7_hashWithSteps 13 = .ok (.lload_n 1, 1) := by decide +kernel
theorem dX7_hashWithSteps_14 : decode cX7_hashWithSteps 14 = .ok (.aload_n 0, 1) := by decide +kernel
theorem dX7_hashWithSteps_15 : decode cX7_hashWithSteps 15 = .ok (.getfield 10, 3) := by decide +kernel
theorem dX7_hashWithSteps_18 : decode cX7_hashWithSteps 18 = .ok (.getfield 179, 3) := by decide +kernel
theorem dX7_hashWithSteps_21 : decode cX7_hashWithSteps 21 = .ok (.iload_n 3, 1) := by decide +kernel
theorem dX7_hashWithSteps_22 : decode cX7_hashWithSteps 22 = .ok (.invokevirtual 188, 3) := by decide +kernel
theorem dX7_hashWithSteps_25 : decode cX7_hashWithSteps 25 = .ok (.invokestatic 244, 3) := by decide +kernel
theorem dX7_hashWithSteps_28 : decode cX7_hashWithSteps 28 = .ok (.lstore_n 1, 1) := by decide +kernel
theorem dX7_hashWithSteps_29 : decode cX7_hashWithSteps 29 = .ok (.iconst 0, 1) := by decide +kernel
theorem dX7_hashWithSteps_30 : decode cX7_hashWithSteps 30 = .ok (.istore 4, 2) := by decide +kernel
theorem dX7_hashWithSteps_32 : decode cX7_hashWithSteps 32 = .ok (.iload 4, 2) := by decide +kernel
theorem dX7_hashWithSteps_34 : decode cX7_hashWithSteps 34 = .ok (.iconst 5, 1) := by decide +kernel
theorem dX7_hashWithSteps_35 : decode cX7_hashWithSteps 35 = .ok (.if_icmp .ge 50, 3) := by decide +kernel
theorem dX7_hashWithSteps_38 : decode cX7_hashWithSteps 38 = .ok (.lload_n 1, 1) := by decide +kernel
theorem dX7_hashWithSteps_39 : decode cX7_hashWithSteps 39 = .ok (.aload_n 0, 1) := by decide +kernel
theorem dX7_hashWithSteps_40 : decode cX7_hashWithSteps 40 = .ok (.getfield 10, 3) := by decide +kernel
theorem dX7_hashWithSteps_43 : decode cX7_hashWithSteps 43 = .ok (.iload 4, 2) := by decide +kernel
theorem dX7_hashWithSteps_45 : decode cX7_hashWithSteps 45 = .ok (.iload_n 3, 1) := by decide +kernel
theorem dX7_hashWithSteps_46 : decode cX7_hashWithSteps 46 = .ok (.invokevirtual 161, 3) := by decide +kernel
theorem dX7_hashWithSteps_49 : decode cX7_hashWithSteps 49 = .ok (.ifCond .eq 7, 3) := by decide +kernel
theorem dX7_hashWithSteps_52 : decode cX7_hashWithSteps 52 = .ok (.iconst 1, 1) := by decide +kernel
theorem dX7_hashWithSteps_53 : decode cX7_hashWithSteps 53 = .ok (.goto 4, 3) := by decide +kernel
theorem dX7_hashWithSteps_56 : decode cX7_hashWithSteps 56 = .ok (.iconst 0, 1) := by decide +kernel
theorem dX7_hashWithSteps_57 : decode cX7_hashWithSteps 57 = .ok (.invokestatic 244, 3) := by decide +kernel
theorem dX7_hashWithSteps_60 : decode cX7_hashWithSteps 60 = .ok (.lstore_n 1, 1) := by decide +kernel
theorem dX7_hashWithSteps_61 : decode cX7_hashWithSteps 61 = .ok (.lload_n 1, 1) := by decide +kernel
theorem dX7_hashWithSteps_62 : decode cX7_hashWithSteps 62 = .ok (.aload_n 0, 1) := by decide +kernel
theorem dX7_hashWithSteps_63 : decode cX7_hashWithSteps 63 = .ok (.getfield 10, 3) := by decide +kernel
theorem dX7_hashWithSteps_66 : decode cX7_hashWithSteps 66 = .ok (.getfield 179, 3) := by decide +kernel
theorem dX7_hashWithSteps_69 : decode cX7_hashWithSteps 69 = .ok (.iload 4, 2) := by decide +kernel
theorem dX7_hashWithSteps_71 : decode cX7_hashWithSteps 71 = .ok (.iload_n 3, 1) := by decide +kernel
theorem dX7_hashWithSteps_72 : decode cX7_hashWithSteps 72 = .ok (.invokevirtual 183, 3) := by decide +kernel
theorem dX7_hashWithSteps_75 : decode cX7_hashWithSteps 75 = .ok (.invokestatic 244, 3) := by decide +kernel
theorem dX7_hashWithSteps_78 : decode cX7_hashWithSteps 78 = .ok (.lstore_n 1, 1) := by decide +kernel
theorem dX7_hashWithSteps_79 : decode cX7_hashWithSteps 79 = .ok (.iinc 4 1, 3) := by decide +kernel
theorem dX7_hashWithSteps_82 : decode cX7_hashWithSteps 82 = .ok (.goto (-50), 3) := by decide +kernel
theorem dX7_hashWithSteps_85 : decode cX7_hashWithSteps 85 = .ok (.iinc 3 1, 3) := by decide +kernel
theorem dX7_hashWithSteps_88 : decode cX7_hashWithSteps 88 = .ok (.goto (-86), 3) := by decide +kernel
theorem dX7_hashWithSteps_91 : decode cX7_hashWithSteps 91 = .ok (.lload_n 1, 1) := by decide +kernel
theorem dX7_hashWithSteps_92 : decode cX7_hashWithSteps 92 = .ok (.lreturn, 1) := by decide +kernel
theorem dX7_copyRow_0 : decode cX7_copyRow 0 = .ok (.aload_n 0, 1) := by decide +kernel
theorem dX7_copyRow_1 : decode cX7_copyRow 1 = .ok (.iconst 0, 1) := by decide +kernel
theorem dX7_copyRow_2 : decode cX7_copyRow 2 = .ok (.aload_n 1, 1) := by decide +kernel
theorem dX7_copyRow_3 : decode cX7_copyRow 3 = .ok (.iconst 0, 1) := by decide +kernel
theorem dX7_copyRow_4 : decode cX7_copyRow 4 = .ok (.aload_n 0, 1) := by decide +kernel
theorem dX7_copyRow_5 : decode cX7_copyRow 5 = .ok (.arraylength, 1) := by decide +kernel
theorem dX7_copyRow_6 : decode cX7_copyRow 6 = .ok (.aload_n 1, 1) := by decide +kernel
theorem dX7_copyRow_7 : decode cX7_copyRow 7 = .ok (.arraylength, 1) := by decide +kernel
theorem dX7_copyRow_8 : decode cX7_copyRow 8 = .ok (.invokestatic 268, 3) := by decide +kernel
theorem dX7_copyRow_11 : decode cX7_copyRow 11 = .ok (.invokestatic 289, 3) := by decide +kernel
theorem dX7_copyRow_14 : decode cX7_copyRow 14 = .ok (.return_, 1) := by decide +kernel
theorem dX8_init_0 : decode cX8_init 0 = .ok (.aload_n 0, 1) := by decide +kernel
theorem dX8_init_1 : decode cX8_init 1 = .ok (.invokespecial 1, 3) := by decide +kernel
theorem dX8_init_4 : decode cX8_init 4 = .ok (.aload_n 0, 1) := by decide +kernel
theorem dX8_init_5 : decode cX8_init 5 = .ok (.sipush 159, 3) := by decide +kernel
theorem dX8_init_8 : decode cX8_init 8 = .ok (.newarray .int, 2) := by decide +kernel
theorem dX8_init_10 : decode cX8_init 10 = .ok (.putfield 7, 3) := by decide +kernel
theorem dX8_init_13 : decode cX8_init 13 = .ok (.aload_n 0, 1) := by decide +kernel
theorem dX8_init_14 : decode cX8_init 14 = .ok (.sipush 636, 3) := by decide +kernel
theorem dX8_init_17 : decode cX8_init 17 = .ok (.newarray .int, 2) := by decide +kernel
theorem dX8_init_19 : decode cX8_init 19 = .ok (.putfield 13, 3) := by decide +kernel
theorem dX8_init_22 : decode cX8_init 22 = .ok (.aload_n 0, 1) := by decide +kernel
theorem dX8_init_23 : decode cX8_init 23 = .ok (.sipush 159, 3) := by decide +kernel
theorem dX8_init_26 : decode cX8_init 26 = .ok (.newarray .int, 2) := by decide +kernel
theorem dX8_init_28 : decode cX8_init 28 = .ok (.putfield 16, 3) := by decide +kernel
theorem dX8_init_31 : decode cX8_init 31 = .ok (.aload_n 0, 1) := by decide +kernel
theorem dX8_init_32 : decode cX8_init 32 = .ok (.bipush 8, 2) := by decide +kernel
theorem dX8_init_34 : decode cX8_init 34 = .ok (.newarray .int, 2) := by decide +kernel
theorem dX8_init_36 : decode cX8_init 36 = .ok (.putfield 19, 3) := by decide +kernel
theorem dX8_init_39 : decode cX8_init 39 = .ok (.aload_n 0, 1) := by decide +kernel
theorem dX8_init_40 : decode cX8_init 40 = .ok (.bipush 100, 2) := by decide +kernel
theorem dX8_init_42 : decode cX8_init 42 = .ok (.newarray .int, 2) := by decide +kernel
theorem dX8_init_44 : decode cX8_init 44 = .ok (.putfield 22, 3) := by decide +kernel
theorem dX8_init_47 : decode cX8_init 47 = .ok (.aload_n 0, 1) := by decide +kernel
theorem dX8_init_48 : decode cX8_init 48 = .ok (.iconst 5, 1) := by decide +kernel
theorem dX8_init_49 : decode cX8_init 49 = .ok (.newarray .int, 2) := by decide +kernel
theorem dX8_init_51 : decode cX8_init 51 = .ok (.putfield 25, 3) := by decide +kernel
theorem dX8_init_54 : decode cX8_init 54 = .ok (.aload_n 0, 1) := by decide +kernel
theorem dX8_init_55 : decode cX8_init 55 = .ok (.getfield 7, 3) := by decide +kernel
theorem dX8_init_58 : decode cX8_init 58 = .ok (.iconst 0, 1) := by decide +kernel
theorem dX8_init_59 : decode cX8_init 59 = .ok (.bipush 8, 2) := by decide +kernel
theorem dX8_init_61 : decode cX8_init 61 = .ok (.iastore, 1) := by decide +kernel
theorem dX8_init_62 : decode cX8_init 62 = .ok (.aload_n 0, 1) := by decide +kernel
theorem dX8_init_63 : decode cX8_init 63 = .ok (.getfield 7, 3) := by decide +kernel
theorem dX8_init_66 : decode cX8_init 66 = .ok (.iconst 3, 1) := by decide +kernel
theorem dX8_init_67 : decode cX8_init 67 = .ok (.iconst 4, 1) := by decide +kernel
theorem dX8_init_68 : decode cX8_init 68 = .ok (.iastore, 1) := by decide +kernel
theorem dX8_init_69 : decode cX8_init 69 = .ok (.aload_n 0, 1) := by decide +kernel
theorem dX8_init_70 : decode cX8_init 70 = .ok (.getfield 7, 3) := by decide +kernel
theorem dX8_init_73 : decode cX8_init 73 = .ok (.iconst 4, 1) := by decide +kernel
theorem dX8_init_74 : decode cX8_init 74 = .ok (.bipush 100, 2) := by decide +kernel
theorem dX8_init_76 : decode cX8_init 76 = .ok (.iastore, 1) := by decide +kernel
theorem dX8_init_77 : decode cX8_init 77 = .ok (.aload_n 0, 1) := by decide +kernel
theorem dX8_init_78 : decode cX8_init 78 = .ok (.getfield 7, 3) := by decide +kernel
theorem dX8_init_81 : decode cX8_init 81 = .ok (.iconst 5, 1) := by decide +kernel
theorem dX8_init_82 : decode cX8_init 82 = .ok (.sipush 1000, 3) := by decide +kernel
theorem dX8_init_85 : decode cX8_init 85 = .ok (.iastore, 1) := by decide +kernel
theorem dX8_init_86 : decode cX8_init 86 = .ok (.aload_n 0, 1) := by decide +kernel
theorem dX8_init_87 : decode cX8_init 87 = .ok (.getfield 7, 3) := by decide +kernel
theorem dX8_init_90 : decode cX8_init 90 = .ok (.bipush 6, 2) := by decide +kernel
theorem dX8_init_92 : decode cX8_init 92 = .ok (.sipush 2000, 3) := by decide +kernel
theorem dX8_init_95 : decode cX8_init 95 = .ok (.iastore, 1) := by decide +kernel
theorem dX8_init_96 : decode cX8_init 96 = .ok (.aload_n 0, 1) := by decide +kernel
theorem dX8_init_97 : decode cX8_init 97 = .ok (.getfield 7, 3) := by decide +kernel
theorem dX8_init_100 : decode cX8_init 100 = .ok (.bipush 7, 2) := by decide +kernel
theorem dX8_init_102 : decode cX8_init 102 = .ok (.bipush 50, 2) := by decide +kernel
theorem dX8_init_104 : decode cX8_init 104 = .ok (.iastore, 1) := by decide +kernel
theorem dX8_init_105 : decode cX8_init 105 = .ok (.aload_n 0, 1) := by decide +kernel
theorem dX8_init_106 : decode cX8_init 106 = .ok (.getfield 7, 3) := by decide +kernel
theorem dX8_init_109 : decode cX8_init 109 = .ok (.bipush 12, 2) := by decide +kernel
theorem dX8_init_111 : decode cX8_init 111 = .ok (.sipush 1000, 3) := by decide +kernel
theorem dX8_init_114 : decode cX8_init 114 = .ok (.iastore, 1) := by decide +kernel
theorem dX8_init_115 : decode cX8_init 115 = .ok (.iconst 0, 1) := by decide +kernel
theorem dX8_init_116 : decode cX8_init 116 = .ok (.istore_n 1, 1) := by decide +kernel
theorem dX8_init_117 : decode cX8_init 117 = .ok (.iload_n 1, 1) := by decide +kernel
theorem dX8_init_118 : decode cX8_init 118 = .ok (.iconst 5, 1) := by decide +kernel
theorem dX8_init_119 : decode cX8_init 119 = .ok (.if_icmp .ge 40, 3) := by decide +kernel
theorem dX8_init_122 : decode cX8_init 122 = .ok (.aload_n 0, 1) := by decide +kernel
theorem dX8_init_123 : decode cX8_init 123 = .ok (.getfield 7, 3) := by decide +kernel
theorem dX8_init_126 : decode cX8_init 126 = .ok (.bipush 21, 2) := by decide +kernel
theorem dX8_init_128 : decode cX8_init 128 = .ok (.bipush 6, 2) := by decide +kernel
theorem dX8_init_130 : decode cX8_init 130 = .ok (.iload_n 1, 1) := by decide +kernel
theorem dX8_init_131 : decode cX8_init 131 = .ok (.imul, 1) := by decide +kernel
theorem dX8_init_132 : decode cX8_init 132 = .ok (.iadd, 1) := by decide +kernel
theorem dX8_init_133 : decode cX8_init 133 = .ok (.iconst 1, 1) := by decide +kernel
theorem dX8_init_134 : decode cX8_init 134 = .ok (.iadd, 1) := by decide +kernel
theorem dX8_init_135 : decode cX8_init 135 = .ok (.iconst 2, 1) := by decide +kernel
theorem dX8_init_136 : decode cX8_init 136 = .ok (.iastore, 1) := by decide +kernel
theorem dX8_init_137 : decode cX8_init 137 = .ok (.aload_n 0, 1) := by decide +kernel
theorem dX8_init_138 : decode cX8_init 138 = .ok (.getfield 7, 3) := by decide +kernel
theorem dX8_init_141 : decode cX8_init 141 = .ok (.bipush 21, 2) := by decide +kernel
theorem dX8_init_143 : decode cX8_init 143 = .ok (.bipush 6, 2) := by decide +kernel
theorem dX8_init_145 : decode cX8_init 145 = .ok (.iload_n 1, 1) := by decide +kernel
theorem dX8_init_146 : decode cX8_init 146 = .ok (.imul, 1) := by decide +kernel
theorem dX8_init_147 : decode cX8_init 147 = .ok (.iadd, 1) := by decide +kernel
theorem dX8_init_148 : decode cX8_init 148 = .ok (.iconst 2, 1) := by decide +kernel
theorem dX8_init_149 : decode cX8_init 149 = .ok (.iadd, 1) := by decide +kernel
theorem dX8_init_150 : decode cX8_init 150 = .ok (.bipush 20, 2) := by decide +kernel
theorem dX8_init_152 : decode cX8_init 152 = .ok (.iastore, 1) := by decide +kernel
theorem dX8_init_153 : decode cX8_init 153 = .ok (.iinc 1 1, 3) := by decide +kernel
theorem dX8_init_156 : decode cX8_init 156 = .ok (.goto (-39), 3) := by decide +kernel
theorem dX8_init_159 : decode cX8_init 159 = .ok (.aload_n 0, 1) := by decide +kernel
theorem dX8_init_160 : decode cX8_init 160 = .ok (.invokevirtual 28, 3) := by decide +kernel
theorem dX8_init_163 : decode cX8_init 163 = .ok (.return_, 1) := by decide +kernel
theorem dX8_thrown_0 : decode cX8_thrown 0 = .ok (.aload_n 0, 1) := by decide +kernel
theorem dX8_thrown_1 : decode cX8_thrown 1 = .ok (.getfield 31, 3) := by decide +kernel
theorem dX8_thrown_4 : decode cX8_thrown 4 = .ok (.ireturn, 1) := by decide +kernel
theorem dX8_in_0 : decode cX8_in 0 = .ok (.lload_n 0, 1) := by decide +kernel
theorem dX8_in_1 : decode cX8_in 1 = .ok (.lload_n 2, 1) := by decide +kernel
theorem dX8_in_2 : decode cX8_in 2 = .ok (.lcmp, 1) := by decide +kernel
theorem dX8_in_3 : decode cX8_in 3 = .ok (.ifCond .lt 14, 3) := by decide +kernel
theorem dX8_in_6 : decode cX8_in 6 = .ok (.lload_n 0, 1) := by decide +kernel
theorem dX8_in_7 : decode cX8_in 7 = .ok (.lload 4, 2) := by decide +kernel
theorem dX8_in_9 : decode cX8_in 9 = .ok (.lcmp, 1) := by decide +kernel
theorem dX8_in_10 : decode cX8_in 10 = .ok (.ifCond .gt 7, 3) := by decide +kernel
theorem dX8_in_13 : decode cX8_in 13 = .ok (.iconst 1, 1) := by decide +kernel
theorem dX8_in_14 : decode cX8_in 14 = .ok (.goto 4, 3) := by decide +kernel
theorem dX8_in_17 : decode cX8_in 17 = .ok (.iconst 0, 1) := by decide +kernel
theorem dX8_in_18 : decode cX8_in 18 = .ok (.ireturn, 1) := by decide +kernel
theorem dX8_fine_0 : decode cX8_fine 0 = .ok (.aload_n 0, 1) := by decide +kernel
theorem dX8_fine_1 : decode cX8_fine 1 = .ok (.iconst 0, 1) := by decide +kernel
theorem dX8_fine_2 : decode cX8_fine 2 = .ok (.putfield 31, 3) := by decide +kernel
theorem dX8_fine_5 : decode cX8_fine 5 = .ok (.iload_n 1, 1) := by decide +kernel
theorem dX8_fine_6 : decode cX8_fine 6 = .ok (.ireturn, 1) := by decide +kernel
theorem dX8_throwing_0 : decode cX8_throwing 0 = .ok (.aload_n 0, 1) := by decide +kernel
theorem dX8_throwing_1 : decode cX8_throwing 1 = .ok (.iload_n 1, 1) := by decide +kernel
theorem dX8_throwing_2 : decode cX8_throwing 2 = .ok (.putfield 31, 3) := by decide +kernel
theorem dX8_throwing_5 : decode cX8_throwing 5 = .ok (.iconst 0, 1) := by decide +kernel
theorem dX8_throwing_6 : decode cX8_throwing 6 = .ok (.ireturn, 1) := by decide +kernel
theorem dX8_save_0 : decode cX8_save 0 = .ok (.aload_n 0, 1) := by decide +kernel
theorem dX8_save_1 : decode cX8_save 1 = .ok (.getfield 35, 3) := by decide +kernel
theorem dX8_save_4 : decode cX8_save 4 = .ok (.iconst 4, 1) := by decide +kernel
theorem dX8_save_5 : decode cX8_save 5 = .ok (.if_icmp .ne 44, 3) := by decide +kernel
theorem dX8_save_8 : decode cX8_save 8 = .ok (.iconst 0, 1) := by decide +kernel
theorem dX8_save_9 : decode cX8_save 9 = .ok (.istore_n 1, 1) := by decide +kernel
theorem dX8_save_10 : decode cX8_save 10 = .ok (.iload_n 1, 1) := by decide +kernel
theorem dX8_save_11 : decode cX8_save 11 = .ok (.sipush 477, 3) := by decide +kernel
theorem dX8_save_14 : decode cX8_save 14 = .ok (.if_icmp .ge 25, 3) := by decide +kernel
theorem dX8_save_17 : decode cX8_save 17 = .ok (.aload_n 0, 1) := by decide +kernel
theorem dX8_save_18 : decode cX8_save 18 = .ok (.getfield 13, 3) := by decide +kernel
theorem dX8_save_21 : decode cX8_save 21 = .ok (.iload_n 1, 1) := by decide +kernel
theorem dX8_save_22 : decode cX8_save 22 = .ok (.aload_n 0, 1) := by decide +kernel
theorem dX8_save_23 : decode cX8_save 23 = .ok (.getfield 13, 3) := by decide +kernel
theorem dX8_save_26 : decode cX8_save 26 = .ok (.iload_n 1, 1) := by decide +kernel
theorem dX8_save_27 : decode cX8_save 27 = .ok (.sipush 159, 3) := by decide +kernel
theorem dX8_save_30 : decode cX8_save 30 = .ok (.iadd, 1) := by decide +kernel
theorem dX8_save_31 : decode cX8_save 31 = .ok (.iaload, 1) := by decide +kernel
theorem dX8_save_32 : decode cX8_save 32 = .ok (.iastore, 1) := by decide +kernel
theorem dX8_save_33 : decode cX8_save 33 = .ok (.iinc 1 1, 3) := by decide +kernel
theorem dX8_save_36 : decode cX8_save 36 = .ok (.goto (-26), 3) := by decide +kernel
theorem dX8_save_39 : decode cX8_save 39 = .ok (.aload_n 0, 1) := by decide +kernel
theorem dX8_save_40 : decode cX8_save 40 = .ok (.dup, 1) := by decide +kernel
theorem dX8_save_41 : decode cX8_save 41 = .ok (.getfield 35, 3) := by decide +kernel
theorem dX8_save_44 : decode cX8_save 44 = .ok (.iconst 1, 1) := by decide +kernel
theorem dX8_save_45 : decode cX8_save 45 = .ok (.isub, 1) := by decide +kernel
theorem dX8_save_46 : decode cX8_save 46 = .ok (.putfield 35, 3) := by decide +kernel
theorem dX8_save_49 : decode cX8_save 49 = .ok (.iconst 0, 1) := by decide +kernel
theorem dX8_save_50 : decode cX8_save 50 = .ok (.istore_n 1, 1) := by decide +kernel
theorem dX8_save_51 : decode cX8_save 51 = .ok (.iload_n 1, 1) := by decide +kernel
theorem dX8_save_52 : decode cX8_save 52 = .ok (.sipush 159, 3) := by decide +kernel
theorem dX8_save_55 : decode cX8_save 55 = .ok (.if_icmp .ge 30, 3) := by decide +kernel
theorem dX8_save_58 : decode cX8_save 58 = .ok (.aload_n 0, 1) := by decide +kernel
theorem dX8_save_59 : decode cX8_save 59 = .ok (.getfield 13, 3) := by decide +kernel
theorem dX8_save_62 : decode cX8_save 62 = .ok (.sipush 159, 3) := by decide +kernel
theorem dX8_save_65 : decode cX8_save 65 = .ok (.aload_n 0, 1) := by decide +kernel
theorem dX8_save_66 : decode cX8_save 66 = .ok (.getfield 35, 3) := by decide +kernel
theorem dX8_save_69 : decode cX8_save 69 = .ok (.imul, 1) := by decide +kernel
theorem dX8_save_70 : decode cX8_save 70 = .ok (.iload_n 1, 1) := by decide +kernel
theorem dX8_save_71 : decode cX8_save 71 = .ok (.iadd, 1) := by decide +kernel
theorem dX8_save_72 : decode cX8_save 72 = .ok (.aload_n 0, 1) := by decide +kernel
theorem dX8_save_73 : decode cX8_save 73 = .ok (.getfield 7, 3) := by decide +kernel
theorem dX8_save_76 : decode cX8_save 76 = .ok (.iload_n 1, 1) := by decide +kernel
theorem dX8_save_77 : decode cX8_save 77 = .ok (.iaload, 1) := by decide +kernel
theorem dX8_save_78 : decode cX8_save 78 = .ok (.iastore, 1) := by decide +kernel
theorem dX8_save_79 : decode cX8_save 79 = .ok (.iinc 1 1, 3) := by decide +kernel
theorem dX8_save_82 : decode cX8_save 82 = .ok (.goto (-31), 3) := by decide +kernel
theorem dX8_save_85 : decode cX8_save 85 = .ok (.aload_n 0, 1) := by decide +kernel
theorem dX8_save_86 : decode cX8_save 86 = .ok (.dup, 1) := by decide +kernel
theorem dX8_save_87 : decode cX8_save 87 = .ok (.getfield 35, 3) := by decide +kernel
theorem dX8_save_90 : decode cX8_save 90 = .ok (.iconst 1, 1) := by decide +kernel
theorem dX8_save_91 : decode cX8_save 91 = .ok (.iadd, 1) := by decide +kernel
theorem dX8_save_92 : decode cX8_save 92 = .ok (.putfield 35, 3) := by decide +kernel
theorem dX8_save_95 : decode cX8_save 95 = .ok (.return_, 1) := by decide +kernel
theorem dX8_laysAside_0 : decode cX8_laysAside 0 = .ok (.iconst 0, 1) := by decide +kernel
theorem dX8_laysAside_1 : decode cX8_laysAside 1 = .ok (.istore_n 1, 1) := by decide +kernel
theorem dX8_laysAside_2 : decode cX8_laysAside 2 = .ok (.iload_n 1, 1) := by decide +kernel
theorem dX8_laysAside_3 : decode cX8_laysAside 3 = .ok (.sipush 159, 3) := by decide +kernel
theorem dX8_laysAside_6 : decode cX8_laysAside 6 = .ok (.if_icmp .ge 21, 3) := by decide +kernel
theorem dX8_laysAside_9 : decode cX8_laysAside 9 = .ok (.aload_n 0, 1) := by decide +kernel
theorem dX8_laysAside_10 : decode cX8_laysAside 10 = .ok (.getfield 16, 3) := by decide +kernel
theorem dX8_laysAside_13 : decode cX8_laysAside 13 = .ok (.iload_n 1, 1) := by decide +kernel
theorem dX8_laysAside_14 : decode cX8_laysAside 14 = .ok (.aload_n 0, 1) := by decide +kernel
theorem dX8_laysAside_15 : decode cX8_laysAside 15 = .ok (.getfield 7, 3) := by decide +kernel
theorem dX8_laysAside_18 : decode cX8_laysAside 18 = .ok (.iload_n 1, 1) := by decide +kernel
theorem dX8_laysAside_19 : decode cX8_laysAside 19 = .ok (.iaload, 1) := by decide +kernel
theorem dX8_laysAside_20 : decode cX8_laysAside 20 = .ok (.iastore, 1) := by decide +kernel
theorem dX8_laysAside_21 : decode cX8_laysAside 21 = .ok (.iinc 1 1, 3) := by decide +kernel
theorem dX8_laysAside_24 : decode cX8_laysAside 24 = .ok (.goto (-22), 3) := by decide +kernel
theorem dX8_laysAside_27 : decode cX8_laysAside 27 = .ok (.return_, 1) := by decide +kernel
theorem dX8_takesBack_0 : decode cX8_takesBack 0 = .ok (.iconst 0, 1) := by decide +kernel
theorem dX8_takesBack_1 : decode cX8_takesBack 1 = .ok (.istore_n 1, 1) := by decide +kernel
theorem dX8_takesBack_2 : decode cX8_takesBack 2 = .ok (.iload_n 1, 1) := by decide +kernel
theorem dX8_takesBack_3 : decode cX8_takesBack 3 = .ok (.sipush 159, 3) := by decide +kernel
theorem dX8_takesBack_6 : decode cX8_takesBack 6 = .ok (.if_icmp .ge 21, 3) := by decide +kernel
theorem dX8_takesBack_9 : decode cX8_takesBack 9 = .ok (.aload_n 0, 1) := by decide +kernel
theorem dX8_takesBack_10 : decode cX8_takesBack 10 = .ok (.getfield 7, 3) := by decide +kernel
theorem dX8_takesBack_13 : decode cX8_takesBack 13 = .ok (.iload_n 1, 1) := by decide +kernel
theorem dX8_takesBack_14 : decode cX8_takesBack 14 = .ok (.aload_n 0, 1) := by decide +kernel
theorem dX8_takesBack_15 : decode cX8_takesBack 15 = .ok (.getfield 16, 3) := by decide +kernel
theorem dX8_takesBack_18 : decode cX8_takesBack 18 = .ok (.iload_n 1, 1) := by decide +kernel
theorem dX8_takesBack_19 : decode cX8_takesBack 19 = .ok (.iaload, 1) := by decide +kernel
theorem dX8_takesBack_20 : decode cX8_takesBack 20 = .ok (.iastore, 1) := by decide +kernel
theorem dX8_takesBack_21 : decode cX8_takesBack 21 = .ok (.iinc 1 1, 3) := by decide +kernel
theorem dX8_takesBack_24 : decode cX8_takesBack 24 = .ok (.goto (-22), 3) := by decide +kernel
theorem dX8_takesBack_27 : decode cX8_takesBack 27 = .ok (.return_, 1) := by decide +kernel
theorem dX8_empties_0 : decode cX8_empties 0 = .ok (.iconst 0, 1) := by decide +kernel
theorem dX8_empties_1 : decode cX8_empties 1 = .ok (.istore_n 1, 1) := by decide +kernel
theorem dX8_empties_2 : decode cX8_empties 2 = .ok (.iload_n 1, 1) := by decide +kernel
theorem dX8_empties_3 : decode cX8_empties 3 = .ok (.bipush 80, 2) := by decide +kernel
theorem dX8_empties_5 : decode cX8_empties 5 = .ok (.if_icmp .ge 19, 3) := by decide +kernel
theorem dX8_empties_8 : decode cX8_empties 8 = .ok (.aload_n 0, 1) := by decide +kernel
theorem dX8_empties_9 : decode cX8_empties 9 = .ok (.getfield 7, 3) := by decide +kernel
theorem dX8_empties_12 : decode cX8_empties 12 = .ok (.bipush 63, 2) := by decide +kernel
theorem dX8_empties_14 : decode cX8_empties 14 = .ok (.iload_n 1, 1) := by decide +kernel
theorem dX8_empties_15 : decode cX8_empties 15 = .ok (.iadd, 1) := by decide +kernel
theorem dX8_empties_16 : decode cX8_empties 16 = .ok (.iconst (-1), 1) := by decide +kernel
theorem dX8_empties_17 : decode cX8_empties 17 = .ok (.iastore, 1) := by decide +kernel
theorem dX8_empties_18 : decode cX8_empties 18 = .ok (.iinc 1 1, 3) := by decide +kernel
theorem dX8_empties_21 : decode cX8_empties 21 = .ok (.goto (-19), 3) := by decide +kernel
theorem dX8_empties_24 : decode cX8_empties 24 = .ok (.iconst 0, 1) := by decide +kernel
theorem dX8_empties_25 : decode cX8_empties 25 = .ok (.istore_n 1, 1) := by decide +kernel
theorem dX8_empties_26 : decode cX8_empties 26 = .ok (.iload_n 1, 1) := by decide +kernel
theorem dX8_empties_27 : decode cX8_empties 27 = .ok (.bipush 16, 2) := by decide +kernel
theorem dX8_empties_29 : decode cX8_empties 29 = .ok (.if_icmp .ge 20, 3) := by decide +kernel
theorem dX8_empties_32 : decode cX8_empties 32 = .ok (.aload_n 0, 1) := by decide +kernel
theorem dX8_empties_33 : decode cX8_empties 33 = .ok (.getfield 7, 3) := by decide +kernel
theorem dX8_empties_36 : decode cX8_empties 36 = .ok (.sipush 143, 3) := by decide +kernel
theorem dX8_empties_39 : decode cX8_empties 39 = .ok (.iload_n 1, 1) := by decide +kernel
theorem dX8_empties_40 : decode cX8_empties 40 = .ok (.iadd, 1) := by decide +kernel
theorem dX8_empties_41 : decode cX8_empties 41 = .ok (.iconst 0, 1) := by decide +kernel
theorem dX8_empties_42 : decode cX8_empties 42 = .ok (.iastore, 1) := by decide +kernel
theorem dX8_empties_43 : decode cX8_empties 43 = .ok (.iinc 1 1, 3) := by decide +kernel
theorem dX8_empties_46 : decode cX8_empties 46 = .ok (.goto (-20), 3) := by decide +kernel
theorem dX8_empties_49 : decode cX8_empties 49 = .ok (.return_, 1) := by decide +kernel
theorem dX8_isCylinder_0 : decode cX8_isCylinder 0 = .ok (.iload_n 0, 1) := by decide +kernel
theorem dX8_isCylinder_1 : decode cX8_isCylinder 1 = .ok (.i2l, 1) := by decide +kernel
theorem dX8_isCylinder_2 : decode cX8_isCylinder 2 = .ok (.lconst 0, 1) := by decide +kernel
theorem dX8_isCylinder_3 : decode cX8_isCylinder 3 = .ok (.ldc2_w 38, 3) := by decide +kernel
theorem dX8_isCylinder_6 : decode cX8_isCylinder 6 = .ok (.invokestatic 40, 3) := by decide +kernel
theorem dX8_isCylinder_9 : decode cX8_isCylinder 9 = .ok (.ireturn, 1) := by decide +kernel
theorem dX8_isStep_0 : decode cX8_isStep 0 = .ok (.iload_n 1, 1) := by decide +kernel
theorem dX8_isStep_1 : decode cX8_isStep 1 = .ok (.i2l, 1) := by decide +kernel
theorem dX8_isStep_2 : decode cX8_isStep 2 = .ok (.lconst 0, 1) := by decide +kernel
theorem dX8_isStep_3 : decode cX8_isStep 3 = .ok (.aload_n 0, 1) := by decide +kernel
theorem dX8_isStep_4 : decode cX8_isStep 4 = .ok (.getfield 7, 3) := by decide +kernel
theorem dX8_isStep_7 : decode cX8_isStep 7 = .ok (.iconst 0, 1) := by decide +kernel
theorem dX8_isStep_8 : decode cX8_isStep 8 = .ok (.iaload, 1) := by decide +kernel
theorem dX8_isStep_9 : decode cX8_isStep 9 = .ok (.i2l, 1) := by decide +kernel
theorem dX8_isStep_10 : decode cX8_isStep 10 = .ok (.lconst 1, 1) := by decide +kernel
theorem dX8_isStep_11 : decode cX8_isStep 11 = .ok (.lsub, 1) := by decide +kernel
theorem dX8_isStep_12 : decode cX8_isStep 12 = .ok (.invokestatic 40, 3) := by decide +kernel
theorem dX8_isStep_15 : decode cX8_isStep 15 = .ok (.ireturn, 1) := by decide +kernel
theorem dX8_isGuard_0 : decode cX8_isGuard 0 = .ok (.iload_n 1, 1) := by decide +kernel
theorem dX8_isGuard_1 : decode cX8_isGuard 1 = .ok (.i2l, 1) := by decide +kernel
theorem dX8_isGuard_2 : decode cX8_isGuard 2 = .ok (.lconst 0, 1) := by decide +kernel
theorem dX8_isGuard_3 : decode cX8_isGuard 3 = .ok (.aload_n 0, 1) := by decide +kernel
theorem dX8_isGuard_4 : decode cX8_isGuard 4 = .ok (.getfield 7, 3) := by decide +kernel
theorem dX8_isGuard_7 : decode cX8_isGuard 7 = .ok (.bipush 8, 2) := by decide +kernel
theorem dX8_isGuard_9 : decode cX8_isGuard 9 = .ok (.iaload, 1) := by decide +kernel
theorem dX8_isGuard_10 : decode cX8_isGuard 10 = .ok (.i2l, 1) := by decide +kernel
theorem dX8_isGuard_11 : decode cX8_isGuard 11 = .ok (.lconst 1, 1) := by decide +kernel
theorem dX8_isGuard_12 : decode cX8_isGuard 12 = .ok (.lsub, 1) := by decide +kernel
theorem dX8_isGuard_13 : decode cX8_isGuard 13 = .ok (.invokestatic 40, 3) := by decide +kernel
theorem dX8_isGuard_16 : decode cX8_isGuard 16 = .ok (.ireturn, 1) := by decide +kernel
theorem dX8_out_0 : decode cX8_out 0 = .ok (.aload_n 0, 1) := by decide +kernel
theorem dX8_out_1 : decode cX8_out 1 = .ok (.getfield 7, 3) := by decide +kernel
theorem dX8_out_4 : decode cX8_out 4 = .ok (.bipush 21, 2) := by decide +kernel
theorem dX8_out_6 : decode cX8_out 6 = .ok (.bipush 6, 2) := by decide +kernel
theorem dX8_out_8 : decode cX8_out 8 = .ok (.iload_n 1, 1) := by decide +kernel
theorem dX8_out_9 : decode cX8_out 9 = .ok (.imul, 1) := by decide +kernel
theorem dX8_out_10 : decode cX8_out 10 = .ok (.iadd, 1) := by decide +kernel
theorem dX8_out_11 : decode cX8_out 11 = .ok (.iaload, 1) := by decide +kernel
theorem dX8_out_12 : decode cX8_out 12 = .ok (.ireturn, 1) := by decide +kernel
theorem dX8_hasCam_0 : decode cX8_hasCam 0 = .ok (.aload_n 0, 1) := by decide +kernel
theorem dX8_hasCam_1 : decode cX8_hasCam 1 = .ok (.getfield 7, 3) := by decide +kernel
theorem dX8_hasCam_4 : decode cX8_hasCam 4 = .ok (.bipush 16, 2) := by decide +kernel
theorem dX8_hasCam_6 : decode cX8_hasCam 6 = .ok (.iload_n 1, 1) := by decide +kernel
theorem dX8_hasCam_7 : decode cX8_hasCam 7 = .ok (.iadd, 1) := by decide +kernel
theorem dX8_hasCam_8 : decode cX8_hasCam 8 = .ok (.iaload, 1) := by decide +kernel
theorem dX8_hasCam_9 : decode cX8_hasCam 9 = .ok (.iload_n 2, 1) := by decide +kernel
theorem dX8_hasCam_10 : decode cX8_hasCam 10 = .ok (.ishr, 1) := by decide +kernel
theorem dX8_hasCam_11 : decode cX8_hasCam 11 = .ok (.iconst 1, 1) := by decide +kernel
theorem dX8_hasCam_12 : decode cX8_hasCam 12 = .ok (.iand, 1) := by decide +kernel
theorem dX8_hasCam_13 : decode cX8_hasCam 13 = .ok (.iconst 1, 1) := by decide +kernel
theorem dX8_hasCam_14 : decode cX8_hasCam 14 = .ok (.if_icmp .ne 7, 3) := by decide +kernel
theorem dX8_hasCam_17 : decode cX8_hasCam 17 = .ok (.iconst 1, 1) := by decide +kernel
theorem dX8_hasCam_18 : decode cX8_hasCam 18 = .ok (.goto 4, 3) := by decide +kernel
theorem dX8_hasCam_21 : decode cX8_hasCam 21 = .ok (.iconst 0, 1) := by decide +kernel
theorem dX8_hasCam_22 : decode cX8_hasCam 22 = .ok (.ireturn, 1) := by decide +kernel
theorem dX8_camsOf_0 : decode cX8_camsOf 0 = .ok (.iconst 0, 1) := by decide +kernel
theorem dX8_camsOf_1 : decode cX8_camsOf 1 = .ok (.istore_n 2, 1) := by decide +kernel
theorem dX8_camsOf_2 : decode cX8_camsOf 2 = .ok (.iconst 0, 1) := by decide +kernel
theorem dX8_camsOf_3 : decode cX8_camsOf 3 = .ok (.istore_n 3, 1) := by decide +kernel
theorem dX8_camsOf_4 : decode cX8_camsOf 4 = .ok (.iload_n 3, 1) := by decide +kernel
theorem dX8_camsOf_5 : decode cX8_camsOf 5 = .ok (.bipush 16, 2) := by decide +kernel
theorem dX8_camsOf_7 : decode cX8_camsOf 7 = .ok (.if_icmp .ge 26, 3) := by decide +kernel
theorem dX8_camsOf_10 : decode cX8_camsOf 10 = .ok (.iload_n 2, 1) := by decide +kernel
theorem dX8_camsOf_11 : decode cX8_camsOf 11 = .ok (.aload_n 0, 1) := by decide +kernel
theorem dX8_camsOf_12 : decode cX8_camsOf 12 = .ok (.iload_n 1, 1) := by decide +kernel
theorem dX8_camsOf_13 : decode cX8_camsOf 13 = .ok (.iload_n 3, 1) := by decide +kernel
theorem dX8_camsOf_14 : decode cX8_camsOf 14 = .ok (.invokevirtual 44, 3) := by decide +kernel
theorem dX8_camsOf_17 : decode cX8_camsOf 17 = .ok (.ifCond .eq 7, 3) := by decide +kernel
theorem dX8_camsOf_20 : decode cX8_camsOf 20 = .ok (.iconst 1, 1) := by decide +kernel
theorem dX8_camsOf_21 : decode cX8_camsOf 21 = .ok (.goto 4, 3) := by decide +kernel
theorem dX8_camsOf_24 : decode cX8_camsOf 24 = .ok (.iconst 0, 1) := by decide +kernel
theorem dX8_camsOf_25 : decode cX8_camsOf 25 = .ok (.iadd, 1) := by decide +kernel
theorem dX8_camsOf_26 : decode cX8_camsOf 26 = .ok (.istore_n 2, 1) := by decide +kernel
theorem dX8_camsOf_27 : decode cX8_camsOf 27 = .ok (.iinc 3 1, 3) := by decide +kernel
theorem dX8_camsOf_30 : decode cX8_camsOf 30 = .ok (.goto (-26), 3) := by decide +kernel
theorem dX8_camsOf_33 : decode cX8_camsOf 33 = .ok (.iload_n 2, 1) := by decide +kernel
theorem dX8_camsOf_34 : decode cX8_camsOf 34 = .ok (.ireturn, 1) := by decide +kernel
theorem dX8_setCam_0 : decode cX8_setCam 0 = .ok (.iload_n 1, 1) := by decide +kernel
theorem dX8_setCam_1 : decode cX8_setCam 1 = .ok (.invokestatic 48, 3) := by decide +kernel
theorem dX8_setCam_4 : decode cX8_setCam 4 = .ok (.ifCond .eq 11, 3) := by decide +kernel
theorem dX8_setCam_7 : decode cX8_setCam 7 = .ok (.aload_n 0, 1) := by decide +kernel
theorem dX8_setCam_8 : decode cX8_setCam 8 = .ok (.iload_n 2, 1) := by decide +kernel
theorem dX8_setCam_9 : decode cX8_setCam 9 = .ok (.invokevirtual 52, 3) := by decide +kernel
theorem dX8_setCam_12 : decode cX8_setCam 12 = .ok (.ifCond .ne 9, 3) := by decide +kernel
theorem dX8_setCam_15 : decode cX8_setCam 15 = .ok (.aload_n 0, 1) := by decide +kernel
theorem dX8_setCam_16 : decode cX8_setCam 16 = .ok (.iconst 1, 1) := by decide +kernel
theorem dX8_setCam_17 : decode cX8_setCam 17 = .ok (.invokevirtual 55, 3) := by decide +kernel
theorem dX8_setCam_20 : decode cX8_setCam 20 = .ok (.ireturn, 1) := by decide +kernel
theorem dX8_setCam_21 : decode cX8_setCam 21 = .ok (.aload_n 0, 1) := by decide +kernel
theorem dX8_setCam_22 : decode cX8_setCam 22 = .ok (.invokevirtual 59, 3) := by decide +kernel
theorem dX8_setCam_25 : decode cX8_setCam 25 = .ok (.aload_n 0, 1) := by decide +kernel
theorem dX8_setCam_26 : decode cX8_setCam 26 = .ok (.getfield 7, 3) := by decide +kernel
theorem dX8_setCam_29 : decode cX8_setCam 29 = .ok (.bipush 16, 2) := by decide +kernel
theorem dX8_setCam_31 : decode cX8_setCam 31 = .ok (.iload_n 1, 1) := by decide +kernel
theorem dX8_setCam_32 : decode cX8_setCam 32 = .ok (.iadd, 1) := by decide +kernel
theorem dX8_setCam_33 : decode cX8_setCam 33 = .ok (.iaload, 1) := by decide +kernel
theorem dX8_setCam_34 : decode cX8_setCam 34 = .ok (.iconst 1, 1) := by decide +kernel
theorem dX8_setCam_35 : decode cX8_setCam 35 = .ok (.iload_n 2, 1) := by decide +kernel
theorem dX8_setCam_36 : decode cX8_setCam 36 = .ok (.ishl, 1) := by decide +kernel
theorem dX8_setCam_37 : decode cX8_setCam 37 = .ok (.iconst (-1), 1) := by decide +kernel
theorem dX8_setCam_38 : decode cX8_setCam 38 = .ok (.ixor, 1) := by decide +kernel
theorem dX8_setCam_39 : decode cX8_setCam 39 = .ok (.iand, 1) := by decide +kernel
theorem dX8_setCam_40 : decode cX8_setCam 40 = .ok (.istore 4, 2) := by decide +kernel
theorem dX8_setCam_42 : decode cX8_setCam 42 = .ok (.aload_n 0, 1) := by decide +kernel
theorem dX8_setCam_43 : decode cX8_setCam 43 = .ok (.getfield 7, 3) := by decide +kernel
theorem dX8_setCam_46 : decode cX8_setCam 46 = .ok (.bipush 16, 2) := by decide +kernel
theorem dX8_setCam_48 : decode cX8_setCam 48 = .ok (.iload_n 1, 1) := by decide +kernel
theorem dX8_setCam_49 : decode cX8_setCam 49 = .ok (.iadd, 1) := by decide +kernel
theorem dX8_setCam_50 : decode cX8_setCam 50 = .ok (.iload_n 3, 1) := by decide +kernel
theorem dX8_setCam_51 : decode cX8_setCam 51 = .ok (.ifCond .eq 12, 3) := by decide +kernel
theorem dX8_setCam_54 : decode cX8_setCam 54 = .ok (.iload 4, 2) := by decide +kernel
theorem dX8_setCam_56 : decode cX8_setCam 56 = .ok (.iconst 1, 1) := by decide +kernel
theorem dX8_setCam_57 : decode cX8_setCam 57 = .ok (.iload_n 2, 1) := by decide +kernel
theorem dX8_setCam_58 : decode cX8_setCam 58 = .ok (.ishl, 1) := by decide +kernel
theorem dX8_setCam_59 : decode cX8_setCam 59 = .ok (.ior, 1) := by decide +kernel
theorem dX8_setCam_60 : decode cX8_setCam 60 = .ok (.goto 5, 3) := by decide +kernel
theorem dX8_setCam_63 : decode cX8_setCam 63 = .ok (.iload 4, 2) := by decide +kernel
theorem dX8_setCam_65 : decode cX8_setCam 65 = .ok (.iastore, 1) := by decide +kernel
theorem dX8_setCam_66 : decode cX8_setCam 66 = .ok (.aload_n 0, 1) := by decide +kernel
theorem dX8_setCam_67 : decode cX8_setCam 67 = .ok (.aload_n 0, 1) := by decide +kernel
theorem dX8_setCam_68 : decode cX8_setCam 68 = .ok (.iload_n 1, 1) := by decide +kernel
theorem dX8_setCam_69 : decode cX8_setCam 69 = .ok (.invokevirtual 62, 3) := by decide +kernel
theorem dX8_setCam_72 : decode cX8_setCam 72 = .ok (.invokevirtual 65, 3) := by decide +kernel
theorem dX8_setCam_75 : decode cX8_setCam 75 = .ok (.ireturn, 1) := by decide +kernel
theorem dX8_setPawl_0 : decode cX8_setPawl 0 = .ok (.iload_n 1, 1) := by decide +kernel
theorem dX8_setPawl_1 : decode cX8_setPawl 1 = .ok (.i2l, 1) := by decide +kernel
theorem dX8_setPawl_2 : decode cX8_setPawl 2 = .ok (.lconst 1, 1) := by decide +kernel
theorem dX8_setPawl_3 : decode cX8_setPawl 3 = .ok (.ldc2_w 68, 3) := by decide +kernel
theorem dX8_setPawl_6 : decode cX8_setPawl 6 = .ok (.invokestatic 40, 3) := by decide +kernel
theorem dX8_setPawl_9 : decode cX8_setPawl 9 = .ok (.ifCond .eq 15, 3) := by decide +kernel
theorem dX8_setPawl_12 : decode cX8_setPawl 12 = .ok (.iload_n 2, 1) := by decide +kernel
theorem dX8_setPawl_13 : decode cX8_setPawl 13 = .ok (.i2l, 1) := by decide +kernel
theorem dX8_setPawl_14 : decode cX8_setPawl 14 = .ok (.lconst 0, 1) := by decide +kernel
theorem dX8_setPawl_15 : decode cX8_setPawl 15 = .ok (.ldc2_w 70, 3) := by decide +kernel
theorem dX8_setPawl_18 : decode cX8_setPawl 18 = .ok (.invokestatic 40, 3) := by decide +kernel
theorem dX8_setPawl_21 : decode cX8_setPawl 21 = .ok (.ifCond .ne 9, 3) := by decide +kernel
theorem dX8_setPawl_24 : decode cX8_setPawl 24 = .ok (.aload_n 0, 1) := by decide +kernel
theorem dX8_setPawl_25 : decode cX8_setPawl 25 = .ok (.iconst 1, 1) := by decide +kernel
theorem dX8_setPawl_26 : decode cX8_setPawl 26 = .ok (.invokevirtual 55, 3) := by decide +kernel
theorem dX8_setPawl_29 : decode cX8_setPawl 29 = .ok (.ireturn, 1) := by decide +kernel
theorem dX8_setPawl_30 : decode cX8_setPawl 30 = .ok (.aload_n 0, 1) := by decide +kernel
theorem dX8_setPawl_31 : decode cX8_setPawl 31 = .ok (.invokevirtual 59, 3) := by decide +kernel
theorem dX8_setPawl_34 : decode cX8_setPawl 34 = .ok (.aload_n 0, 1) := by decide +kernel
theorem dX8_setPawl_35 : decode cX8_setPawl 35 = .ok (.getfield 7, 3) := by decide +kernel
theorem dX8_setPawl_38 : decode cX8_setPawl 38 = .ok (.iconst 3, 1) := by decide +kernel
theorem dX8_setPawl_39 : decode cX8_setPawl 39 = .ok (.iaload, 1) := by decide +kernel
theorem dX8_setPawl_40 : decode cX8_setPawl 40 = .ok (.istore_n 3, 1) := by decide +kernel
theorem dX8_setPawl_41 : decode cX8_setPawl 41 = .ok (.aload_n 0, 1) := by decide +kernel
theorem dX8_setPawl_42 : decode cX8_setPawl 42 = .ok (.getfield 7, 3) := by decide +kernel
theorem dX8_setPawl_45 : decode cX8_setPawl 45 = .ok (.iconst 3, 1) := by decide +kernel
theorem dX8_setPawl_46 : decode cX8_setPawl 46 = .ok (.iload_n 1, 1) := by decide +kernel
theorem dX8_setPawl_47 : decode cX8_setPawl 47 = .ok (.iastore, 1) := by decide +kernel
theorem dX8_setPawl_48 : decode cX8_setPawl 48 = .ok (.aload_n 0, 1) := by decide +kernel
theorem dX8_setPawl_49 : decode cX8_setPawl 49 = .ok (.getfield 7, 3) := by decide +kernel
theorem dX8_setPawl_52 : decode cX8_setPawl 52 = .ok (.iconst 4, 1) := by decide +kernel
theorem dX8_setPawl_53 : decode cX8_setPawl 53 = .ok (.iload_n 2, 1) := by decide +kernel
theorem dX8_setPawl_54 : decode cX8_setPawl 54 = .ok (.iastore, 1) := by decide +kernel
theorem dX8_setPawl_55 : decode cX8_setPawl 55 = .ok (.aload_n 0, 1) := by decide +kernel
theorem dX8_setPawl_56 : decode cX8_setPawl 56 = .ok (.iload_n 3, 1) := by decide +kernel
theorem dX8_setPawl_57 : decode cX8_setPawl 57 = .ok (.invokevirtual 65, 3) := by decide +kernel
theorem dX8_setPawl_60 : decode cX8_setPawl 60 = .ok (.ireturn, 1) := by decide +kernel
theorem dX8_setCylinder_0 : decode cX8_setCylinder 0 = .ok (.iload_n 1, 1) := by decide +kernel
theorem dX8_setCylinder_1 : decode cX8_setCylinder 1 = .ok (.invokestatic 48, 3) := by decide +kernel
theorem dX8_setCylinder_4 : decode cX8_setCylinder 4 = .ok (.ifCond .ne 9, 3) := by decide +kernel
theorem dX8_setCylinder_7 : decode cX8_setCylinder 7 = .ok (.aload_n 0, 1) := by decide +kernel
theorem dX8_setCylinder_8 : decode cX8_setCylinder 8 = .ok (.iconst 1, 1) := by decide +kernel
theorem dX8_setCylinder_9 : decode cX8_setCylinder 9 = .ok (.invokevirtual 55, 3) := by decide +kernel
theorem dX8_setCylinder_12 : decode cX8_setCylinder 12 = .ok (.ireturn, 1) := by decide +kernel
theorem dX8_setCylinder_13 : decode cX8_setCylinder 13 = .ok (.iload_n 2, 1) := by decide +kernel
theorem dX8_setCylinder_14 : decode cX8_setCylinder 14 = .ok (.i2l, 1) := by decide +kernel
theorem dX8_setCylinder_15 : decode cX8_setCylinder 15 = .ok (.lconst 1, 1) := by decide +kernel
theorem dX8_setCylinder_16 : decode cX8_setCylinder 16 = .ok (.ldc2_w 72, 3) := by decide +kernel
theorem dX8_setCylinder_19 : decode cX8_setCylinder 19 = .ok (.invokestatic 40, 3) := by decide +kernel
theorem dX8_setCylinder_22 : decode cX8_setCylinder 22 = .ok (.ifCond .eq 28, 3) := by decide +kernel
theorem dX8_setCylinder_25 : decode cX8_setCylinder 25 = .ok (.iload_n 3, 1) := by decide +kernel
theorem dX8_setCylinder_26 : decode cX8_setCylinder 26 = .ok (.i2l, 1) := by decide +kernel
theorem dX8_setCylinder_27 : decode cX8_setCylinder 27 = .ok (.lconst 1, 1) := by decide +kernel
theorem dX8_setCylinder_28 : decode cX8_setCylinder 28 = .ok (.ldc2_w 74, 3) := by decide +kernel
theorem dX8_setCylinder_31 : decode cX8_setCylinder 31 = .ok (.invokestatic 40, 3) := by decide +kernel
theorem dX8_setCylinder_34 : decode cX8_setCylinder 34 = .ok (.ifCond .eq 16, 3) := by decide +kernel
theorem dX8_setCylinder_37 : decode cX8_setCylinder 37 = .ok (.iload 4, 2) := by decide +kernel
theorem dX8_setCylinder_39 : decode cX8_setCylinder 39 = .ok (.i2l, 1) := by decide +kernel
theorem dX8_setCylinder_40 : decode cX8_setCylinder 40 = .ok (.lconst 0, 1) := by decide +kernel
theorem dX8_setCylinder_41 : decode cX8_setCylinder 41 = .ok (.ldc2_w 68, 3) := by decide +kernel
theorem dX8_setCylinder_44 : decode cX8_setCylinder 44 = .ok (.invokestatic 40, 3) := by decide +kernel
theorem dX8_setCylinder_47 : decode cX8_setCylinder 47 = .ok (.ifCond .ne 9, 3) := by decide +kernel
theorem dX8_setCylinder_50 : decode cX8_setCylinder 50 = .ok (.aload_n 0, 1) := by decide +kernel
theorem dX8_setCylinder_51 : decode cX8_setCylinder 51 = .ok (.iconst 2, 1) := by decide +kernel
theorem dX8_setCylinder_52 : decode cX8_setCylinder 52 = .ok (.invokevirtual 55, 3) := by decide +kernel
theorem dX8_setCylinder_55 : decode cX8_setCylinder 55 = .ok (.ireturn, 1) := by decide +kernel
theorem dX8_setCylinder_56 : decode cX8_setCylinder 56 = .ok (.aload_n 0, 1) := by decide +kernel
theorem dX8_setCylinder_57 : decode cX8_setCylinder 57 = .ok (.invokevirtual 59, 3) := by decide +kernel
theorem dX8_setCylinder_60 : decode cX8_setCylinder 60 = .ok (.aload_n 0, 1) := by decide +kernel
theorem dX8_setCylinder_61 : decode cX8_setCylinder 61 = .ok (.getfield 7, 3) := by decide +kernel
theorem dX8_setCylinder_64 : decode cX8_setCylinder 64 = .ok (.bipush 21, 2) := by decide +kernel
theorem dX8_setCylinder_66 : decode cX8_setCylinder 66 = .ok (.bipush 6, 2) := by decide +kernel
theorem dX8_setCylinder_68 : decode cX8_setCylinder 68 = .ok (.iload_n 1, 1) := by decide +kernel
theorem dX8_setCylinder_69 : decode cX8_setCylinder 69 = .ok (.imul, 1) := by decide +kernel
theorem dX8_setCylinder_70 : decode cX8_setCylinder 70 = .ok (.iadd, 1) := by decide +kernel
theorem dX8_setCylinder_71 : decode cX8_setCylinder 71 = .ok (.iconst 1, 1) := by decide +kernel
theorem dX8_setCylinder_72 : decode cX8_setCylinder 72 = .ok (.iadd, 1) := by decide +kernel
theorem dX8_setCylinder_73 : decode cX8_setCylinder 73 = .ok (.iload_n 2, 1) := by decide +kernel
theorem dX8_setCylinder_74 : decode cX8_setCylinder 74 = .ok (.iastore, 1) := by decide +kernel
theorem dX8_setCylinder_75 : decode cX8_setCylinder 75 = .ok (.aload_n 0, 1) := by decide +kernel
theorem dX8_setCylinder_76 : decode cX8_setCylinder 76 = .ok (.getfield 7, 3) := by decide +kernel
theorem dX8_setCylinder_79 : decode cX8_setCylinder 79 = .ok (.bipush 21, 2) := by decide +kernel
theorem dX8_setCylinder_81 : decode cX8_setCylinder 81 = .ok (.bipush 6, 2) := by decide +kernel
theorem dX8_setCylinder_83 : decode cX8_setCylinder 83 = .ok (.iload_n 1, 1) := by decide +kernel
theorem dX8_setCylinder_84 : decode cX8_setCylinder 84 = .ok (.imul, 1) := by decide +kernel
theorem dX8_setCylinder_85 : decode cX8_setCylinder 85 = .ok (.iadd, 1) := by decide +kernel
theorem dX8_setCylinder_86 : decode cX8_setCylinder 86 = .ok (.iconst 2, 1) := by decide +kernel
theorem dX8_setCylinder_87 : decode cX8_setCylinder 87 = .ok (.iadd, 1) := by decide +kernel
theorem dX8_setCylinder_88 : decode cX8_setCylinder 88 = .ok (.iload_n 3, 1) := by decide +kernel
theorem dX8_setCylinder_89 : decode cX8_setCylinder 89 = .ok (.iastore, 1) := by decide +kernel
theorem dX8_setCylinder_90 : decode cX8_setCylinder 90 = .ok (.aload_n 0, 1) := by decide +kernel
theorem dX8_setCylinder_91 : decode cX8_setCylinder 91 = .ok (.getfield 7, 3) := by decide +kernel
theorem dX8_setCylinder_94 : decode cX8_setCylinder 94 = .ok (.bipush 21, 2) := by decide +kernel
theorem dX8_setCylinder_96 : decode cX8_setCylinder 96 = .ok (.bipush 6, 2) := by decide +kernel
theorem dX8_setCylinder_98 : decode cX8_setCylinder 98 = .ok (.iload_n 1, 1) := by decide +kernel
theorem dX8_setCylinder_99 : decode cX8_setCylinder 99 = .ok (.imul, 1) := by decide +kernel
theorem dX8_setCylinder_100 : decode cX8_setCylinder 100 = .ok (.iadd, 1) := by decide +kernel
theorem dX8_setCylinder_101 : decode cX8_setCylinder 101 = .ok (.iconst 3, 1) := by decide +kernel
theorem dX8_setCylinder_102 : decode cX8_setCylinder 102 = .ok (.iadd, 1) := by decide +kernel
theorem dX8_setCylinder_103 : decode cX8_setCylinder 103 = .ok (.iload 4, 2) := by decide +kernel
theorem dX8_setCylinder_105 : decode cX8_setCylinder 105 = .ok (.iastore, 1) := by decide +kernel
theorem dX8_setCylinder_106 : decode cX8_setCylinder 106 = .ok (.aload_n 0, 1) := by decide +kernel
theorem dX8_setCylinder_107 : decode cX8_setCylinder 107 = .ok (.aload_n 0, 1) := by decide +kernel
theorem dX8_setCylinder_108 : decode cX8_setCylinder 108 = .ok (.iload_n 1, 1) := by decide +kernel
theorem dX8_setCylinder_109 : decode cX8_setCylinder 109 = .ok (.invokevirtual 76, 3) := by decide +kernel
theorem dX8_setCylinder_112 : decode cX8_setCylinder 112 = .ok (.invokevirtual 65, 3) := by decide +kernel
theorem dX8_setCylinder_115 : decode cX8_setCylinder 115 = .ok (.ireturn, 1) := by decide +kernel
theorem dX8_letsOff_0 : decode cX8_letsOff 0 = .ok (.aload_n 0, 1) := by decide +kernel
theorem dX8_letsOff_1 : decode cX8_letsOff 1 = .ok (.getfield 7, 3) := by decide +kernel
theorem dX8_letsOff_4 : decode cX8_letsOff 4 = .ok (.iconst 5, 1) := by decide +kernel
theorem dX8_letsOff_5 : decode cX8_letsOff 5 = .ok (.iaload, 1) := by decide +kernel
theorem dX8_letsOff_6 : decode cX8_letsOff 6 = .ok (.aload_n 0, 1) := by decide +kernel
theorem dX8_letsOff_7 : decode cX8_letsOff 7 = .ok (.getfield 7, 3) := by decide +kernel
theorem dX8_letsOff_10 : decode cX8_letsOff 10 = .ok (.bipush 6, 2) := by decide +kernel
theorem dX8_letsOff_12 : decode cX8_letsOff 12 = .ok (.iaload, 1) := by decide +kernel
theorem dX8_letsOff_13 : decode cX8_letsOff 13 = .ok (.isub, 1) := by decide +kernel
theorem dX8_letsOff_14 : decode cX8_letsOff 14 = .ok (.istore_n 1, 1) := by decide +kernel
theorem dX8_letsOff_15 : decode cX8_letsOff 15 = .ok (.iload_n 1, 1) := by decide +kernel
theorem dX8_letsOff_16 : decode cX8_letsOff 16 = .ok (.ifCond .le 24, 3) := by decide +kernel
theorem dX8_letsOff_19 : decode cX8_letsOff 19 = .ok (.aload_n 0, 1) := by decide +kernel
theorem dX8_letsOff_20 : decode cX8_letsOff 20 = .ok (.getfield 7, 3) := by decide +kernel
theorem dX8_letsOff_23 : decode cX8_letsOff 23 = .ok (.iconst 5, 1) := by decide +kernel
theorem dX8_letsOff_24 : decode cX8_letsOff 24 = .ok (.dup2, 1) := by decide +kernel
theorem dX8_letsOff_25 : decode cX8_letsOff 25 = .ok (.iaload, 1) := by decide +kernel
theorem dX8_letsOff_26 : decode cX8_letsOff 26 = .ok (.iload_n 1, 1) := by decide +kernel
theorem dX8_letsOff_27 : decode cX8_letsOff 27 = .ok (.isub, 1) := by decide +kernel
theorem dX8_letsOff_28 : decode cX8_letsOff 28 = .ok (.iastore, 1) := by decide +kernel
theorem dX8_letsOff_29 : decode cX8_letsOff 29 = .ok (.aload_n 0, 1) := by decide +kernel
theorem dX8_letsOff_30 : decode cX8_letsOff 30 = .ok (.getfield 7, 3) := by decide +kernel
theorem dX8_letsOff_33 : decode cX8_letsOff 33 = .ok (.bipush 13, 2) := by decide +kernel
theorem dX8_letsOff_35 : decode cX8_letsOff 35 = .ok (.dup2, 1) := by decide +kernel
theorem dX8_letsOff_36 : decode cX8_letsOff 36 = .ok (.iaload, 1) := by decide +kernel
theorem dX8_letsOff_37 : decode cX8_letsOff 37 = .ok (.iload_n 1, 1) := by decide +kernel
theorem dX8_letsOff_38 : decode cX8_letsOff 38 = .ok (.iadd, 1) := by decide +kernel
theorem dX8_letsOff_39 : decode cX8_letsOff 39 = .ok (.iastore, 1) := by decide +kernel
theorem dX8_letsOff_40 : decode cX8_letsOff 40 = .ok (.return_, 1) := by decide +kernel
theorem dX8_setAir_0 : decode cX8_setAir 0 = .ok (.iload_n 1, 1) := by decide +kernel
theorem dX8_setAir_1 : decode cX8_setAir 1 = .ok (.i2l, 1) := by decide +kernel
theorem dX8_setAir_2 : decode cX8_setAir 2 = .ok (.ldc2_w 79, 3) := by decide +kernel
theorem dX8_setAir_5 : decode cX8_setAir 5 = .ok (.ldc2_w 81, 3) := by decide +kernel
theorem dX8_setAir_8 : decode cX8_setAir 8 = .ok (.invokestatic 40, 3) := by decide +kernel
theorem dX8_setAir_11 : decode cX8_setAir 11 = .ok (.ifCond .eq 15, 3) := by decide +kernel
theorem dX8_setAir_14 : decode cX8_setAir 14 = .ok (.iload_n 2, 1) := by decide +kernel
theorem dX8_setAir_15 : decode cX8_setAir 15 = .ok (.i2l, 1) := by decide +kernel
theorem dX8_setAir_16 : decode cX8_setAir 16 = .ok (.lconst 0, 1) := by decide +kernel
theorem dX8_setAir_17 : decode cX8_setAir 17 = .ok (.ldc2_w 83, 3) := by decide +kernel
theorem dX8_setAir_20 : decode cX8_setAir 20 = .ok (.invokestatic 40, 3) := by decide +kernel
theorem dX8_setAir_23 : decode cX8_setAir 23 = .ok (.ifCond .ne 9, 3) := by decide +kernel
theorem dX8_setAir_26 : decode cX8_setAir 26 = .ok (.aload_n 0, 1) := by decide +kernel
theorem dX8_setAir_27 : decode cX8_setAir 27 = .ok (.iconst 1, 1) := by decide +kernel
theorem dX8_setAir_28 : decode cX8_setAir 28 = .ok (.invokevirtual 55, 3) := by decide +kernel
theorem dX8_setAir_31 : decode cX8_setAir 31 = .ok (.ireturn, 1) := by decide +kernel
theorem dX8_setAir_32 : decode cX8_setAir 32 = .ok (.aload_n 0, 1) := by decide +kernel
theorem dX8_setAir_33 : decode cX8_setAir 33 = .ok (.invokevirtual 59, 3) := by decide +kernel
theorem dX8_setAir_36 : decode cX8_setAir 36 = .ok (.aload_n 0, 1) := by decide +kernel
theorem dX8_setAir_37 : decode cX8_setAir 37 = .ok (.getfield 7, 3) := by decide +kernel
theorem dX8_setAir_40 : decode cX8_setAir 40 = .ok (.bipush 6, 2) := by decide +kernel
theorem dX8_setAir_42 : decode cX8_setAir 42 = .ok (.iload_n 1, 1) := by decide +kernel
theorem dX8_setAir_43 : decode cX8_setAir 43 = .ok (.iastore, 1) := by decide +kernel
theorem dX8_setAir_44 : decode cX8_setAir 44 = .ok (.aload_n 0, 1) := by decide +kernel
theorem dX8_setAir_45 : decode cX8_setAir 45 = .ok (.getfield 7, 3) := by decide +kernel
theorem dX8_setAir_48 : decode cX8_setAir 48 = .ok (.bipush 7, 2) := by decide +kernel
theorem dX8_setAir_50 : decode cX8_setAir 50 = .ok (.iload_n 2, 1) := by decide +kernel
theorem dX8_setAir_51 : decode cX8_setAir 51 = .ok (.iastore, 1) := by decide +kernel
theorem dX8_setAir_52 : decode cX8_setAir 52 = .ok (.aload_n 0, 1) := by decide +kernel
theorem dX8_setAir_53 : decode cX8_setAir 53 = .ok (.invokevirtual 85, 3) := by decide +kernel
theorem dX8_setAir_56 : decode cX8_setAir 56 = .ok (.aload_n 0, 1) := by decide +kernel
theorem dX8_setAir_57 : decode cX8_setAir 57 = .ok (.aload_n 0, 1) := by decide +kernel
theorem dX8_setAir_58 : decode cX8_setAir 58 = .ok (.getfield 7, 3) := by decide +kernel
theorem dX8_setAir_61 : decode cX8_setAir 61 = .ok (.iconst 5, 1) := by decide +kernel
theorem dX8_setAir_62 : decode cX8_setAir 62 = .ok (.iaload, 1) := by decide +kernel
theorem dX8_setAir_63 : decode cX8_setAir 63 = .ok (.invokevirtual 65, 3) := by decide +kernel
theorem dX8_setAir_66 : decode cX8_setAir 66 = .ok (.ireturn, 1) := by decide +kernel
theorem dX8_addGuard_0 : decode cX8_addGuard 0 = .ok (.iload_n 1, 1) := by decide +kernel
theorem dX8_addGuard_1 : decode cX8_addGuard 1 = .ok (.invokestatic 48, 3) := by decide +kernel
theorem dX8_addGuard_4 : decode cX8_addGuard 4 = .ok (.ifCond .eq 10, 3) := by decide +kernel
theorem dX8_addGuard_7 : decode cX8_addGuard 7 = .ok (.iload_n 2, 1) := by decide +kernel
theorem dX8_addGuard_8 : decode cX8_addGuard 8 = .ok (.invokestatic 48, 3) := by decide +kernel
theorem dX8_addGuard_11 : decode cX8_addGuard 11 = .ok (.ifCond .ne 9, 3) := by decide +kernel
theorem dX8_addGuard_14 : decode cX8_addGuard 14 = .ok (.aload_n 0, 1) := by decide +kernel
theorem dX8_addGuard_15 : decode cX8_addGuard 15 = .ok (.iconst 1, 1) := by decide +kernel
theorem dX8_addGuard_16 : decode cX8_addGuard 16 = .ok (.invokevirtual 55, 3) := by decide +kernel
theorem dX8_addGuard_19 : decode cX8_addGuard 19 = .ok (.ireturn, 1) := by decide +kernel
theorem dX8_addGuard_20 : decode cX8_addGuard 20 = .ok (.iload_n 1, 1) := by decide +kernel
theorem dX8_addGuard_21 : decode cX8_addGuard 21 = .ok (.iload_n 2, 1) := by decide +kernel
theorem dX8_addGuard_22 : decode cX8_addGuard 22 = .ok (.if_icmp .eq 15, 3) := by decide +kernel
theorem dX8_addGuard_25 : decode cX8_addGuard 25 = .ok (.iload_n 3, 1) := by decide +kernel
theorem dX8_addGuard_26 : decode cX8_addGuard 26 = .ok (.i2l, 1) := by decide +kernel
theorem dX8_addGuard_27 : decode cX8_addGuard 27 = .ok (.lconst 1, 1) := by decide +kernel
theorem dX8_addGuard_28 : decode cX8_addGuard 28 = .ok (.ldc2_w 88, 3) := by decide +kernel
theorem dX8_addGuard_31 : decode cX8_addGuard 31 = .ok (.invokestatic 40, 3) := by decide +kernel
theorem dX8_addGuard_34 : decode cX8_addGuard 34 = .ok (.ifCond .ne 9, 3) := by decide +kernel
theorem dX8_addGuard_37 : decode cX8_addGuard 37 = .ok (.aload_n 0, 1) := by decide +kernel
theorem dX8_addGuard_38 : decode cX8_addGuard 38 = .ok (.iconst 2, 1) := by decide +kernel
theorem dX8_addGuard_39 : decode cX8_addGuard 39 = .ok (.invokevirtual 55, 3) := by decide +kernel
theorem dX8_addGuard_42 : decode cX8_addGuard 42 = .ok (.ireturn, 1) := by decide +kernel
theorem dX8_addGuard_43 : decode cX8_addGuard 43 = .ok (.aload_n 0, 1) := by decide +kernel
theorem dX8_addGuard_44 : decode cX8_addGuard 44 = .ok (.getfield 7, 3) := by decide +kernel
theorem dX8_addGuard_47 : decode cX8_addGuard 47 = .ok (.bipush 8, 2) := by decide +kernel
theorem dX8_addGuard_49 : decode cX8_addGuard 49 = .ok (.iaload, 1) := by decide +kernel
theorem dX8_addGuard_50 : decode cX8_addGuard 50 = .ok (.iconst 4, 1) := by decide +kernel
theorem dX8_addGuard_51 : decode cX8_addGuard 51 = .ok (.if_icmp .ne 9, 3) := by decide +kernel
theorem dX8_addGuard_54 : decode cX8_addGuard 54 = .ok (.aload_n 0, 1) := by decide +kernel
theorem dX8_addGuard_55 : decode cX8_addGuard 55 = .ok (.iconst 3, 1) := by decide +kernel
theorem dX8_addGuard_56 : decode cX8_addGuard 56 = .ok (.invokevirtual 55, 3) := by decide +kernel
theorem dX8_addGuard_59 : decode cX8_addGuard 59 = .ok (.ireturn, 1) := by decide +kernel
theorem dX8_addGuard_60 : decode cX8_addGuard 60 = .ok (.aload_n 0, 1) := by decide +kernel
theorem dX8_addGuard_61 : decode cX8_addGuard 61 = .ok (.invokevirtual 59, 3) := by decide +kernel
theorem dX8_addGuard_64 : decode cX8_addGuard 64 = .ok (.bipush 51, 2) := by decide +kernel
theorem dX8_addGuard_66 : decode cX8_addGuard 66 = .ok (.iconst 3, 1) := by decide +kernel
theorem dX8_addGuard_67 : decode cX8_addGuard 67 = .ok (.aload_n 0, 1) := by decide +kernel
theorem dX8_addGuard_68 : decode cX8_addGuard 68 = .ok (.getfield 7, 3) := by decide +kernel
theorem dX8_addGuard_71 : decode cX8_addGuard 71 = .ok (.bipush 8, 2) := by decide +kernel
theorem dX8_addGuard_73 : decode cX8_addGuard 73 = .ok (.iaload, 1) := by decide +kernel
theorem dX8_addGuard_74 : decode cX8_addGuard 74 = .ok (.imul, 1) := by decide +kernel
theorem dX8_addGuard_75 : decode cX8_addGuard 75 = .ok (.iadd, 1) := by decide +kernel
theorem dX8_addGuard_76 : decode cX8_addGuard 76 = .ok (.istore 4, 2) := by decide +kernel
theorem dX8_addGuard_78 : decode cX8_addGuard 78 = .ok (.aload_n 0, 1) := by decide +kernel
theorem dX8_addGuard_79 : decode cX8_addGuard 79 = .ok (.getfield 7, 3) := by decide +kernel
theorem dX8_addGuard_82 : decode cX8_addGuard 82 = .ok (.iload 4, 2) := by decide +kernel
theorem dX8_addGuard_84 : decode cX8_addGuard 84 = .ok (.iload_n 1, 1) := by decide +kernel
theorem dX8_addGuard_85 : decode cX8_addGuard 85 = .ok (.iastore, 1) := by decide +kernel
theorem dX8_addGuard_86 : decode cX8_addGuard 86 = .ok (.aload_n 0, 1) := by decide +kernel
theorem dX8_addGuard_87 : decode cX8_addGuard 87 = .ok (.getfield 7, 3) := by decide +kernel
theorem dX8_addGuard_90 : decode cX8_addGuard 90 = .ok (.iload 4, 2) := by decide +kernel
theorem dX8_addGuard_92 : decode cX8_addGuard 92 = .ok (.iconst 1, 1) := by decide +kernel
theorem dX8_addGuard_93 : decode cX8_addGuard 93 = .ok (.iadd, 1) := by decide +kernel
theorem dX8_addGuard_94 : decode cX8_addGuard 94 = .ok (.iload_n 2, 1) := by decide +kernel
theorem dX8_addGuard_95 : decode cX8_addGuard 95 = .ok (.iastore, 1) := by decide +kernel
theorem dX8_addGuard_96 : decode cX8_addGuard 96 = .ok (.aload_n 0, 1) := by decide +kernel
theorem dX8_addGuard_97 : decode cX8_addGuard 97 = .ok (.getfield 7, 3) := by decide +kernel
theorem dX8_addGuard_100 : decode cX8_addGuard 100 = .ok (.iload 4, 2) := by decide +kernel
theorem dX8_addGuard_102 : decode cX8_addGuard 102 = .ok (.iconst 2, 1) := by decide +kernel
theorem dX8_addGuard_103 : decode cX8_addGuard 103 = .ok (.iadd, 1) := by decide +kernel
theorem dX8_addGuard_104 : decode cX8_addGuard 104 = .ok (.iload_n 3, 1) := by decide +kernel
theorem dX8_addGuard_105 : decode cX8_addGuard 105 = .ok (.iastore, 1) := by decide +kernel
theorem dX8_addGuard_106 : decode cX8_addGuard 106 = .ok (.aload_n 0, 1) := by decide +kernel
theorem dX8_addGuard_107 : decode cX8_addGuard 107 = .ok (.getfield 7, 3) := by decide +kernel
theorem dX8_addGuard_110 : decode cX8_addGuard 110 = .ok (.bipush 8, 2) := by decide +kernel
theorem dX8_addGuard_112 : decode cX8_addGuard 112 = .ok (.dup2, 1) := by decide +kernel
theorem dX8_addGuard_113 : decode cX8_addGuard 113 = .ok (.iaload, 1) := by decide +kernel
theorem dX8_addGuard_114 : decode cX8_addGuard 114 = .ok (.iconst 1, 1) := by decide +kernel
theorem dX8_addGuard_115 : decode cX8_addGuard 115 = .ok (.iadd, 1) := by decide +kernel
theorem dX8_addGuard_116 : decode cX8_addGuard 116 = .ok (.iastore, 1) := by decide +kernel
theorem dX8_addGuard_117 : decode cX8_addGuard 117 = .ok (.aload_n 0, 1) := by decide +kernel
theorem dX8_addGuard_118 : decode cX8_addGuard 118 = .ok (.aload_n 0, 1) := by decide +kernel
theorem dX8_addGuard_119 : decode cX8_addGuard 119 = .ok (.getfield 7, 3) := by decide +kernel
theorem dX8_addGuard_122 : decode cX8_addGuard 122 = .ok (.bipush 8, 2) := by decide +kernel
theorem dX8_addGuard_124 : decode cX8_addGuard 124 = .ok (.iaload, 1) := by decide +kernel
theorem dX8_addGuard_125 : decode cX8_addGuard 125 = .ok (.iconst 1, 1) := by decide +kernel
theorem dX8_addGuard_126 : decode cX8_addGuard 126 = .ok (.isub, 1) := by decide +kernel
theorem dX8_addGuard_127 : decode cX8_addGuard 127 = .ok (.invokevirtual 65, 3) := by decide +kernel
theorem dX8_addGuard_130 : decode cX8_addGuard 130 = .ok (.ireturn, 1) := by decide +kernel
theorem dX8_removeGuard_0 : decode cX8_removeGuard 0 = .ok (.aload_n 0, 1) := by decide +kernel
theorem dX8_removeGuard_1 : decode cX8_removeGuard 1 = .ok (.iload_n 1, 1) := by decide +kernel
theorem dX8_removeGuard_2 : decode cX8_removeGuard 2 = .ok (.invokevirtual 90, 3) := by decide +kernel
theorem dX8_removeGuard_5 : decode cX8_removeGuard 5 = .ok (.ifCond .ne 9, 3) := by decide +kernel
theorem dX8_removeGuard_8 : decode cX8_removeGuard 8 = .ok (.aload_n 0, 1) := by decide +kernel
theorem dX8_removeGuard_9 : decode cX8_removeGuard 9 = .ok (.iconst 1, 1) := by decide +kernel
theorem dX8_removeGuard_10 : decode cX8_removeGuard 10 = .ok (.invokevirtual 55, 3) := by decide +kernel
theorem dX8_removeGuard_13 : decode cX8_removeGuard 13 = .ok (.ireturn, 1) := by decide +kernel
theorem dX8_removeGuard_14 : decode cX8_removeGuard 14 = .ok (.aload_n 0, 1) := by decide +kernel
theorem dX8_removeGuard_15 : decode cX8_removeGuard 15 = .ok (.invokevirtual 59, 3) := by decide +kernel
theorem dX8_removeGuard_18 : decode cX8_removeGuard 18 = .ok (.aload_n 0, 1) := by decide +kernel
theorem dX8_removeGuard_19 : decode cX8_removeGuard 19 = .ok (.getfield 7, 3) := by decide +kernel
theorem dX8_removeGuard_22 : decode cX8_removeGuard 22 = .ok (.bipush 8, 2) := by decide +kernel
theorem dX8_removeGuard_24 : decode cX8_removeGuard 24 = .ok (.dup2, 1) := by decide +kernel
theorem dX8_removeGuard_25 : decode cX8_removeGuard 25 = .ok (.iaload, 1) := by decide +kernel
theorem dX8_removeGuard_26 : decode cX8_removeGuard 26 = .ok (.iconst 1, 1) := by decide +kernel
theorem dX8_removeGuard_27 : decode cX8_removeGuard 27 = .ok (.isub, 1) := by decide +kernel
theorem dX8_removeGuard_28 : decode cX8_removeGuard 28 = .ok (.iastore, 1) := by decide +kernel
theorem dX8_removeGuard_29 : decode cX8_removeGuard 29 = .ok (.iconst 3, 1) := by decide +kernel
theorem dX8_removeGuard_30 : decode cX8_removeGuard 30 = .ok (.iload_n 1, 1) := by decide +kernel
theorem dX8_removeGuard_31 : decode cX8_removeGuard 31 = .ok (.imul, 1) := by decide +kernel
theorem dX8_removeGuard_32 : decode cX8_removeGuard 32 = .ok (.istore_n 2, 1) := by decide +kernel
theorem dX8_removeGuard_33 : decode cX8_removeGuard 33 = .ok (.iload_n 2, 1) := by decide +kernel
theorem dX8_removeGuard_34 : decode cX8_removeGuard 34 = .ok (.iconst 3, 1) := by decide +kernel
theorem dX8_removeGuard_35 : decode cX8_removeGuard 35 = .ok (.aload_n 0, 1) := by decide +kernel
theorem dX8_removeGuard_36 : decode cX8_removeGuard 36 = .ok (.getfield 7, 3) := by decide +kernel
theorem dX8_removeGuard_39 : decode cX8_removeGuard 39 = .ok (.bipush 8, 2) := by decide +kernel
theorem dX8_removeGuard_41 : decode cX8_removeGuard 41 = .ok (.iaload, 1) := by decide +kernel
theorem dX8_removeGuard_42 : decode cX8_removeGuard 42 = .ok (.imul, 1) := by decide +kernel
theorem dX8_removeGuard_43 : decode cX8_removeGuard 43 = .ok (.if_icmp .ge 29, 3) := by decide +kernel
theorem dX8_removeGuard_46 : decode cX8_removeGuard 46 = .ok (.aload_n 0, 1) := by decide +kernel
theorem dX8_removeGuard_47 : decode cX8_removeGuard 47 = .ok (.getfield 7, 3) := by decide +kernel
theorem dX8_removeGuard_50 : decode cX8_removeGuard 50 = .ok (.bipush 51, 2) := by decide +kernel
theorem dX8_removeGuard_52 : decode cX8_removeGuard 52 = .ok (.iload_n 2, 1) := by decide +kernel
theorem dX8_removeGuard_53 : decode cX8_removeGuard 53 = .ok (.iadd, 1) := by decide +kernel
theorem dX8_removeGuard_54 : decode cX8_removeGuard 54 = .ok (.aload_n 0, 1) := by decide +kernel
theorem dX8_removeGuard_55 : decode cX8_removeGuard 55 = .ok (.getfield 7, 3) := by decide +kernel
theorem dX8_removeGuard_58 : decode cX8_removeGuard 58 = .ok (.bipush 51, 2) := by decide +kernel
theorem dX8_removeGuard_60 : decode cX8_removeGuard 60 = .ok (.iload_n 2, 1) := by decide +kernel
theorem dX8_removeGuard_61 : decode cX8_removeGuard 61 = .ok (.iadd, 1) := by decide +kernel
theorem dX8_removeGuard_62 : decode cX8_removeGuard 62 = .ok (.iconst 3, 1) := by decide +kernel
theorem dX8_removeGuard_63 : decode cX8_removeGuard 63 = .ok (.iadd, 1) := by decide +kernel
theorem dX8_removeGuard_64 : decode cX8_removeGuard 64 = .ok (.iaload, 1) := by decide +kernel
theorem dX8_removeGuard_65 : decode cX8_removeGuard 65 = .ok (.iastore, 1) := by decide +kernel
theorem dX8_removeGuard_66 : decode cX8_removeGuard 66 = .ok (.iinc 2 1, 3) := by decide +kernel
theorem dX8_removeGuard_69 : decode cX8_removeGuard 69 = .ok (.goto (-36), 3) := by decide +kernel
theorem dX8_removeGuard_72 : decode cX8_removeGuard 72 = .ok (.iconst 0, 1) := by decide +kernel
theorem dX8_removeGuard_73 : decode cX8_removeGuard 73 = .ok (.istore_n 2, 1) := by decide +kernel
theorem dX8_removeGuard_74 : decode cX8_removeGuard 74 = .ok (.iload_n 2, 1) := by decide +kernel
theorem dX8_removeGuard_75 : decode cX8_removeGuard 75 = .ok (.iconst 3, 1) := by decide +kernel
theorem dX8_removeGuard_76 : decode cX8_removeGuard 76 = .ok (.if_icmp .ge 29, 3) := by decide +kernel
theorem dX8_removeGuard_79 : decode cX8_removeGuard 79 = .ok (.aload_n 0, 1) := by decide +kernel
theorem dX8_removeGuard_80 : decode cX8_removeGuard 80 = .ok (.getfield 7, 3) := by decide +kernel
theorem dX8_removeGuard_83 : decode cX8_removeGuard 83 = .ok (.bipush 51, 2) := by decide +kernel
theorem dX8_removeGuard_85 : decode cX8_removeGuard 85 = .ok (.iconst 3, 1) := by decide +kernel
theorem dX8_removeGuard_86 : decode cX8_removeGuard 86 = .ok (.aload_n 0, 1) := by decide +kernel
theorem dX8_removeGuard_87 : decode cX8_removeGuard 87 = .ok (.getfield 7, 3) := by decide +kernel
theorem dX8_removeGuard_90 : decode cX8_removeGuard 90 = .ok (.bipush 8, 2) := by decide +kernel
theorem dX8_removeGuard_92 : decode cX8_removeGuard 92 = .ok (.iaload, 1) := by decide +kernel
theorem dX8_removeGuard_93 : decode cX8_removeGuard 93 = .ok (.imul, 1) := by decide +kernel
theorem dX8_removeGuard_94 : decode cX8_removeGuard 94 = .ok (.iadd, 1) := by decide +kernel
theorem dX8_removeGuard_95 : decode cX8_removeGuard 95 = .ok (.iload_n 2, 1) := by decide +kernel
theorem dX8_removeGuard_96 : decode cX8_removeGuard 96 = .ok (.iadd, 1) := by decide +kernel
theorem dX8_removeGuard_97 : decode cX8_removeGuard 97 = .ok (.iconst 0, 1) := by decide +kernel
theorem dX8_removeGuard_98 : decode cX8_removeGuard 98 = .ok (.iastore, 1) := by decide +kernel
theorem dX8_removeGuard_99 : decode cX8_removeGuard 99 = .ok (.iinc 2 1, 3) := by decide +kernel
theorem dX8_removeGuard_102 : decode cX8_removeGuard 102 = .ok (.goto (-28), 3) := by decide +kernel
theorem dX8_removeGuard_105 : decode cX8_removeGuard 105 = .ok (.aload_n 0, 1) := by decide +kernel
theorem dX8_removeGuard_106 : decode cX8_removeGuard 106 = .ok (.aload_n 0, 1) := by decide +kernel
theorem dX8_removeGuard_107 : decode cX8_removeGuard 107 = .ok (.getfield 7, 3) := by decide +kernel
theorem dX8_removeGuard_110 : decode cX8_removeGuard 110 = .ok (.bipush 8, 2) := by decide +kernel
theorem dX8_removeGuard_112 : decode cX8_removeGuard 112 = .ok (.iaload, 1) := by decide +kernel
theorem dX8_removeGuard_113 : decode cX8_removeGuard 113 = .ok (.invokevirtual 65, 3) := by decide +kernel
theorem dX8_removeGuard_116 : decode cX8_removeGuard 116 = .ok (.ireturn, 1) := by decide +kernel
theorem dX8_turn_0 : decode cX8_turn 0 = .ok (.aload_n 0, 1) := by decide +kernel
theorem dX8_turn_1 : decode cX8_turn 1 = .ok (.iload_n 1, 1) := by decide +kernel
theorem dX8_turn_2 : decode cX8_turn 2 = .ok (.invokevirtual 52, 3) := by decide +kernel
theorem dX8_turn_5 : decode cX8_turn 5 = .ok (.ifCond .ne 9, 3) := by decide +kernel
theorem dX8_turn_8 : decode cX8_turn 8 = .ok (.aload_n 0, 1) := by decide +kernel
theorem dX8_turn_9 : decode cX8_turn 9 = .ok (.iconst 1, 1) := by decide +kernel
theorem dX8_turn_10 : decode cX8_turn 10 = .ok (.invokevirtual 55, 3) := by decide +kernel
theorem dX8_turn_13 : decode cX8_turn 13 = .ok (.ireturn, 1) := by decide +kernel
theorem dX8_turn_14 : decode cX8_turn 14 = .ok (.aload_n 0, 1) := by decide +kernel
theorem dX8_turn_15 : decode cX8_turn 15 = .ok (.invokevirtual 59, 3) := by decide +kernel
theorem dX8_turn_18 : decode cX8_turn 18 = .ok (.aload_n 0, 1) := by decide +kernel
theorem dX8_turn_19 : decode cX8_turn 19 = .ok (.getfield 7, 3) := by decide +kernel
theorem dX8_turn_22 : decode cX8_turn 22 = .ok (.iconst 1, 1) := by decide +kernel
theorem dX8_turn_23 : decode cX8_turn 23 = .ok (.iaload, 1) := by decide +kernel
theorem dX8_turn_24 : decode cX8_turn 24 = .ok (.istore_n 2, 1) := by decide +kernel
theorem dX8_turn_25 : decode cX8_turn 25 = .ok (.aload_n 0, 1) := by decide +kernel
theorem dX8_turn_26 : decode cX8_turn 26 = .ok (.getfield 7, 3) := by decide +kernel
theorem dX8_turn_29 : decode cX8_turn 29 = .ok (.iconst 1, 1) := by decide +kernel
theorem dX8_turn_30 : decode cX8_turn 30 = .ok (.iload_n 1, 1) := by decide +kernel
theorem dX8_turn_31 : decode cX8_turn 31 = .ok (.iastore, 1) := by decide +kernel
theorem dX8_turn_32 : decode cX8_turn 32 = .ok (.aload_n 0, 1) := by decide +kernel
theorem dX8_turn_33 : decode cX8_turn 33 = .ok (.getfield 7, 3) := by decide +kernel
theorem dX8_turn_36 : decode cX8_turn 36 = .ok (.iconst 2, 1) := by decide +kernel
theorem dX8_turn_37 : decode cX8_turn 37 = .ok (.iconst 0, 1) := by decide +kernel
theorem dX8_turn_38 : decode cX8_turn 38 = .ok (.iastore, 1) := by decide +kernel
theorem dX8_turn_39 : decode cX8_turn 39 = .ok (.aload_n 0, 1) := by decide +kernel
theorem dX8_turn_40 : decode cX8_turn 40 = .ok (.iload_n 2, 1) := by decide +kernel
theorem dX8_turn_41 : decode cX8_turn 41 = .ok (.invokevirtual 65, 3) := by decide +kernel
theorem dX8_turn_44 : decode cX8_turn 44 = .ok (.ireturn, 1) := by decide +kernel
theorem dX8_holds_0 : decode cX8_holds 0 = .ok (.aload_n 0, 1) := by decide +kernel
theorem dX8_holds_1 : decode cX8_holds 1 = .ok (.aload_n 0, 1) := by decide +kernel
theorem dX8_holds_2 : decode cX8_holds 2 = .ok (.getfield 7, 3) := by decide +kernel
theorem dX8_holds_5 : decode cX8_holds 5 = .ok (.bipush 51, 2) := by decide +kernel
theorem dX8_holds_7 : decode cX8_holds 7 = .ok (.iconst 3, 1) := by decide +kernel
theorem dX8_holds_8 : decode cX8_holds 8 = .ok (.iload_n 1, 1) := by decide +kernel
theorem dX8_holds_9 : decode cX8_holds 9 = .ok (.imul, 1) := by decide +kernel
theorem dX8_holds_10 : decode cX8_holds 10 = .ok (.iadd, 1) := by decide +kernel
theorem dX8_holds_11 : decode cX8_holds 11 = .ok (.iconst 1, 1) := by decide +kernel
theorem dX8_holds_12 : decode cX8_holds 12 = .ok (.iadd, 1) := by decide +kernel
theorem dX8_holds_13 : decode cX8_holds 13 = .ok (.iaload, 1) := by decide +kernel
theorem dX8_holds_14 : decode cX8_holds 14 = .ok (.invokevirtual 76, 3) := by decide +kernel
theorem dX8_holds_17 : decode cX8_holds 17 = .ok (.aload_n 0, 1) := by decide +kernel
theorem dX8_holds_18 : decode cX8_holds 18 = .ok (.getfield 7, 3) := by decide +kernel
theorem dX8_holds_21 : decode cX8_holds 21 = .ok (.bipush 51, 2) := by decide +kernel
theorem dX8_holds_23 : decode cX8_holds 23 = .ok (.iconst 3, 1) := by decide +kernel
theorem dX8_holds_24 : decode cX8_holds 24 = .ok (.iload_n 1, 1) := by decide +kernel
theorem dX8_holds_25 : decode cX8_holds 25 = .ok (.imul, 1) := by decide +kernel
theorem dX8_holds_26 : decode cX8_holds 26 = .ok (.iadd, 1) := by decide +kernel
theorem dX8_holds_27 : decode cX8_holds 27 = .ok (.iconst 2, 1) := by decide +kernel
theorem dX8_holds_28 : decode cX8_holds 28 = .ok (.iadd, 1) := by decide +kernel
theorem dX8_holds_29 : decode cX8_holds 29 = .ok (.iaload, 1) := by decide +kernel
theorem dX8_holds_30 : decode cX8_holds 30 = .ok (.if_icmp .le 7, 3) := by decide +kernel
theorem dX8_holds_33 : decode cX8_holds 33 = .ok (.iconst 1, 1) := by decide +kernel
theorem dX8_holds_34 : decode cX8_holds 34 = .ok (.goto 4, 3) := by decide +kernel
theorem dX8_holds_37 : decode cX8_holds 37 = .ok (.iconst 0, 1) := by decide +kernel
theorem dX8_holds_38 : decode cX8_holds 38 = .ok (.ireturn, 1) := by decide +kernel
theorem dX8_mayMove_0 : decode cX8_mayMove 0 = .ok (.bipush 100, 2) := by decide +kernel
theorem dX8_mayMove_2 : decode cX8_mayMove 2 = .ok (.aload_n 0, 1) := by decide +kernel
theorem dX8_mayMove_3 : decode cX8_mayMove 3 = .ok (.iload_n 1, 1) := by decide +kernel
theorem dX8_mayMove_4 : decode cX8_mayMove 4 = .ok (.invokevirtual 76, 3) := by decide +kernel
theorem dX8_mayMove_7 : decode cX8_mayMove 7 = .ok (.isub, 1) := by decide +kernel
theorem dX8_mayMove_8 : decode cX8_mayMove 8 = .ok (.istore_n 2, 1) := by decide +kernel
theorem dX8_mayMove_9 : decode cX8_mayMove 9 = .ok (.iconst 0, 1) := by decide +kernel
theorem dX8_mayMove_10 : decode cX8_mayMove 10 = .ok (.istore_n 3, 1) := by decide +kernel
theorem dX8_mayMove_11 : decode cX8_mayMove 11 = .ok (.iload_n 3, 1) := by decide +kernel
theorem dX8_mayMove_12 : decode cX8_mayMove 12 = .ok (.aload_n 0, 1) := by decide +kernel
theorem dX8_mayMove_13 : decode cX8_mayMove 13 = .ok (.getfield 7, 3) := by decide +kernel
theorem dX8_mayMove_16 : decode cX8_mayMove 16 = .ok (.bipush 8, 2) := by decide +kernel
theorem dX8_mayMove_18 : decode cX8_mayMove 18 = .ok (.iaload, 1) := by decide +kernel
theorem dX8_mayMove_19 : decode cX8_mayMove 19 = .ok (.if_icmp .ge 79, 3) := by decide +kernel
theorem dX8_mayMove_22 : decode cX8_mayMove 22 = .ok (.aload_n 0, 1) := by decide +kernel
theorem dX8_mayMove_23 : decode cX8_mayMove 23 = .ok (.getfield 7, 3) := by decide +kernel
theorem dX8_mayMove_26 : decode cX8_mayMove 26 = .ok (.bipush 51, 2) := by decide +kernel
theorem dX8_mayMove_28 : decode cX8_mayMove 28 = .ok (.iconst 3, 1) := by decide +kernel
theorem dX8_mayMove_29 : decode cX8_mayMove 29 = .ok (.iload_n 3, 1) := by decide +kernel
theorem dX8_mayMove_30 : decode cX8_mayMove 30 = .ok (.imul, 1) := by decide +kernel
theorem dX8_mayMove_31 : decode cX8_mayMove 31 = .ok (.iadd, 1) := by decide +kernel
theorem dX8_mayMove_32 : decode cX8_mayMove 32 = .ok (.iaload, 1) := by decide +kernel
theorem dX8_mayMove_33 : decode cX8_mayMove 33 = .ok (.iload_n 1, 1) := by decide +kernel
theorem dX8_mayMove_34 : decode cX8_mayMove 34 = .ok (.if_icmp .ne 58, 3) := by decide +kernel
theorem dX8_mayMove_37 : decode cX8_mayMove 37 = .ok (.aload_n 0, 1) := by decide +kernel
theorem dX8_mayMove_38 : decode cX8_mayMove 38 = .ok (.iload_n 3, 1) := by decide +kernel
theorem dX8_mayMove_39 : decode cX8_mayMove 39 = .ok (.invokevirtual 93, 3) := by decide +kernel
theorem dX8_mayMove_42 : decode cX8_mayMove 42 = .ok (.ifCond .eq 50, 3) := by decide +kernel
theorem dX8_mayMove_45 : decode cX8_mayMove 45 = .ok (.aload_n 0, 1) := by decide +kernel
theorem dX8_mayMove_46 : decode cX8_mayMove 46 = .ok (.getfield 7, 3) := by decide +kernel
theorem dX8_mayMove_49 : decode cX8_mayMove 49 = .ok (.bipush 51, 2) := by decide +kernel
theorem dX8_mayMove_51 : decode cX8_mayMove 51 = .ok (.iconst 3, 1) := by decide +kernel
theorem dX8_mayMove_52 : decode cX8_mayMove 52 = .ok (.iload_n 3, 1) := by decide +kernel
theorem dX8_mayMove_53 : decode cX8_mayMove 53 = .ok (.imul, 1) := by decide +kernel
theorem dX8_mayMove_54 : decode cX8_mayMove 54 = .ok (.iadd, 1) := by decide +kernel
theorem dX8_mayMove_55 : decode cX8_mayMove 55 = .ok (.iconst 2, 1) := by decide +kernel
theorem dX8_mayMove_56 : decode cX8_mayMove 56 = .ok (.iadd, 1) := by decide +kernel
theorem dX8_mayMove_57 : decode cX8_mayMove 57 = .ok (.iaload, 1) := by decide +kernel
theorem dX8_mayMove_58 : decode cX8_mayMove 58 = .ok (.aload_n 0, 1) := by decide +kernel
theorem dX8_mayMove_59 : decode cX8_mayMove 59 = .ok (.iload_n 1, 1) := by decide +kernel
theorem dX8_mayMove_60 : decode cX8_mayMove 60 = .ok (.invokevirtual 76, 3) := by decide +kernel
theorem dX8_mayMove_63 : decode cX8_mayMove 63 = .ok (.isub, 1) := by decide +kernel
theorem dX8_mayMove_64 : decode cX8_mayMove 64 = .ok (.istore 4, 2) := by decide +kernel
theorem dX8_mayMove_66 : decode cX8_mayMove 66 = .ok (.iload 4, 2) := by decide +kernel
theorem dX8_mayMove_68 : decode cX8_mayMove 68 = .ok (.ifCond .ge 7, 3) := by decide +kernel
theorem dX8_mayMove_71 : decode cX8_mayMove 71 = .ok (.iconst 0, 1) := by decide +kernel
theorem dX8_mayMove_72 : decode cX8_mayMove 72 = .ok (.goto 5, 3) := by decide +kernel
theorem dX8_mayMove_75 : decode cX8_mayMove 75 = .ok (.iload 4, 2) := by decide +kernel
theorem dX8_mayMove_77 : decode cX8_mayMove 77 = .ok (.istore 4, 2) := by decide +kernel
theorem dX8_mayMove_79 : decode cX8_mayMove 79 = .ok (.iload 4, 2) := by decide +kernel
theorem dX8_mayMove_81 : decode cX8_mayMove 81 = .ok (.iload_n 2, 1) := by decide +kernel
theorem dX8_mayMove_82 : decode cX8_mayMove 82 = .ok (.if_icmp .ge 8, 3) := by decide +kernel
theorem dX8_mayMove_85 : decode cX8_mayMove 85 = .ok (.iload 4, 2) := by decide +kernel
theorem dX8_mayMove_87 : decode cX8_mayMove 87 = .ok (.goto 4, 3) := by decide +kernel
theorem dX8_mayMove_90 : decode cX8_mayMove 90 = .ok (.iload_n 2, 1) := by decide +kernel
theorem dX8_mayMove_91 : decode cX8_mayMove 91 = .ok (.istore_n 2, 1) := by decide +kernel
theorem dX8_mayMove_92 : decode cX8_mayMove 92 = .ok (.iinc 3 1, 3) := by decide +kernel
theorem dX8_mayMove_95 : decode cX8_mayMove 95 = .ok (.goto (-84), 3) := by decide +kernel
theorem dX8_mayMove_98 : decode cX8_mayMove 98 = .ok (.iload_n 2, 1) := by decide +kernel
theorem dX8_mayMove_99 : decode cX8_mayMove 99 = .ok (.ireturn, 1) := by decide +kernel
theorem dX8_moves_0 : decode cX8_moves 0 = .ok (.bipush 21, 2) := by decide +kernel
theorem dX8_moves_2 : decode cX8_moves 2 = .ok (.bipush 6, 2) := by decide +kernel
theorem dX8_moves_4 : decode cX8_moves 4 = .ok (.iload_n 1, 1) := by decide +kernel
theorem dX8_moves_5 : decode cX8_moves 5 = .ok (.imul, 1) := by decide +kernel
theorem dX8_moves_6 : decode cX8_moves 6 = .ok (.iadd, 1) := by decide +kernel
theorem dX8_moves_7 : decode cX8_moves 7 = .ok (.istore_n 2, 1) := by decide +kernel
theorem dX8_moves_8 : decode cX8_moves 8 = .ok (.aload_n 0, 1) := by decide +kernel
theorem dX8_moves_9 : decode cX8_moves 9 = .ok (.getfield 7, 3) := by decide +kernel
theorem dX8_moves_12 : decode cX8_moves 12 = .ok (.iload_n 2, 1) := by decide +kernel
theorem dX8_moves_13 : decode cX8_moves 13 = .ok (.iconst 2, 1) := by decide +kernel
theorem dX8_moves_14 : decode cX8_moves 14 = .ok (.iadd, 1) := by decide +kernel
theorem dX8_moves_15 : decode cX8_moves 15 = .ok (.iaload, 1) := by decide +kernel
theorem dX8_moves_16 : decode cX8_moves 16 = .ok (.istore_n 3, 1) := by decide +kernel
theorem dX8_moves_17 : decode cX8_moves 17 = .ok (.aload_n 0, 1) := by decide +kernel
theorem dX8_moves_18 : decode cX8_moves 18 = .ok (.iload_n 1, 1) := by decide +kernel
theorem dX8_moves_19 : decode cX8_moves 19 = .ok (.aload_n 0, 1) := by decide +kernel
theorem dX8_moves_20 : decode cX8_moves 20 = .ok (.getfield 7, 3) := by decide +kernel
theorem dX8_moves_23 : decode cX8_moves 23 = .ok (.iconst 1, 1) := by decide +kernel
theorem dX8_moves_24 : decode cX8_moves 24 = .ok (.iaload, 1) := by decide +kernel
theorem dX8_moves_25 : decode cX8_moves 25 = .ok (.invokevirtual 44, 3) := by decide +kernel
theorem dX8_moves_28 : decode cX8_moves 28 = .ok (.ifCond .ne 33, 3) := by decide +kernel
theorem dX8_moves_31 : decode cX8_moves 31 = .ok (.aload_n 0, 1) := by decide +kernel
theorem dX8_moves_32 : decode cX8_moves 32 = .ok (.getfield 7, 3) := by decide +kernel
theorem dX8_moves_35 : decode cX8_moves 35 = .ok (.iload_n 2, 1) := by decide +kernel
theorem dX8_moves_36 : decode cX8_moves 36 = .ok (.dup2, 1) := by decide +kernel
theorem dX8_moves_37 : decode cX8_moves 37 = .ok (.iaload, 1) := by decide +kernel
theorem dX8_moves_38 : decode cX8_moves 38 = .ok (.iload_n 3, 1) := by decide +kernel
theorem dX8_moves_39 : decode cX8_moves 39 = .ok (.aload_n 0, 1) := by decide +kernel
theorem dX8_moves_40 : decode cX8_moves 40 = .ok (.getfield 7, 3) := by decide +kernel
theorem dX8_moves_43 : decode cX8_moves 43 = .ok (.iload_n 2, 1) := by decide +kernel
theorem dX8_moves_44 : decode cX8_moves 44 = .ok (.iaload, 1) := by decide +kernel
theorem dX8_moves_45 : decode cX8_moves 45 = .ok (.if_icmp .ge 7, 3) := by decide +kernel
theorem dX8_moves_48 : decode cX8_moves 48 = .ok (.iload_n 3, 1) := by decide +kernel
theorem dX8_moves_49 : decode cX8_moves 49 = .ok (.goto 9, 3) := by decide +kernel
theorem dX8_moves_52 : decode cX8_moves 52 = .ok (.aload_n 0, 1) := by decide +kernel
theorem dX8_moves_53 : decode cX8_moves 53 = .ok (.getfield 7, 3) := by decide +kernel
theorem dX8_moves_56 : decode cX8_moves 56 = .ok (.iload_n 2, 1) := by decide +kernel
theorem dX8_moves_57 : decode cX8_moves 57 = .ok (.iaload, 1) := by decide +kernel
theorem dX8_moves_58 : decode cX8_moves 58 = .ok (.isub, 1) := by decide +kernel
theorem dX8_moves_59 : decode cX8_moves 59 = .ok (.iastore, 1) := by decide +kernel
theorem dX8_moves_60 : decode cX8_moves 60 = .ok (.return_, 1) := by decide +kernel
theorem dX8_moves_61 : decode cX8_moves 61 = .ok (.aload_n 0, 1) := by decide +kernel
theorem dX8_moves_62 : decode cX8_moves 62 = .ok (.iload_n 1, 1) := by decide +kernel
theorem dX8_moves_63 : decode cX8_moves 63 = .ok (.invokevirtual 96, 3) := by decide +kernel
theorem dX8_moves_66 : decode cX8_moves 66 = .ok (.istore 4, 2) := by decide +kernel
theorem dX8_moves_68 : decode cX8_moves 68 = .ok (.aload_n 0, 1) := by decide +kernel
theorem dX8_moves_69 : decode cX8_moves 69 = .ok (.getfield 7, 3) := by decide +kernel
theorem dX8_moves_72 : decode cX8_moves 72 = .ok (.iconst 5, 1) := by decide +kernel
theorem dX8_moves_73 : decode cX8_moves 73 = .ok (.iaload, 1) := by decide +kernel
theorem dX8_moves_74 : decode cX8_moves 74 = .ok (.aload_n 0, 1) := by decide +kernel
theorem dX8_moves_75 : decode cX8_moves 75 = .ok (.getfield 7, 3) := by decide +kernel
theorem dX8_moves_78 : decode cX8_moves 78 = .ok (.iload_n 2, 1) := by decide +kernel
theorem dX8_moves_79 : decode cX8_moves 79 = .ok (.iconst 1, 1) := by decide +kernel
theorem dX8_moves_80 : decode cX8_moves 80 = .ok (.iadd, 1) := by decide +kernel
theorem dX8_moves_81 : decode cX8_moves 81 = .ok (.iaload, 1) := by decide +kernel
theorem dX8_moves_82 : decode cX8_moves 82 = .ok (.idiv, 1) := by decide +kernel
theorem dX8_moves_83 : decode cX8_moves 83 = .ok (.istore 5, 2) := by decide +kernel
theorem dX8_moves_85 : decode cX8_moves 85 = .ok (.iload_n 3, 1) := by decide +kernel
theorem dX8_moves_86 : decode cX8_moves 86 = .ok (.iload 4, 2) := by decide +kernel
theorem dX8_moves_88 : decode cX8_moves 88 = .ok (.if_icmp .ge 7, 3) := by decide +kernel
theorem dX8_moves_91 : decode cX8_moves 91 = .ok (.iload_n 3, 1) := by decide +kernel
theorem dX8_moves_92 : decode cX8_moves 92 = .ok (.goto 5, 3) := by decide +kernel
theorem dX8_moves_95 : decode cX8_moves 95 = .ok (.iload 4, 2) := by decide +kernel
theorem dX8_moves_97 : decode cX8_moves 97 = .ok (.istore_n 3, 1) := by decide +kernel
theorem dX8_moves_98 : decode cX8_moves 98 = .ok (.iload_n 3, 1) := by decide +kernel
theorem dX8_moves_99 : decode cX8_moves 99 = .ok (.iload 5, 2) := by decide +kernel
theorem dX8_moves_101 : decode cX8_moves 101 = .ok (.if_icmp .ge 7, 3) := by decide +kernel
theorem dX8_moves_104 : decode cX8_moves 104 = .ok (.iload_n 3, 1) := by decide +kernel
theorem dX8_moves_105 : decode cX8_moves 105 = .ok (.goto 5, 3) := by decide +kernel
theorem dX8_moves_108 : decode cX8_moves 108 = .ok (.iload 5, 2) := by decide +kernel
theorem dX8_moves_110 : decode cX8_moves 110 = .ok (.istore_n 3, 1) := by decide +kernel
theorem dX8_moves_111 : decode cX8_moves 111 = .ok (.aload_n 0, 1) := by decide +kernel
theorem dX8_moves_112 : decode cX8_moves 112 = .ok (.getfield 7, 3) := by decide +kernel
theorem dX8_moves_115 : decode cX8_moves 115 = .ok (.iload_n 2, 1) := by decide +kernel
theorem dX8_moves_116 : decode cX8_moves 116 = .ok (.dup2, 1) := by decide +kernel
theorem dX8_moves_117 : decode cX8_moves 117 = .ok (.iaload, 1) := by decide +kernel
theorem dX8_moves_118 : decode cX8_moves 118 = .ok (.iload_n 3, 1) := by decide +kernel
theorem dX8_moves_119 : decode cX8_moves 119 = .ok (.iadd, 1) := by decide +kernel
theorem dX8_moves_120 : decode cX8_moves 120 = .ok (.iastore, 1) := by decide +kernel
theorem dX8_moves_121 : decode cX8_moves 121 = .ok (.aload_n 0, 1) := by decide +kernel
theorem dX8_moves_122 : decode cX8_moves 122 = .ok (.getfield 7, 3) := by decide +kernel
theorem dX8_moves_125 : decode cX8_moves 125 = .ok (.iload_n 2, 1) := by decide +kernel
theorem dX8_moves_126 : decode cX8_moves 126 = .ok (.iconst 4, 1) := by decide +kernel
theorem dX8_moves_127 : decode cX8_moves 127 = .ok (.iadd, 1) := by decide +kernel
theorem dX8_moves_128 : decode cX8_moves 128 = .ok (.dup2, 1) := by decide +kernel
theorem dX8_moves_129 : decode cX8_moves 129 = .ok (.iaload, 1) := by decide +kernel
theorem dX8_moves_130 : decode cX8_moves 130 = .ok (.aload_n 0, 1) := by decide +kernel
theorem dX8_moves_131 : decode cX8_moves 131 = .ok (.getfield 7, 3) := by decide +kernel
theorem dX8_moves_134 : decode cX8_moves 134 = .ok (.iload_n 2, 1) := by decide +kernel
theorem dX8_moves_135 : decode cX8_moves 135 = .ok (.iconst 1, 1) := by decide +kernel
theorem dX8_moves_136 : decode cX8_moves 136 = .ok (.iadd, 1) := by decide +kernel
theorem dX8_moves_137 : decode cX8_moves 137 = .ok (.iaload, 1) := by decide +kernel
theorem dX8_moves_138 : decode cX8_moves 138 = .ok (.iload_n 3, 1) := by decide +kernel
theorem dX8_moves_139 : decode cX8_moves 139 = .ok (.imul, 1) := by decide +kernel
theorem dX8_moves_140 : decode cX8_moves 140 = .ok (.iadd, 1) := by decide +kernel
theorem dX8_moves_141 : decode cX8_moves 141 = .ok (.iastore, 1) := by decide +kernel
theorem dX8_moves_142 : decode cX8_moves 142 = .ok (.aload_n 0, 1) := by decide +kernel
theorem dX8_moves_143 : decode cX8_moves 143 = .ok (.getfield 7, 3) := by decide +kernel
theorem dX8_moves_146 : decode cX8_moves 146 = .ok (.iconst 5, 1) := by decide +kernel
theorem dX8_moves_147 : decode cX8_moves 147 = .ok (.dup2, 1) := by decide +kernel
theorem dX8_moves_148 : decode cX8_moves 148 = .ok (.iaload, 1) := by decide +kernel
theorem dX8_moves_149 : decode cX8_moves 149 = .ok (.aload_n 0, 1) := by decide +kernel
theorem dX8_moves_150 : decode cX8_moves 150 = .ok (.getfield 7, 3) := by decide +kernel
theorem dX8_moves_153 : decode cX8_moves 153 = .ok (.iload_n 2, 1) := by decide +kernel
theorem dX8_moves_154 : decode cX8_moves 154 = .ok (.iconst 1, 1) := by decide +kernel
theorem dX8_moves_155 : decode cX8_moves 155 = .ok (.iadd, 1) := by decide +kernel
theorem dX8_moves_156 : decode cX8_moves 156 = .ok (.iaload, 1) := by decide +kernel
theorem dX8_moves_157 : decode cX8_moves 157 = .ok (.iload_n 3, 1) := by decide +kernel
theorem dX8_moves_158 : decode cX8_moves 158 = .ok (.imul, 1) := by decide +kernel
theorem dX8_moves_159 : decode cX8_moves 159 = .ok (.isub, 1) := by decide +kernel
theorem dX8_moves_160 : decode cX8_moves 160 = .ok (.iastore, 1) := by decide +kernel
theorem dX8_moves_161 : decode cX8_moves 161 = .ok (.aload_n 0, 1) := by decide +kernel
theorem dX8_moves_162 : decode cX8_moves 162 = .ok (.getfield 7, 3) := by decide +kernel
theorem dX8_moves_165 : decode cX8_moves 165 = .ok (.bipush 14, 2) := by decide +kernel
theorem dX8_moves_167 : decode cX8_moves 167 = .ok (.dup2, 1) := by decide +kernel
theorem dX8_moves_168 : decode cX8_moves 168 = .ok (.iaload, 1) := by decide +kernel
theorem dX8_moves_169 : decode cX8_moves 169 = .ok (.aload_n 0, 1) := by decide +kernel
theorem dX8_moves_170 : decode cX8_moves 170 = .ok (.getfield 7, 3) := by decide +kernel
theorem dX8_moves_173 : decode cX8_moves 173 = .ok (.iload_n 2, 1) := by decide +kernel
theorem dX8_moves_174 : decode cX8_moves 174 = .ok (.iconst 1, 1) := by decide +kernel
theorem dX8_moves_175 : decode cX8_moves 175 = .ok (.iadd, 1) := by decide +kernel
theorem dX8_moves_176 : decode cX8_moves 176 = .ok (.iaload, 1) := by decide +kernel
theorem dX8_moves_177 : decode cX8_moves 177 = .ok (.iload_n 3, 1) := by decide +kernel
theorem dX8_moves_178 : decode cX8_moves 178 = .ok (.imul, 1) := by decide +kernel
theorem dX8_moves_179 : decode cX8_moves 179 = .ok (.iadd, 1) := by decide +kernel
theorem dX8_moves_180 : decode cX8_moves 180 = .ok (.iastore, 1) := by decide +kernel
theorem dX8_moves_181 : decode cX8_moves 181 = .ok (.return_, 1) := by decide +kernel
theorem dX8_leaks_0 : decode cX8_leaks 0 = .ok (.bipush 21, 2) := by decide +kernel
theorem dX8_leaks_2 : decode cX8_leaks 2 = .ok (.bipush 6, 2) := by decide +kernel
theorem dX8_leaks_4 : decode cX8_leaks 4 = .ok (.iload_n 1, 1) := by decide +kernel
theorem dX8_leaks_5 : decode cX8_leaks 5 = .ok (.imul, 1) := by decide +kernel
theorem dX8_leaks_6 : decode cX8_leaks 6 = .ok (.iadd, 1) := by decide +kernel
theorem dX8_leaks_7 : decode cX8_leaks 7 = .ok (.istore_n 2, 1) := by decide +kernel
theorem dX8_leaks_8 : decode cX8_leaks 8 = .ok (.aload_n 0, 1) := by decide +kernel
theorem dX8_leaks_9 : decode cX8_leaks 9 = .ok (.iload_n 1, 1) := by decide +kernel
theorem dX8_leaks_10 : decode cX8_leaks 10 = .ok (.aload_n 0, 1) := by decide +kernel
theorem dX8_leaks_11 : decode cX8_leaks 11 = .ok (.getfield 7, 3) := by decide +kernel
theorem dX8_leaks_14 : decode cX8_leaks 14 = .ok (.iconst 1, 1) := by decide +kernel
theorem dX8_leaks_15 : decode cX8_leaks 15 = .ok (.iaload, 1) := by decide +kernel
theorem dX8_leaks_16 : decode cX8_leaks 16 = .ok (.invokevirtual 44, 3) := by decide +kernel
theorem dX8_leaks_19 : decode cX8_leaks 19 = .ok (.ifCond .eq 80, 3) := by decide +kernel
theorem dX8_leaks_22 : decode cX8_leaks 22 = .ok (.aload_n 0, 1) := by decide +kernel
theorem dX8_leaks_23 : decode cX8_leaks 23 = .ok (.getfield 7, 3) := by decide +kernel
theorem dX8_leaks_26 : decode cX8_leaks 26 = .ok (.iload_n 2, 1) := by decide +kernel
theorem dX8_leaks_27 : decode cX8_leaks 27 = .ok (.iaload, 1) := by decide +kernel
theorem dX8_leaks_28 : decode cX8_leaks 28 = .ok (.ifCond .le 71, 3) := by decide +kernel
theorem dX8_leaks_31 : decode cX8_leaks 31 = .ok (.aload_n 0, 1) := by decide +kernel
theorem dX8_leaks_32 : decode cX8_leaks 32 = .ok (.getfield 7, 3) := by decide +kernel
theorem dX8_leaks_35 : decode cX8_leaks 35 = .ok (.iload_n 2, 1) := by decide +kernel
theorem dX8_leaks_36 : decode cX8_leaks 36 = .ok (.iconst 3, 1) := by decide +kernel
theorem dX8_leaks_37 : decode cX8_leaks 37 = .ok (.iadd, 1) := by decide +kernel
theorem dX8_leaks_38 : decode cX8_leaks 38 = .ok (.iaload, 1) := by decide +kernel
theorem dX8_leaks_39 : decode cX8_leaks 39 = .ok (.aload_n 0, 1) := by decide +kernel
theorem dX8_leaks_40 : decode cX8_leaks 40 = .ok (.getfield 7, 3) := by decide +kernel
theorem dX8_leaks_43 : decode cX8_leaks 43 = .ok (.iconst 5, 1) := by decide +kernel
theorem dX8_leaks_44 : decode cX8_leaks 44 = .ok (.iaload, 1) := by decide +kernel
theorem dX8_leaks_45 : decode cX8_leaks 45 = .ok (.if_icmp .ge 14, 3) := by decide +kernel
theorem dX8_leaks_48 : decode cX8_leaks 48 = .ok (.aload_n 0, 1) := by decide +kernel
theorem dX8_leaks_49 : decode cX8_leaks 49 = .ok (.getfield 7, 3) := by decide +kernel
theorem dX8_leaks_52 : decode cX8_leaks 52 = .ok (.iload_n 2, 1) := by decide +kernel
theorem dX8_leaks_53 : decode cX8_leaks 53 = .ok (.iconst 3, 1) := by decide +kernel
theorem dX8_leaks_54 : decode cX8_leaks 54 = .ok (.iadd, 1) := by decide +kernel
theorem dX8_leaks_55 : decode cX8_leaks 55 = .ok (.iaload, 1) := by decide +kernel
theorem dX8_leaks_56 : decode cX8_leaks 56 = .ok (.goto 9, 3) := by decide +kernel
theorem dX8_leaks_59 : decode cX8_leaks 59 = .ok (.aload_n 0, 1) := by decide +kernel
theorem dX8_leaks_60 : decode cX8_leaks 60 = .ok (.getfield 7, 3) := by decide +kernel
theorem dX8_leaks_63 : decode cX8_leaks 63 = .ok (.iconst 5, 1) := by decide +kernel
theorem dX8_leaks_64 : decode cX8_leaks 64 = .ok (.iaload, 1) := by decide +kernel
theorem dX8_leaks_65 : decode cX8_leaks 65 = .ok (.istore_n 3, 1) := by decide +kernel
theorem dX8_leaks_66 : decode cX8_leaks 66 = .ok (.aload_n 0, 1) := by decide +kernel
theorem dX8_leaks_67 : decode cX8_leaks 67 = .ok (.getfield 7, 3) := by decide +kernel
theorem dX8_leaks_70 : decode cX8_leaks 70 = .ok (.iconst 5, 1) := by decide +kernel
theorem dX8_leaks_71 : decode cX8_leaks 71 = .ok (.dup2, 1) := by decide +kernel
theorem dX8_leaks_72 : decode cX8_leaks 72 = .ok (.iaload, 1) := by decide +kernel
theorem dX8_leaks_73 : decode cX8_leaks 73 = .ok (.iload_n 3, 1) := by decide +kernel
theorem dX8_leaks_74 : decode cX8_leaks 74 = .ok (.isub, 1) := by decide +kernel
theorem dX8_leaks_75 : decode cX8_leaks 75 = .ok (.iastore, 1) := by decide +kernel
theorem dX8_leaks_76 : decode cX8_leaks 76 = .ok (.aload_n 0, 1) := by decide +kernel
theorem dX8_leaks_77 : decode cX8_leaks 77 = .ok (.getfield 7, 3) := by decide +kernel
theorem dX8_leaks_80 : decode cX8_leaks 80 = .ok (.iload_n 2, 1) := by decide +kernel
theorem dX8_leaks_81 : decode cX8_leaks 81 = .ok (.iconst 5, 1) := by decide +kernel
theorem dX8_leaks_82 : decode cX8_leaks 82 = .ok (.iadd, 1) := by decide +kernel
theorem dX8_leaks_83 : decode cX8_leaks 83 = .ok (.dup2, 1) := by decide +kernel
theorem dX8_leaks_84 : decode cX8_leaks 84 = .ok (.iaload, 1) := by decide +kernel
theorem dX8_leaks_85 : decode cX8_leaks 85 = .ok (.iload_n 3, 1) := by decide +kernel
theorem dX8_leaks_86 : decode cX8_leaks 86 = .ok (.iadd, 1) := by decide +kernel
theorem dX8_leaks_87 : decode cX8_leaks 87 = .ok (.iastore, 1) := by decide +kernel
theorem dX8_leaks_88 : decode cX8_leaks 88 = .ok (.aload_n 0, 1) := by decide +kernel
theorem dX8_leaks_89 : decode cX8_leaks 89 = .ok (.getfield 7, 3) := by decide +kernel
theorem dX8_leaks_92 : decode cX8_leaks 92 = .ok (.bipush 15, 2) := by decide +kernel
theorem dX8_leaks_94 : decode cX8_leaks 94 = .ok (.dup2, 1) := by decide +kernel
theorem dX8_leaks_95 : decode cX8_leaks 95 = .ok (.iaload, 1) := by decide +kernel
theorem dX8_leaks_96 : decode cX8_leaks 96 = .ok (.iload_n 3, 1) := by decide +kernel
theorem dX8_leaks_97 : decode cX8_leaks 97 = .ok (.iadd, 1) := by decide +kernel
theorem dX8_leaks_98 : decode cX8_leaks 98 = .ok (.iastore, 1) := by decide +kernel
theorem dX8_leaks_99 : decode cX8_leaks 99 = .ok (.return_, 1) := by decide +kernel
theorem dX8_areOut_0 : decode cX8_areOut 0 = .ok (.iconst 1, 1) := by decide +kernel
theorem dX8_areOut_1 : decode cX8_areOut 1 = .ok (.istore_n 1, 1) := by decide +kernel
theorem dX8_areOut_2 : decode cX8_areOut 2 = .ok (.iconst 0, 1) := by decide +kernel
theorem dX8_areOut_3 : decode cX8_areOut 3 = .ok (.istore_n 2, 1) := by decide +kernel
theorem dX8_areOut_4 : decode cX8_areOut 4 = .ok (.iload_n 2, 1) := by decide +kernel
theorem dX8_areOut_5 : decode cX8_areOut 5 = .ok (.iconst 5, 1) := by decide +kernel
theorem dX8_areOut_6 : decode cX8_areOut 6 = .ok (.if_icmp .ge 43, 3) := by decide +kernel
theorem dX8_areOut_9 : decode cX8_areOut 9 = .ok (.iload_n 1, 1) := by decide +kernel
theorem dX8_areOut_10 : decode cX8_areOut 10 = .ok (.ifCond .eq 31, 3) := by decide +kernel
theorem dX8_areOut_13 : decode cX8_areOut 13 = .ok (.aload_n 0, 1) := by decide +kernel
theorem dX8_areOut_14 : decode cX8_areOut 14 = .ok (.iload_n 2, 1) := by decide +kernel
theorem dX8_areOut_15 : decode cX8_areOut 15 = .ok (.aload_n 0, 1) := by decide +kernel
theorem dX8_areOut_16 : decode cX8_areOut 16 = .ok (.getfield 7, 3) := by decide +kernel
theorem dX8_areOut_19 : decode cX8_areOut 19 = .ok (.iconst 1, 1) := by decide +kernel
theorem dX8_areOut_20 : decode cX8_areOut 20 = .ok (.iaload, 1) := by decide +kernel
theorem dX8_areOut_21 : decode cX8_areOut 21 = .ok (.invokevirtual 44, 3) := by decide +kernel
theorem dX8_areOut_24 : decode cX8_areOut 24 = .ok (.ifCond .eq 13, 3) := by decide +kernel
theorem dX8_areOut_27 : decode cX8_areOut 27 = .ok (.aload_n 0, 1) := by decide +kernel
theorem dX8_areOut_28 : decode cX8_areOut 28 = .ok (.iload_n 2, 1) := by decide +kernel
theorem dX8_areOut_29 : decode cX8_areOut 29 = .ok (.invokevirtual 76, 3) := by decide +kernel
theorem dX8_areOut_32 : decode cX8_areOut 32 = .ok (.bipush 100, 2) := by decide +kernel
theorem dX8_areOut_34 : decode cX8_areOut 34 = .ok (.if_icmp .ne 7, 3) := by decide +kernel
theorem dX8_areOut_37 : decode cX8_areOut 37 = .ok (.iconst 1, 1) := by decide +kernel
theorem dX8_areOut_38 : decode cX8_areOut 38 = .ok (.goto 4, 3) := by decide +kernel
theorem dX8_areOut_41 : decode cX8_areOut 41 = .ok (.iconst 0, 1) := by decide +kernel
theorem dX8_areOut_42 : decode cX8_areOut 42 = .ok (.istore_n 1, 1) := by decide +kernel
theorem dX8_areOut_43 : decode cX8_areOut 43 = .ok (.iinc 2 1, 3) := by decide +kernel
theorem dX8_areOut_46 : decode cX8_areOut 46 = .ok (.goto (-42), 3) := by decide +kernel
theorem dX8_areOut_49 : decode cX8_areOut 49 = .ok (.iload_n 1, 1) := by decide +kernel
theorem dX8_areOut_50 : decode cX8_areOut 50 = .ok (.ireturn, 1) := by decide +kernel
theorem dX8_tick_0 : decode cX8_tick 0 = .ok (.aload_n 0, 1) := by decide +kernel
theorem dX8_tick_1 : decode cX8_tick 1 = .ok (.getfield 7, 3) := by decide +kernel
theorem dX8_tick_4 : decode cX8_tick 4 = .ok (.bipush 12, 2) := by decide +kernel
theorem dX8_tick_6 : decode cX8_tick 6 = .ok (.dup2, 1) := by decide +kernel
theorem dX8_tick_7 : decode cX8_tick 7 = .ok (.iaload, 1) := by decide +kernel
theorem dX8_tick_8 : decode cX8_tick 8 = .ok (.aload_n 0, 1) := by decide +kernel
theorem dX8_tick_9 : decode cX8_tick 9 = .ok (.getfield 7, 3) := by decide +kernel
theorem dX8_tick_12 : decode cX8_tick 12 = .ok (.bipush 7, 2) := by decide +kernel
theorem dX8_tick_14 : decode cX8_tick 14 = .ok (.iaload, 1) := by decide +kernel
theorem dX8_tick_15 : decode cX8_tick 15 = .ok (.iadd, 1) := by decide +kernel
theorem dX8_tick_16 : decode cX8_tick 16 = .ok (.iastore, 1) := by decide +kernel
theorem dX8_tick_17 : decode cX8_tick 17 = .ok (.aload_n 0, 1) := by decide +kernel
theorem dX8_tick_18 : decode cX8_tick 18 = .ok (.getfield 7, 3) := by decide +kernel
theorem dX8_tick_21 : decode cX8_tick 21 = .ok (.iconst 5, 1) := by decide +kernel
theorem dX8_tick_22 : decode cX8_tick 22 = .ok (.dup2, 1) := by decide +kernel
theorem dX8_tick_23 : decode cX8_tick 23 = .ok (.iaload, 1) := by decide +kernel
theorem dX8_tick_24 : decode cX8_tick 24 = .ok (.aload_n 0, 1) := by decide +kernel
theorem dX8_tick_25 : decode cX8_tick 25 = .ok (.getfield 7, 3) := by decide +kernel
theorem dX8_tick_28 : decode cX8_tick 28 = .ok (.bipush 7, 2) := by decide +kernel
theorem dX8_tick_30 : decode cX8_tick 30 = .ok (.iaload, 1) := by decide +kernel
theorem dX8_tick_31 : decode cX8_tick 31 = .ok (.iadd, 1) := by decide +kernel
theorem dX8_tick_32 : decode cX8_tick 32 = .ok (.iastore, 1) := by decide +kernel
theorem dX8_tick_33 : decode cX8_tick 33 = .ok (.aload_n 0, 1) := by decide +kernel
theorem dX8_tick_34 : decode cX8_tick 34 = .ok (.invokevirtual 85, 3) := by decide +kernel
theorem dX8_tick_37 : decode cX8_tick 37 = .ok (.aload_n 0, 1) := by decide +kernel
theorem dX8_tick_38 : decode cX8_tick 38 = .ok (.getfield 7, 3) := by decide +kernel
theorem dX8_tick_41 : decode cX8_tick 41 = .ok (.iconst 2, 1) := by decide +kernel
theorem dX8_tick_42 : decode cX8_tick 42 = .ok (.dup2, 1) := by decide +kernel
theorem dX8_tick_43 : decode cX8_tick 43 = .ok (.iaload, 1) := by decide +kernel
theorem dX8_tick_44 : decode cX8_tick 44 = .ok (.iconst 1, 1) := by decide +kernel
theorem dX8_tick_45 : decode cX8_tick 45 = .ok (.iadd, 1) := by decide +kernel
theorem dX8_tick_46 : decode cX8_tick 46 = .ok (.iastore, 1) := by decide +kernel
theorem dX8_tick_47 : decode cX8_tick 47 = .ok (.aload_n 0, 1) := by decide +kernel
theorem dX8_tick_48 : decode cX8_tick 48 = .ok (.aload_n 0, 1) := by decide +kernel
theorem dX8_tick_49 : decode cX8_tick 49 = .ok (.getfield 7, 3) := by decide +kernel
theorem dX8_tick_52 : decode cX8_tick 52 = .ok (.iconst 2, 1) := by decide +kernel
theorem dX8_tick_53 : decode cX8_tick 53 = .ok (.iaload, 1) := by decide +kernel
theorem dX8_tick_54 : decode cX8_tick 54 = .ok (.aload_n 0, 1) := by decide +kernel
theorem dX8_tick_55 : decode cX8_tick 55 = .ok (.getfield 7, 3) := by decide +kernel
theorem dX8_tick_58 : decode cX8_tick 58 = .ok (.iconst 3, 1) := by decide +kernel
theorem dX8_tick_59 : decode cX8_tick 59 = .ok (.iaload, 1) := by decide +kernel
theorem dX8_tick_60 : decode cX8_tick 60 = .ok (.if_icmp .lt 22, 3) := by decide +kernel
theorem dX8_tick_63 : decode cX8_tick 63 = .ok (.aload_n 0, 1) := by decide +kernel
theorem dX8_tick_64 : decode cX8_tick 64 = .ok (.getfield 7, 3) := by decide +kernel
theorem dX8_tick_67 : decode cX8_tick 67 = .ok (.iconst 5, 1) := by decide +kernel
theorem dX8_tick_68 : decode cX8_tick 68 = .ok (.iaload, 1) := by decide +kernel
theorem dX8_tick_69 : decode cX8_tick 69 = .ok (.aload_n 0, 1) := by decide +kernel
theorem dX8_tick_70 : decode cX8_tick 70 = .ok (.getfield 7, 3) := by decide +kernel
theorem dX8_tick_73 : decode cX8_tick 73 = .ok (.iconst 4, 1) := by decide +kernel
theorem dX8_tick_74 : decode cX8_tick 74 = .ok (.iaload, 1) := by decide +kernel
theorem dX8_tick_75 : decode cX8_tick 75 = .ok (.if_icmp .lt 7, 3) := by decide +kernel
theorem dX8_tick_78 : decode cX8_tick 78 = .ok (.iconst 1, 1) := by decide +kernel
theorem dX8_tick_79 : decode cX8_tick 79 = .ok (.goto 4, 3) := by decide +kernel
theorem dX8_tick_82 : decode cX8_tick 82 = .ok (.iconst 0, 1) := by decide +kernel
theorem dX8_tick_83 : decode cX8_tick 83 = .ok (.putfield 99, 3) := by decide +kernel
theorem dX8_tick_86 : decode cX8_tick 86 = .ok (.aload_n 0, 1) := by decide +kernel
theorem dX8_tick_87 : decode cX8_tick 87 = .ok (.aload_n 0, 1) := by decide +kernel
theorem dX8_tick_88 : decode cX8_tick 88 = .ok (.invokevirtual 103, 3) := by decide +kernel
theorem dX8_tick_91 : decode cX8_tick 91 = .ok (.putfield 107, 3) := by decide +kernel
theorem dX8_tick_94 : decode cX8_tick 94 = .ok (.aload_n 0, 1) := by decide +kernel
theorem dX8_tick_95 : decode cX8_tick 95 = .ok (.getfield 99, 3) := by decide +kernel
theorem dX8_tick_98 : decode cX8_tick 98 = .ok (.ifCond .eq 51, 3) := by decide +kernel
theorem dX8_tick_101 : decode cX8_tick 101 = .ok (.aload_n 0, 1) := by decide +kernel
theorem dX8_tick_102 : decode cX8_tick 102 = .ok (.getfield 7, 3) := by decide +kernel
theorem dX8_tick_105 : decode cX8_tick 105 = .ok (.iconst 1, 1) := by decide +kernel
theorem dX8_tick_106 : decode cX8_tick 106 = .ok (.aload_n 0, 1) := by decide +kernel
theorem dX8_tick_107 : decode cX8_tick 107 = .ok (.getfield 7, 3) := by decide +kernel
theorem dX8_tick_110 : decode cX8_tick 110 = .ok (.iconst 1, 1) := by decide +kernel
theorem dX8_tick_111 : decode cX8_tick 111 = .ok (.iaload, 1) := by decide +kernel
theorem dX8_tick_112 : decode cX8_tick 112 = .ok (.iconst 1, 1) := by decide +kernel
theorem dX8_tick_113 : decode cX8_tick 113 = .ok (.iadd, 1) := by decide +kernel
theorem dX8_tick_114 : decode cX8_tick 114 = .ok (.aload_n 0, 1) := by decide +kernel
theorem dX8_tick_115 : decode cX8_tick 115 = .ok (.getfield 7, 3) := by decide +kernel
theorem dX8_tick_118 : decode cX8_tick 118 = .ok (.iconst 0, 1) := by decide +kernel
theorem dX8_tick_119 : decode cX8_tick 119 = .ok (.iaload, 1) := by decide +kernel
theorem dX8_tick_120 : decode cX8_tick 120 = .ok (.irem, 1) := by decide +kernel
theorem dX8_tick_121 : decode cX8_tick 121 = .ok (.iastore, 1) := by decide +kernel
theorem dX8_tick_122 : decode cX8_tick 122 = .ok (.aload_n 0, 1) := by decide +kernel
theorem dX8_tick_123 : decode cX8_tick 123 = .ok (.getfield 7, 3) := by decide +kernel
theorem dX8_tick_126 : decode cX8_tick 126 = .ok (.bipush 10, 2) := by decide +kernel
theorem dX8_tick_128 : decode cX8_tick 128 = .ok (.dup2, 1) := by decide +kernel
theorem dX8_tick_129 : decode cX8_tick 129 = .ok (.iaload, 1) := by decide +kernel
theorem dX8_tick_130 : decode cX8_tick 130 = .ok (.aload_n 0, 1) := by decide +kernel
theorem dX8_tick_131 : decode cX8_tick 131 = .ok (.getfield 7, 3) := by decide +kernel
theorem dX8_tick_134 : decode cX8_tick 134 = .ok (.iconst 1, 1) := by decide +kernel
theorem dX8_tick_135 : decode cX8_tick 135 = .ok (.iaload, 1) := by decide +kernel
theorem dX8_tick_136 : decode cX8_tick 136 = .ok (.ifCond .ne 7, 3) := by decide +kernel
theorem dX8_tick_139 : decode cX8_tick 139 = .ok (.iconst 1, 1) := by decide +kernel
theorem dX8_tick_140 : decode cX8_tick 140 = .ok (.goto 4, 3) := by decide +kernel
theorem dX8_tick_143 : decode cX8_tick 143 = .ok (.iconst 0, 1) := by decide +kernel
theorem dX8_tick_144 : decode cX8_tick 144 = .ok (.iadd, 1) := by decide +kernel
theorem dX8_tick_145 : decode cX8_tick 145 = .ok (.iastore, 1) := by decide +kernel
theorem dX8_tick_146 : decode cX8_tick 146 = .ok (.goto 48, 3) := by decide +kernel
theorem dX8_tick_149 : decode cX8_tick 149 = .ok (.aload_n 0, 1) := by decide +kernel
theorem dX8_tick_150 : decode cX8_tick 150 = .ok (.getfield 7, 3) := by decide +kernel
theorem dX8_tick_153 : decode cX8_tick 153 = .ok (.iconst 2, 1) := by decide +kernel
theorem dX8_tick_154 : decode cX8_tick 154 = .ok (.iaload, 1) := by decide +kernel
theorem dX8_tick_155 : decode cX8_tick 155 = .ok (.aload_n 0, 1) := by decide +kernel
theorem dX8_tick_156 : decode cX8_tick 156 = .ok (.getfield 7, 3) := by decide +kernel
theorem dX8_tick_159 : decode cX8_tick 159 = .ok (.iconst 3, 1) := by decide +kernel
theorem dX8_tick_160 : decode cX8_tick 160 = .ok (.iaload, 1) := by decide +kernel
theorem dX8_tick_161 : decode cX8_tick 161 = .ok (.if_icmp .lt 33, 3) := by decide +kernel
theorem dX8_tick_164 : decode cX8_tick 164 = .ok (.aload_n 0, 1) := by decide +kernel
theorem dX8_tick_165 : decode cX8_tick 165 = .ok (.getfield 7, 3) := by decide +kernel
theorem dX8_tick_168 : decode cX8_tick 168 = .ok (.bipush 11, 2) := by decide +kernel
theorem dX8_tick_170 : decode cX8_tick 170 = .ok (.dup2, 1) := by decide +kernel
theorem dX8_tick_171 : decode cX8_tick 171 = .ok (.iaload, 1) := by decide +kernel
theorem dX8_tick_172 : decode cX8_tick 172 = .ok (.iconst 1, 1) := by decide +kernel
theorem dX8_tick_173 : decode cX8_tick 173 = .ok (.iadd, 1) := by decide +kernel
theorem dX8_tick_174 : decode cX8_tick 174 = .ok (.iastore, 1) := by decide +kernel
theorem dX8_tick_175 : decode cX8_tick 175 = .ok (.aload_n 0, 1) := by decide +kernel
theorem dX8_tick_176 : decode cX8_tick 176 = .ok (.getfield 7, 3) := by decide +kernel
theorem dX8_tick_179 : decode cX8_tick 179 = .ok (.sipush 143, 3) := by decide +kernel
theorem dX8_tick_182 : decode cX8_tick 182 = .ok (.aload_n 0, 1) := by decide +kernel
theorem dX8_tick_183 : decode cX8_tick 183 = .ok (.getfield 7, 3) := by decide +kernel
theorem dX8_tick_186 : decode cX8_tick 186 = .ok (.iconst 1, 1) := by decide +kernel
theorem dX8_tick_187 : decode cX8_tick 187 = .ok (.iaload, 1) := by decide +kernel
theorem dX8_tick_188 : decode cX8_tick 188 = .ok (.iadd, 1) := by decide +kernel
theorem dX8_tick_189 : decode cX8_tick 189 = .ok (.dup2, 1) := by decide +kernel
theorem dX8_tick_190 : decode cX8_tick 190 = .ok (.iaload, 1) := by decide +kernel
theorem dX8_tick_191 : decode cX8_tick 191 = .ok (.iconst 1, 1) := by decide +kernel
theorem dX8_tick_192 : decode cX8_tick 192 = .ok (.iadd, 1) := by decide +kernel
theorem dX8_tick_193 : decode cX8_tick 193 = .ok (.iastore, 1) := by decide +kernel
theorem dX8_tick_194 : decode cX8_tick 194 = .ok (.aload_n 0, 1) := by decide +kernel
theorem dX8_tick_195 : decode cX8_tick 195 = .ok (.getfield 7, 3) := by decide +kernel
theorem dX8_tick_198 : decode cX8_tick 198 = .ok (.iconst 2, 1) := by decide +kernel
theorem dX8_tick_199 : decode cX8_tick 199 = .ok (.aload_n 0, 1) := by decide +kernel
theorem dX8_tick_200 : decode cX8_tick 200 = .ok (.getfield 7, 3) := by decide +kernel
theorem dX8_tick_203 : decode cX8_tick 203 = .ok (.iconst 2, 1) := by decide +kernel
theorem dX8_tick_204 : decode cX8_tick 204 = .ok (.iaload, 1) := by decide +kernel
theorem dX8_tick_205 : decode cX8_tick 205 = .ok (.aload_n 0, 1) := by decide +kernel
theorem dX8_tick_206 : decode cX8_tick 206 = .ok (.getfield 7, 3) := by decide +kernel
theorem dX8_tick_209 : decode cX8_tick 209 = .ok (.iconst 3, 1) := by decide +kernel
theorem dX8_tick_210 : decode cX8_tick 210 = .ok (.iaload, 1) := by decide +kernel
theorem dX8_tick_211 : decode cX8_tick 211 = .ok (.if_icmp .lt 7, 3) := by decide +kernel
theorem dX8_tick_214 : decode cX8_tick 214 = .ok (.iconst 0, 1) := by decide +kernel
theorem dX8_tick_215 : decode cX8_tick 215 = .ok (.goto 9, 3) := by decide +kernel
theorem dX8_tick_218 : decode cX8_tick 218 = .ok (.aload_n 0, 1) := by decide +kernel
theorem dX8_tick_219 : decode cX8_tick 219 = .ok (.getfield 7, 3) := by decide +kernel
theorem dX8_tick_222 : decode cX8_tick 222 = .ok (.iconst 2, 1) := by decide +kernel
theorem dX8_tick_223 : decode cX8_tick 223 = .ok (.iaload, 1) := by decide +kernel
theorem dX8_tick_224 : decode cX8_tick 224 = .ok (.iastore, 1) := by decide +kernel
theorem dX8_tick_225 : decode cX8_tick 225 = .ok (.iconst 0, 1) := by decide +kernel
theorem dX8_tick_226 : decode cX8_tick 226 = .ok (.istore_n 1, 1) := by decide +kernel
theorem dX8_tick_227 : decode cX8_tick 227 = .ok (.iload_n 1, 1) := by decide +kernel
theorem dX8_tick_228 : decode cX8_tick 228 = .ok (.iconst 5, 1) := by decide +kernel
theorem dX8_tick_229 : decode cX8_tick 229 = .ok (.if_icmp .ge 14, 3) := by decide +kernel
theorem dX8_tick_232 : decode cX8_tick 232 = .ok (.aload_n 0, 1) := by decide +kernel
theorem dX8_tick_233 : decode cX8_tick 233 = .ok (.iload_n 1, 1) := by decide +kernel
theorem dX8_tick_234 : decode cX8_tick 234 = .ok (.invokevirtual 110, 3) := by decide +kernel
theorem dX8_tick_237 : decode cX8_tick 237 = .ok (.iinc 1 1, 3) := by decide +kernel
theorem dX8_tick_240 : decode cX8_tick 240 = .ok (.goto (-13), 3) := by decide +kernel
theorem dX8_tick_243 : decode cX8_tick 243 = .ok (.iconst 0, 1) := by decide +kernel
theorem dX8_tick_244 : decode cX8_tick 244 = .ok (.istore_n 1, 1) := by decide +kernel
theorem dX8_tick_245 : decode cX8_tick 245 = .ok (.iload_n 1, 1) := by decide +kernel
theorem dX8_tick_246 : decode cX8_tick 246 = .ok (.iconst 5, 1) := by decide +kernel
theorem dX8_tick_247 : decode cX8_tick 247 = .ok (.if_icmp .ge 14, 3) := by decide +kernel
theorem dX8_tick_250 : decode cX8_tick 250 = .ok (.aload_n 0, 1) := by decide +kernel
theorem dX8_tick_251 : decode cX8_tick 251 = .ok (.iload_n 1, 1) := by decide +kernel
theorem dX8_tick_252 : decode cX8_tick 252 = .ok (.invokevirtual 114, 3) := by decide +kernel
theorem dX8_tick_255 : decode cX8_tick 255 = .ok (.iinc 1 1, 3) := by decide +kernel
theorem dX8_tick_258 : decode cX8_tick 258 = .ok (.goto (-13), 3) := by decide +kernel
theorem dX8_tick_261 : decode cX8_tick 261 = .ok (.iconst 0, 1) := by decide +kernel
theorem dX8_tick_262 : decode cX8_tick 262 = .ok (.istore_n 1, 1) := by decide +kernel
theorem dX8_tick_263 : decode cX8_tick 263 = .ok (.iload_n 1, 1) := by decide +kernel
theorem dX8_tick_264 : decode cX8_tick 264 = .ok (.iconst 5, 1) := by decide +kernel
theorem dX8_tick_265 : decode cX8_tick 265 = .ok (.if_icmp .ge 33, 3) := by decide +kernel
theorem dX8_tick_268 : decode cX8_tick 268 = .ok (.aload_n 0, 1) := by decide +kernel
theorem dX8_tick_269 : decode cX8_tick 269 = .ok (.getfield 7, 3) := by decide +kernel
theorem dX8_tick_272 : decode cX8_tick 272 = .ok (.bipush 63, 2) := by decide +kernel
theorem dX8_tick_274 : decode cX8_tick 274 = .ok (.bipush 16, 2) := by decide +kernel
theorem dX8_tick_276 : decode cX8_tick 276 = .ok (.iload_n 1, 1) := by decide +kernel
theorem dX8_tick_277 : decode cX8_tick 277 = .ok (.imul, 1) := by decide +kernel
theorem dX8_tick_278 : decode cX8_tick 278 = .ok (.iadd, 1) := by decide +kernel
theorem dX8_tick_279 : decode cX8_tick 279 = .ok (.aload_n 0, 1) := by decide +kernel
theorem dX8_tick_280 : decode cX8_tick 280 = .ok (.getfield 7, 3) := by decide +kernel
theorem dX8_tick_283 : decode cX8_tick 283 = .ok (.iconst 1, 1) := by decide +kernel
theorem dX8_tick_284 : decode cX8_tick 284 = .ok (.iaload, 1) := by decide +kernel
theorem dX8_tick_285 : decode cX8_tick 285 = .ok (.iadd, 1) := by decide +kernel
theorem dX8_tick_286 : decode cX8_tick 286 = .ok (.aload_n 0, 1) := by decide +kernel
theorem dX8_tick_287 : decode cX8_tick 287 = .ok (.iload_n 1, 1) := by decide +kernel
theorem dX8_tick_288 : decode cX8_tick 288 = .ok (.invokevirtual 76, 3) := by decide +kernel
theorem dX8_tick_291 : decode cX8_tick 291 = .ok (.iastore, 1) := by decide +kernel
theorem dX8_tick_292 : decode cX8_tick 292 = .ok (.iinc 1 1, 3) := by decide +kernel
theorem dX8_tick_295 : decode cX8_tick 295 = .ok (.goto (-32), 3) := by decide +kernel
theorem dX8_tick_298 : decode cX8_tick 298 = .ok (.aload_n 0, 1) := by decide +kernel
theorem dX8_tick_299 : decode cX8_tick 299 = .ok (.getfield 7, 3) := by decide +kernel
theorem dX8_tick_302 : decode cX8_tick 302 = .ok (.bipush 9, 2) := by decide +kernel
theorem dX8_tick_304 : decode cX8_tick 304 = .ok (.dup2, 1) := by decide +kernel
theorem dX8_tick_305 : decode cX8_tick 305 = .ok (.iaload, 1) := by decide +kernel
theorem dX8_tick_306 : decode cX8_tick 306 = .ok (.iconst 1, 1) := by decide +kernel
theorem dX8_tick_307 : decode cX8_tick 307 = .ok (.iadd, 1) := by decide +kernel
theorem dX8_tick_308 : decode cX8_tick 308 = .ok (.iastore, 1) := by decide +kernel
theorem dX8_tick_309 : decode cX8_tick 309 = .ok (.return_, 1) := by decide +kernel
theorem dX8_run_0 : decode cX8_run 0 = .ok (.iload_n 1, 1) := by decide +kernel
theorem dX8_run_1 : decode cX8_run 1 = .ok (.i2l, 1) := by decide +kernel
theorem dX8_run_2 : decode cX8_run 2 = .ok (.lconst 1, 1) := by decide +kernel
theorem dX8_run_3 : decode cX8_run 3 = .ok (.ldc2_w 83, 3) := by decide +kernel
theorem dX8_run_6 : decode cX8_run 6 = .ok (.invokestatic 40, 3) := by decide +kernel
theorem dX8_run_9 : decode cX8_run 9 = .ok (.ifCond .ne 9, 3) := by decide +kernel
theorem dX8_run_12 : decode cX8_run 12 = .ok (.aload_n 0, 1) := by decide +kernel
theorem dX8_run_13 : decode cX8_run 13 = .ok (.iconst 1, 1) := by decide +kernel
theorem dX8_run_14 : decode cX8_run 14 = .ok (.invokevirtual 55, 3) := by decide +kernel
theorem dX8_run_17 : decode cX8_run 17 = .ok (.ireturn, 1) := by decide +kernel
theorem dX8_run_18 : decode cX8_run 18 = .ok (.aload_n 0, 1) := by decide +kernel
theorem dX8_run_19 : decode cX8_run 19 = .ok (.getfield 7, 3) := by decide +kernel
theorem dX8_run_22 : decode cX8_run 22 = .ok (.bipush 9, 2) := by decide +kernel
theorem dX8_run_24 : decode cX8_run 24 = .ok (.iaload, 1) := by decide +kernel
theorem dX8_run_25 : decode cX8_run 25 = .ok (.iload_n 1, 1) := by decide +kernel
theorem dX8_run_26 : decode cX8_run 26 = .ok (.iadd, 1) := by decide +kernel
theorem dX8_run_27 : decode cX8_run 27 = .ok (.ldc 117, 2) := by decide +kernel
theorem dX8_run_29 : decode cX8_run 29 = .ok (.if_icmp .le 9, 3) := by decide +kernel
theorem dX8_run_32 : decode cX8_run 32 = .ok (.aload_n 0, 1) := by decide +kernel
theorem dX8_run_33 : decode cX8_run 33 = .ok (.iconst 2, 1) := by decide +kernel
theorem dX8_run_34 : decode cX8_run 34 = .ok (.invokevirtual 55, 3) := by decide +kernel
theorem dX8_run_37 : decode cX8_run 37 = .ok (.ireturn, 1) := by decide +kernel
theorem dX8_run_38 : decode cX8_run 38 = .ok (.aload_n 0, 1) := by decide +kernel
theorem dX8_run_39 : decode cX8_run 39 = .ok (.invokevirtual 59, 3) := by decide +kernel
theorem dX8_run_42 : decode cX8_run 42 = .ok (.aload_n 0, 1) := by decide +kernel
theorem dX8_run_43 : decode cX8_run 43 = .ok (.getfield 7, 3) := by decide +kernel
theorem dX8_run_46 : decode cX8_run 46 = .ok (.bipush 10, 2) := by decide +kernel
theorem dX8_run_48 : decode cX8_run 48 = .ok (.iaload, 1) := by decide +kernel
theorem dX8_run_49 : decode cX8_run 49 = .ok (.istore_n 2, 1) := by decide +kernel
theorem dX8_run_50 : decode cX8_run 50 = .ok (.iconst 0, 1) := by decide +kernel
theorem dX8_run_51 : decode cX8_run 51 = .ok (.istore_n 3, 1) := by decide +kernel
theorem dX8_run_52 : decode cX8_run 52 = .ok (.iload_n 3, 1) := by decide +kernel
theorem dX8_run_53 : decode cX8_run 53 = .ok (.iload_n 1, 1) := by decide +kernel
theorem dX8_run_54 : decode cX8_run 54 = .ok (.if_icmp .ge 13, 3) := by decide +kernel
theorem dX8_run_57 : decode cX8_run 57 = .ok (.aload_n 0, 1) := by decide +kernel
theorem dX8_run_58 : decode cX8_run 58 = .ok (.invokevirtual 118, 3) := by decide +kernel
theorem dX8_run_61 : decode cX8_run 61 = .ok (.iinc 3 1, 3) := by decide +kernel
theorem dX8_run_64 : decode cX8_run 64 = .ok (.goto (-12), 3) := by decide +kernel
theorem dX8_run_67 : decode cX8_run 67 = .ok (.aload_n 0, 1) := by decide +kernel
theorem dX8_run_68 : decode cX8_run 68 = .ok (.aload_n 0, 1) := by decide +kernel
theorem dX8_run_69 : decode cX8_run 69 = .ok (.getfield 7, 3) := by decide +kernel
theorem dX8_run_72 : decode cX8_run 72 = .ok (.bipush 10, 2) := by decide +kernel
theorem dX8_run_74 : decode cX8_run 74 = .ok (.iaload, 1) := by decide +kernel
theorem dX8_run_75 : decode cX8_run 75 = .ok (.iload_n 2, 1) := by decide +kernel
theorem dX8_run_76 : decode cX8_run 76 = .ok (.isub, 1) := by decide +kernel
theorem dX8_run_77 : decode cX8_run 77 = .ok (.invokevirtual 65, 3) := by decide +kernel
theorem dX8_run_80 : decode cX8_run 80 = .ok (.ireturn, 1) := by decide +kernel
theorem dX8_cam_0 : decode cX8_cam 0 = .ok (.iload_n 1, 1) := by decide +kernel
theorem dX8_cam_1 : decode cX8_cam 1 = .ok (.invokestatic 48, 3) := by decide +kernel
theorem dX8_cam_4 : decode cX8_cam 4 = .ok (.ifCond .eq 15, 3) := by decide +kernel
theorem dX8_cam_7 : decode cX8_cam 7 = .ok (.aload_n 0, 1) := by decide +kernel
theorem dX8_cam_8 : decode cX8_cam 8 = .ok (.iload_n 2, 1) := by decide +kernel
theorem dX8_cam_9 : decode cX8_cam 9 = .ok (.invokevirtual 52, 3) := by decide +kernel
theorem dX8_cam_12 : decode cX8_cam 12 = .ok (.ifCond .eq 7, 3) := by decide +kernel
theorem dX8_cam_15 : decode cX8_cam 15 = .ok (.iconst 1, 1) := by decide +kernel
theorem dX8_cam_16 : decode cX8_cam 16 = .ok (.goto 4, 3) := by decide +kernel
theorem dX8_cam_19 : decode cX8_cam 19 = .ok (.iconst 0, 1) := by decide +kernel
theorem dX8_cam_20 : decode cX8_cam 20 = .ok (.istore_n 3, 1) := by decide +kernel
theorem dX8_cam_21 : decode cX8_cam 21 = .ok (.aload_n 0, 1) := by decide +kernel
theorem dX8_cam_22 : decode cX8_cam 22 = .ok (.iload_n 3, 1) := by decide +kernel
theorem dX8_cam_23 : decode cX8_cam 23 = .ok (.ifCond .eq 7, 3) := by decide +kernel
theorem dX8_cam_26 : decode cX8_cam 26 = .ok (.iconst 0, 1) := by decide +kernel
theorem dX8_cam_27 : decode cX8_cam 27 = .ok (.goto 4, 3) := by decide +kernel
theorem dX8_cam_30 : decode cX8_cam 30 = .ok (.iconst 1, 1) := by decide +kernel
theorem dX8_cam_31 : decode cX8_cam 31 = .ok (.putfield 31, 3) := by decide +kernel
theorem dX8_cam_34 : decode cX8_cam 34 = .ok (.iload_n 3, 1) := by decide +kernel
theorem dX8_cam_35 : decode cX8_cam 35 = .ok (.ifCond .eq 16, 3) := by decide +kernel
theorem dX8_cam_38 : decode cX8_cam 38 = .ok (.aload_n 0, 1) := by decide +kernel
theorem dX8_cam_39 : decode cX8_cam 39 = .ok (.iload_n 1, 1) := by decide +kernel
theorem dX8_cam_40 : decode cX8_cam 40 = .ok (.iload_n 2, 1) := by decide +kernel
theorem dX8_cam_41 : decode cX8_cam 41 = .ok (.invokevirtual 44, 3) := by decide +kernel
theorem dX8_cam_44 : decode cX8_cam 44 = .ok (.ifCond .eq 7, 3) := by decide +kernel
theorem dX8_cam_47 : decode cX8_cam 47 = .ok (.iconst 1, 1) := by decide +kernel
theorem dX8_cam_48 : decode cX8_cam 48 = .ok (.goto 4, 3) := by decide +kernel
theorem dX8_cam_51 : decode cX8_cam 51 = .ok (.iconst 0, 1) := by decide +kernel
theorem dX8_cam_52 : decode cX8_cam 52 = .ok (.ireturn, 1) := by decide +kernel
theorem dX8_cylinderOf_0 : decode cX8_cylinderOf 0 = .ok (.iload_n 2, 1) := by decide +kernel
theorem dX8_cylinderOf_1 : decode cX8_cylinderOf 1 = .ok (.tableswitch 60 4 7 #[31, 37, 43, 43], 31) := by decide +kernel
theorem dX8_cylinderOf_32 : decode cX8_cylinderOf 32 = .ok (.aload_n 0, 1) := by decide +kernel
theorem dX8_cylinderOf_33 : decode cX8_cylinderOf 33 = .ok (.iload_n 1, 1) := by decide +kernel
theorem dX8_cylinderOf_34 : decode cX8_cylinderOf 34 = .ok (.invokevirtual 62, 3) := by decide +kernel
theorem dX8_cylinderOf_37 : decode cX8_cylinderOf 37 = .ok (.ireturn, 1) := by decide +kernel
theorem dX8_cylinderOf_38 : decode cX8_cylinderOf 38 = .ok (.aload_n 0, 1) := by decide +kernel
theorem dX8_cylinderOf_39 : decode cX8_cylinderOf 39 = .ok (.iload_n 1, 1) := by decide +kernel
theorem dX8_cylinderOf_40 : decode cX8_cylinderOf 40 = .ok (.invokevirtual 96, 3) := by decide +kernel
theorem dX8_cylinderOf_43 : decode cX8_cylinderOf 43 = .ok (.ireturn, 1) := by decide +kernel
theorem dX8_cylinderOf_44 : decode cX8_cylinderOf 44 = .ok (.aload_n 0, 1) := by decide +kernel
theorem dX8_cylinderOf_45 : decode cX8_cylinderOf 45 = .ok (.getfield 7, 3) := by decide +kernel
theorem dX8_cylinderOf_48 : decode cX8_cylinderOf 48 = .ok (.bipush 21, 2) := by decide +kernel
theorem dX8_cylinderOf_50 : decode cX8_cylinderOf 50 = .ok (.bipush 6, 2) := by decide +kernel
theorem dX8_cylinderOf_52 : decode cX8_cylinderOf 52 = .ok (.iload_n 1, 1) := by decide +kernel
theorem dX8_cylinderOf_53 : decode cX8_cylinderOf 53 = .ok (.imul, 1) := by decide +kernel
theorem dX8_cylinderOf_54 : decode cX8_cylinderOf 54 = .ok (.iadd, 1) := by decide +kernel
theorem dX8_cylinderOf_55 : decode cX8_cylinderOf 55 = .ok (.iload_n 2, 1) := by decide +kernel
theorem dX8_cylinderOf_56 : decode cX8_cylinderOf 56 = .ok (.iadd, 1) := by decide +kernel
theorem dX8_cylinderOf_57 : decode cX8_cylinderOf 57 = .ok (.iconst 2, 1) := by decide +kernel
theorem dX8_cylinderOf_58 : decode cX8_cylinderOf 58 = .ok (.isub, 1) := by decide +kernel
theorem dX8_cylinderOf_59 : decode cX8_cylinderOf 59 = .ok (.iaload, 1) := by decide +kernel
theorem dX8_cylinderOf_60 : decode cX8_cylinderOf 60 = .ok (.ireturn, 1) := by decide +kernel
theorem dX8_cylinderOf_61 : decode cX8_cylinderOf 61 = .ok (.aload_n 0, 1) := by decide +kernel
theorem dX8_cylinderOf_62 : decode cX8_cylinderOf 62 = .ok (.getfield 7, 3) := by decide +kernel
theorem dX8_cylinderOf_65 : decode cX8_cylinderOf 65 = .ok (.bipush 21, 2) := by decide +kernel
theorem dX8_cylinderOf_67 : decode cX8_cylinderOf 67 = .ok (.bipush 6, 2) := by decide +kernel
theorem dX8_cylinderOf_69 : decode cX8_cylinderOf 69 = .ok (.iload_n 1, 1) := by decide +kernel
theorem dX8_cylinderOf_70 : decode cX8_cylinderOf 70 = .ok (.imul, 1) := by decide +kernel
theorem dX8_cylinderOf_71 : decode cX8_cylinderOf 71 = .ok (.iadd, 1) := by decide +kernel
theorem dX8_cylinderOf_72 : decode cX8_cylinderOf 72 = .ok (.iload_n 2, 1) := by decide +kernel
theorem dX8_cylinderOf_73 : decode cX8_cylinderOf 73 = .ok (.iadd, 1) := by decide +kernel
theorem dX8_cylinderOf_74 : decode cX8_cylinderOf 74 = .ok (.iaload, 1) := by decide +kernel
theorem dX8_cylinderOf_75 : decode cX8_cylinderOf 75 = .ok (.ireturn, 1) := by decide +kernel
theorem dX8_cylinder_0 : decode cX8_cylinder 0 = .ok (.iload_n 1, 1) := by decide +kernel
theorem dX8_cylinder_1 : decode cX8_cylinder 1 = .ok (.invokestatic 48, 3) := by decide +kernel
theorem dX8_cylinder_4 : decode cX8_cylinder 4 = .ok (.ifCond .ne 9, 3) := by decide +kernel
theorem dX8_cylinder_7 : decode cX8_cylinder 7 = .ok (.aload_n 0, 1) := by decide +kernel
theorem dX8_cylinder_8 : decode cX8_cylinder 8 = .ok (.iconst 1, 1) := by decide +kernel
theorem dX8_cylinder_9 : decode cX8_cylinder 9 = .ok (.invokevirtual 55, 3) := by decide +kernel
theorem dX8_cylinder_12 : decode cX8_cylinder 12 = .ok (.ireturn, 1) := by decide +kernel
theorem dX8_cylinder_13 : decode cX8_cylinder 13 = .ok (.iload_n 2, 1) := by decide +kernel
theorem dX8_cylinder_14 : decode cX8_cylinder 14 = .ok (.i2l, 1) := by decide +kernel
theorem dX8_cylinder_15 : decode cX8_cylinder 15 = .ok (.lconst 0, 1) := by decide +kernel
theorem dX8_cylinder_16 : decode cX8_cylinder 16 = .ok (.ldc2_w 121, 3) := by decide +kernel
theorem dX8_cylinder_19 : decode cX8_cylinder 19 = .ok (.invokestatic 40, 3) := by decide +kernel
theorem dX8_cylinder_22 : decode cX8_cylinder 22 = .ok (.ifCond .eq 16, 3) := by decide +kernel
theorem dX8_cylinder_25 : decode cX8_cylinder 25 = .ok (.aload_n 0, 1) := by decide +kernel
theorem dX8_cylinder_26 : decode cX8_cylinder 26 = .ok (.aload_n 0, 1) := by decide +kernel
theorem dX8_cylinder_27 : decode cX8_cylinder 27 = .ok (.iload_n 1, 1) := by decide +kernel
theorem dX8_cylinder_28 : decode cX8_cylinder 28 = .ok (.iload_n 2, 1) := by decide +kernel
theorem dX8_cylinder_29 : decode cX8_cylinder 29 = .ok (.invokevirtual 123, 3) := by decide +kernel
theorem dX8_cylinder_32 : decode cX8_cylinder 32 = .ok (.invokevirtual 65, 3) := by decide +kernel
theorem dX8_cylinder_35 : decode cX8_cylinder 35 = .ok (.goto 8, 3) := by decide +kernel
theorem dX8_cylinder_38 : decode cX8_cylinder 38 = .ok (.aload_n 0, 1) := by decide +kernel
theorem dX8_cylinder_39 : decode cX8_cylinder 39 = .ok (.iconst 2, 1) := by decide +kernel
theorem dX8_cylinder_40 : decode cX8_cylinder 40 = .ok (.invokevirtual 55, 3) := by decide +kernel
theorem dX8_cylinder_43 : decode cX8_cylinder 43 = .ok (.ireturn, 1) := by decide +kernel
theorem dX8_guardOf_0 : decode cX8_guardOf 0 = .ok (.iload_n 2, 1) := by decide +kernel
theorem dX8_guardOf_1 : decode cX8_guardOf 1 = .ok (.iconst 3, 1) := by decide +kernel
theorem dX8_guardOf_2 : decode cX8_guardOf 2 = .ok (.if_icmp .ge 19, 3) := by decide +kernel
theorem dX8_guardOf_5 : decode cX8_guardOf 5 = .ok (.aload_n 0, 1) := by decide +kernel
theorem dX8_guardOf_6 : decode cX8_guardOf 6 = .ok (.getfield 7, 3) := by decide +kernel
theorem dX8_guardOf_9 : decode cX8_guardOf 9 = .ok (.bipush 51, 2) := by decide +kernel
theorem dX8_guardOf_11 : decode cX8_guardOf 11 = .ok (.iconst 3, 1) := by decide +kernel
theorem dX8_guardOf_12 : decode cX8_guardOf 12 = .ok (.iload_n 1, 1) := by decide +kernel
theorem dX8_guardOf_13 : decode cX8_guardOf 13 = .ok (.imul, 1) := by decide +kernel
theorem dX8_guardOf_14 : decode cX8_guardOf 14 = .ok (.iadd, 1) := by decide +kernel
theorem dX8_guardOf_15 : decode cX8_guardOf 15 = .ok (.iload_n 2, 1) := by decide +kernel
theorem dX8_guardOf_16 : decode cX8_guardOf 16 = .ok (.iadd, 1) := by decide +kernel
theorem dX8_guardOf_17 : decode cX8_guardOf 17 = .ok (.iaload, 1) := by decide +kernel
theorem dX8_guardOf_18 : decode cX8_guardOf 18 = .ok (.goto 16, 3) := by decide +kernel
theorem dX8_guardOf_21 : decode cX8_guardOf 21 = .ok (.aload_n 0, 1) := by decide +kernel
theorem dX8_guardOf_22 : decode cX8_guardOf 22 = .ok (.iload_n 1, 1) := by decide +kernel
theorem dX8_guardOf_23 : decode cX8_guardOf 23 = .ok (.invokevirtual 93, 3) := by decide +kernel
theorem dX8_guardOf_26 : decode cX8_guardOf 26 = .ok (.ifCond .eq 7, 3) := by decide +kernel
theorem dX8_guardOf_29 : decode cX8_guardOf 29 = .ok (.iconst 1, 1) := by decide +kernel
theorem dX8_guardOf_30 : decode cX8_guardOf 30 = .ok (.goto 4, 3) := by decide +kernel
theorem dX8_guardOf_33 : decode cX8_guardOf 33 = .ok (.iconst 0, 1) := by decide +kernel
theorem dX8_guardOf_34 : decode cX8_guardOf 34 = .ok (.ireturn, 1) := by decide +kernel
theorem dX8_guard_0 : decode cX8_guard 0 = .ok (.aload_n 0, 1) := by decide +kernel
theorem dX8_guard_1 : decode cX8_guard 1 = .ok (.iload_n 1, 1) := by decide +kernel
theorem dX8_guard_2 : decode cX8_guard 2 = .ok (.invokevirtual 90, 3) := by decide +kernel
theorem dX8_guard_5 : decode cX8_guard 5 = .ok (.ifCond .ne 9, 3) := by decide +kernel
theorem dX8_guard_8 : decode cX8_guard 8 = .ok (.aload_n 0, 1) := by decide +kernel
theorem dX8_guard_9 : decode cX8_guard 9 = .ok (.iconst 1, 1) := by decide +kernel
theorem dX8_guard_10 : decode cX8_guard 10 = .ok (.invokevirtual 55, 3) := by decide +kernel
theorem dX8_guard_13 : decode cX8_guard 13 = .ok (.ireturn, 1) := by decide +kernel
theorem dX8_guard_14 : decode cX8_guard 14 = .ok (.iload_n 2, 1) := by decide +kernel
theorem dX8_guard_15 : decode cX8_guard 15 = .ok (.i2l, 1) := by decide +kernel
theorem dX8_guard_16 : decode cX8_guard 16 = .ok (.lconst 0, 1) := by decide +kernel
theorem dX8_guard_17 : decode cX8_guard 17 = .ok (.ldc2_w 127, 3) := by decide +kernel
theorem dX8_guard_20 : decode cX8_guard 20 = .ok (.invokestatic 40, 3) := by decide +kernel
theorem dX8_guard_23 : decode cX8_guard 23 = .ok (.ifCond .eq 16, 3) := by decide +kernel
theorem dX8_guard_26 : decode cX8_guard 26 = .ok (.aload_n 0, 1) := by decide +kernel
theorem dX8_guard_27 : decode cX8_guard 27 = .ok (.aload_n 0, 1) := by decide +kernel
theorem dX8_guard_28 : decode cX8_guard 28 = .ok (.iload_n 1, 1) := by decide +kernel
theorem dX8_guard_29 : decode cX8_guard 29 = .ok (.iload_n 2, 1) := by decide +kernel
theorem dX8_guard_30 : decode cX8_guard 30 = .ok (.invokevirtual 129, 3) := by decide +kernel
theorem dX8_guard_33 : decode cX8_guard 33 = .ok (.invokevirtual 65, 3) := by decide +kernel
theorem dX8_guard_36 : decode cX8_guard 36 = .ok (.goto 8, 3) := by decide +kernel
theorem dX8_guard_39 : decode cX8_guard 39 = .ok (.aload_n 0, 1) := by decide +kernel
theorem dX8_guard_40 : decode cX8_guard 40 = .ok (.iconst 2, 1) := by decide +kernel
theorem dX8_guard_41 : decode cX8_guard 41 = .ok (.invokevirtual 55, 3) := by decide +kernel
theorem dX8_guard_44 : decode cX8_guard 44 = .ok (.ireturn, 1) := by decide +kernel
theorem dX8_value_0 : decode cX8_value 0 = .ok (.iload_n 1, 1) := by decide +kernel
theorem dX8_value_1 : decode cX8_value 1 = .ok (.i2l, 1) := by decide +kernel
theorem dX8_value_2 : decode cX8_value 2 = .ok (.lconst 0, 1) := by decide +kernel
theorem dX8_value_3 : decode cX8_value 3 = .ok (.ldc2_w 132, 3) := by decide +kernel
theorem dX8_value_6 : decode cX8_value 6 = .ok (.invokestatic 40, 3) := by decide +kernel
theorem dX8_value_9 : decode cX8_value 9 = .ok (.ifCond .eq 16, 3) := by decide +kernel
theorem dX8_value_12 : decode cX8_value 12 = .ok (.aload_n 0, 1) := by decide +kernel
theorem dX8_value_13 : decode cX8_value 13 = .ok (.aload_n 0, 1) := by decide +kernel
theorem dX8_value_14 : decode cX8_value 14 = .ok (.getfield 7, 3) := by decide +kernel
theorem dX8_value_17 : decode cX8_value 17 = .ok (.iload_n 1, 1) := by decide +kernel
theorem dX8_value_18 : decode cX8_value 18 = .ok (.iaload, 1) := by decide +kernel
theorem dX8_value_19 : decode cX8_value 19 = .ok (.invokevirtual 65, 3) := by decide +kernel
theorem dX8_value_22 : decode cX8_value 22 = .ok (.goto 8, 3) := by decide +kernel
theorem dX8_value_25 : decode cX8_value 25 = .ok (.aload_n 0, 1) := by decide +kernel
theorem dX8_value_26 : decode cX8_value 26 = .ok (.iconst 1, 1) := by decide +kernel
theorem dX8_value_27 : decode cX8_value 27 = .ok (.invokevirtual 55, 3) := by decide +kernel
theorem dX8_value_30 : decode cX8_value 30 = .ok (.ireturn, 1) := by decide +kernel
theorem dX8_chart_0 : decode cX8_chart 0 = .ok (.iload_n 1, 1) := by decide +kernel
theorem dX8_chart_1 : decode cX8_chart 1 = .ok (.invokestatic 48, 3) := by decide +kernel
theorem dX8_chart_4 : decode cX8_chart 4 = .ok (.ifCond .eq 32, 3) := by decide +kernel
theorem dX8_chart_7 : decode cX8_chart 7 = .ok (.aload_n 0, 1) := by decide +kernel
theorem dX8_chart_8 : decode cX8_chart 8 = .ok (.iload_n 2, 1) := by decide +kernel
theorem dX8_chart_9 : decode cX8_chart 9 = .ok (.invokevirtual 52, 3) := by decide +kernel
theorem dX8_chart_12 : decode cX8_chart 12 = .ok (.ifCond .eq 24, 3) := by decide +kernel
theorem dX8_chart_15 : decode cX8_chart 15 = .ok (.aload_n 0, 1) := by decide +kernel
theorem dX8_chart_16 : decode cX8_chart 16 = .ok (.aload_n 0, 1) := by decide +kernel
theorem dX8_chart_17 : decode cX8_chart 17 = .ok (.getfield 7, 3) := by decide +kernel
theorem dX8_chart_20 : decode cX8_chart 20 = .ok (.bipush 63, 2) := by decide +kernel
theorem dX8_chart_22 : decode cX8_chart 22 = .ok (.bipush 16, 2) := by decide +kernel
theorem dX8_chart_24 : decode cX8_chart 24 = .ok (.iload_n 1, 1) := by decide +kernel
theorem dX8_chart_25 : decode cX8_chart 25 = .ok (.imul, 1) := by decide +kernel
theorem dX8_chart_26 : decode cX8_chart 26 = .ok (.iadd, 1) := by decide +kernel
theorem dX8_chart_27 : decode cX8_chart 27 = .ok (.iload_n 2, 1) := by decide +kernel
theorem dX8_chart_28 : decode cX8_chart 28 = .ok (.iadd, 1) := by decide +kernel
theorem dX8_chart_29 : decode cX8_chart 29 = .ok (.iaload, 1) := by decide +kernel
theorem dX8_chart_30 : decode cX8_chart 30 = .ok (.invokevirtual 65, 3) := by decide +kernel
theorem dX8_chart_33 : decode cX8_chart 33 = .ok (.goto 8, 3) := by decide +kernel
theorem dX8_chart_36 : decode cX8_chart 36 = .ok (.aload_n 0, 1) := by decide +kernel
theorem dX8_chart_37 : decode cX8_chart 37 = .ok (.iconst 1, 1) := by decide +kernel
theorem dX8_chart_38 : decode cX8_chart 38 = .ok (.invokevirtual 55, 3) := by decide +kernel
theorem dX8_chart_41 : decode cX8_chart 41 = .ok (.ireturn, 1) := by decide +kernel
theorem dX8_skips_0 : decode cX8_skips 0 = .ok (.aload_n 0, 1) := by decide +kernel
theorem dX8_skips_1 : decode cX8_skips 1 = .ok (.iload_n 1, 1) := by decide +kernel
theorem dX8_skips_2 : decode cX8_skips 2 = .ok (.invokevirtual 52, 3) := by decide +kernel
theorem dX8_skips_5 : decode cX8_skips 5 = .ok (.ifCond .eq 20, 3) := by decide +kernel
theorem dX8_skips_8 : decode cX8_skips 8 = .ok (.aload_n 0, 1) := by decide +kernel
theorem dX8_skips_9 : decode cX8_skips 9 = .ok (.aload_n 0, 1) := by decide +kernel
theorem dX8_skips_10 : decode cX8_skips 10 = .ok (.getfield 7, 3) := by decide +kernel
theorem dX8_skips_13 : decode cX8_skips 13 = .ok (.sipush 143, 3) := by decide +kernel
theorem dX8_skips_16 : decode cX8_skips 16 = .ok (.iload_n 1, 1) := by decide +kernel
theorem dX8_skips_17 : decode cX8_skips 17 = .ok (.iadd, 1) := by decide +kernel
theorem dX8_skips_18 : decode cX8_skips 18 = .ok (.iaload, 1) := by decide +kernel
theorem dX8_skips_19 : decode cX8_skips 19 = .ok (.invokevirtual 65, 3) := by decide +kernel
theorem dX8_skips_22 : decode cX8_skips 22 = .ok (.goto 8, 3) := by decide +kernel
theorem dX8_skips_25 : decode cX8_skips 25 = .ok (.aload_n 0, 1) := by decide +kernel
theorem dX8_skips_26 : decode cX8_skips 26 = .ok (.iconst 1, 1) := by decide +kernel
theorem dX8_skips_27 : decode cX8_skips 27 = .ok (.invokevirtual 55, 3) := by decide +kernel
theorem dX8_skips_30 : decode cX8_skips 30 = .ok (.ireturn, 1) := by decide +kernel
theorem dX8_ticksToOut_0 : decode cX8_ticksToOut 0 = .ok (.iload_n 1, 1) := by decide +kernel
theorem dX8_ticksToOut_1 : decode cX8_ticksToOut 1 = .ok (.invokestatic 48, 3) := by decide +kernel
theorem dX8_ticksToOut_4 : decode cX8_ticksToOut 4 = .ok (.ifCond .ne 9, 3) := by decide +kernel
theorem dX8_ticksToOut_7 : decode cX8_ticksToOut 7 = .ok (.aload_n 0, 1) := by decide +kernel
theorem dX8_ticksToOut_8 : decode cX8_ticksToOut 8 = .ok (.iconst 1, 1) := by decide +kernel
theorem dX8_ticksToOut_9 : decode cX8_ticksToOut 9 = .ok (.invokevirtual 55, 3) := by decide +kernel
theorem dX8_ticksToOut_12 : decode cX8_ticksToOut 12 = .ok (.ireturn, 1) := by decide +kernel
theorem dX8_ticksToOut_13 : decode cX8_ticksToOut 13 = .ok (.aload_n 0, 1) := by decide +kernel
theorem dX8_ticksToOut_14 : decode cX8_ticksToOut 14 = .ok (.invokevirtual 134, 3) := by decide +kernel
theorem dX8_ticksToOut_17 : decode cX8_ticksToOut 17 = .ok (.iconst 0, 1) := by decide +kernel
theorem dX8_ticksToOut_18 : decode cX8_ticksToOut 18 = .ok (.istore_n 2, 1) := by decide +kernel
theorem dX8_ticksToOut_19 : decode cX8_ticksToOut 19 = .ok (.iload_n 2, 1) := by decide +kernel
theorem dX8_ticksToOut_20 : decode cX8_ticksToOut 20 = .ok (.sipush 500, 3) := by decide +kernel
theorem dX8_ticksToOut_23 : decode cX8_ticksToOut 23 = .ok (.if_icmp .ge 23, 3) := by decide +kernel
theorem dX8_ticksToOut_26 : decode cX8_ticksToOut 26 = .ok (.aload_n 0, 1) := by decide +kernel
theorem dX8_ticksToOut_27 : decode cX8_ticksToOut 27 = .ok (.iload_n 1, 1) := by decide +kernel
theorem dX8_ticksToOut_28 : decode cX8_ticksToOut 28 = .ok (.invokevirtual 76, 3) := by decide +kernel
theorem dX8_ticksToOut_31 : decode cX8_ticksToOut 31 = .ok (.bipush 100, 2) := by decide +kernel
theorem dX8_ticksToOut_33 : decode cX8_ticksToOut 33 = .ok (.if_icmp .ge 13, 3) := by decide +kernel
theorem dX8_ticksToOut_36 : decode cX8_ticksToOut 36 = .ok (.aload_n 0, 1) := by decide +kernel
theorem dX8_ticksToOut_37 : decode cX8_ticksToOut 37 = .ok (.invokevirtual 118, 3) := by decide +kernel
theorem dX8_ticksToOut_40 : decode cX8_ticksToOut 40 = .ok (.iinc 2 1, 3) := by decide +kernel
theorem dX8_ticksToOut_43 : decode cX8_ticksToOut 43 = .ok (.goto (-24), 3) := by decide +kernel
theorem dX8_ticksToOut_46 : decode cX8_ticksToOut 46 = .ok (.aload_n 0, 1) := by decide +kernel
theorem dX8_ticksToOut_47 : decode cX8_ticksToOut 47 = .ok (.iload_n 1, 1) := by decide +kernel
theorem dX8_ticksToOut_48 : decode cX8_ticksToOut 48 = .ok (.invokevirtual 76, 3) := by decide +kernel
theorem dX8_ticksToOut_51 : decode cX8_ticksToOut 51 = .ok (.bipush 100, 2) := by decide +kernel
theorem dX8_ticksToOut_53 : decode cX8_ticksToOut 53 = .ok (.if_icmp .ne 7, 3) := by decide +kernel
theorem dX8_ticksToOut_56 : decode cX8_ticksToOut 56 = .ok (.iload_n 2, 1) := by decide +kernel
theorem dX8_ticksToOut_57 : decode cX8_ticksToOut 57 = .ok (.goto 4, 3) := by decide +kernel
theorem dX8_ticksToOut_60 : decode cX8_ticksToOut 60 = .ok (.iconst (-1), 1) := by decide +kernel
theorem dX8_ticksToOut_61 : decode cX8_ticksToOut 61 = .ok (.istore_n 3, 1) := by decide +kernel
theorem dX8_ticksToOut_62 : decode cX8_ticksToOut 62 = .ok (.aload_n 0, 1) := by decide +kernel
theorem dX8_ticksToOut_63 : decode cX8_ticksToOut 63 = .ok (.invokevirtual 137, 3) := by decide +kernel
theorem dX8_ticksToOut_66 : decode cX8_ticksToOut 66 = .ok (.aload_n 0, 1) := by decide +kernel
theorem dX8_ticksToOut_67 : decode cX8_ticksToOut 67 = .ok (.iload_n 3, 1) := by decide +kernel
theorem dX8_ticksToOut_68 : decode cX8_ticksToOut 68 = .ok (.invokevirtual 65, 3) := by decide +kernel
theorem dX8_ticksToOut_71 : decode cX8_ticksToOut 71 = .ok (.ireturn, 1) := by decide +kernel
theorem dX8_passes_0 : decode cX8_passes 0 = .ok (.aload_n 0, 1) := by decide +kernel
theorem dX8_passes_1 : decode cX8_passes 1 = .ok (.getfield 7, 3) := by decide +kernel
theorem dX8_passes_4 : decode cX8_passes 4 = .ok (.bipush 10, 2) := by decide +kernel
theorem dX8_passes_6 : decode cX8_passes 6 = .ok (.iaload, 1) := by decide +kernel
theorem dX8_passes_7 : decode cX8_passes 7 = .ok (.istore_n 2, 1) := by decide +kernel
theorem dX8_passes_8 : decode cX8_passes 8 = .ok (.iconst 0, 1) := by decide +kernel
theorem dX8_passes_9 : decode cX8_passes 9 = .ok (.istore_n 3, 1) := by decide +kernel
theorem dX8_passes_10 : decode cX8_passes 10 = .ok (.iload_n 3, 1) := by decide +kernel
theorem dX8_passes_11 : decode cX8_passes 11 = .ok (.iload_n 1, 1) := by decide +kernel
theorem dX8_passes_12 : decode cX8_passes 12 = .ok (.if_icmp .ge 24, 3) := by decide +kernel
theorem dX8_passes_15 : decode cX8_passes 15 = .ok (.aload_n 0, 1) := by decide +kernel
theorem dX8_passes_16 : decode cX8_passes 16 = .ok (.getfield 7, 3) := by decide +kernel
theorem dX8_passes_19 : decode cX8_passes 19 = .ok (.bipush 10, 2) := by decide +kernel
theorem dX8_passes_21 : decode cX8_passes 21 = .ok (.iaload, 1) := by decide +kernel
theorem dX8_passes_22 : decode cX8_passes 22 = .ok (.iload_n 2, 1) := by decide +kernel
theorem dX8_passes_23 : decode cX8_passes 23 = .ok (.if_icmp .ne 13, 3) := by decide +kernel
theorem dX8_passes_26 : decode cX8_passes 26 = .ok (.aload_n 0, 1) := by decide +kernel
theorem dX8_passes_27 : decode cX8_passes 27 = .ok (.invokevirtual 118, 3) := by decide +kernel
theorem dX8_passes_30 : decode cX8_passes 30 = .ok (.iinc 3 1, 3) := by decide +kernel
theorem dX8_passes_33 : decode cX8_passes 33 = .ok (.goto (-23), 3) := by decide +kernel
theorem dX8_passes_36 : decode cX8_passes 36 = .ok (.aload_n 0, 1) := by decide +kernel
theorem dX8_passes_37 : decode cX8_passes 37 = .ok (.getfield 7, 3) := by decide +kernel
theorem dX8_passes_40 : decode cX8_passes 40 = .ok (.bipush 10, 2) := by decide +kernel
theorem dX8_passes_42 : decode cX8_passes 42 = .ok (.iaload, 1) := by decide +kernel
theorem dX8_passes_43 : decode cX8_passes 43 = .ok (.iload_n 2, 1) := by decide +kernel
theorem dX8_passes_44 : decode cX8_passes 44 = .ok (.if_icmp .ne 9, 3) := by decide +kernel
theorem dX8_passes_47 : decode cX8_passes 47 = .ok (.iload_n 1, 1) := by decide +kernel
theorem dX8_passes_48 : decode cX8_passes 48 = .ok (.iconst 1, 1) := by decide +kernel
theorem dX8_passes_49 : decode cX8_passes 49 = .ok (.iadd, 1) := by decide +kernel
theorem dX8_passes_50 : decode cX8_passes 50 = .ok (.goto 4, 3) := by decide +kernel
theorem dX8_passes_53 : decode cX8_passes 53 = .ok (.iload_n 3, 1) := by decide +kernel
theorem dX8_passes_54 : decode cX8_passes 54 = .ok (.ireturn, 1) := by decide +kernel
theorem dX8_toCycle_0 : decode cX8_toCycle 0 = .ok (.aload_n 0, 1) := by decide +kernel
theorem dX8_toCycle_1 : decode cX8_toCycle 1 = .ok (.invokevirtual 134, 3) := by decide +kernel
theorem dX8_toCycle_4 : decode cX8_toCycle 4 = .ok (.aload_n 0, 1) := by decide +kernel
theorem dX8_toCycle_5 : decode cX8_toCycle 5 = .ok (.sipush 1000, 3) := by decide +kernel
theorem dX8_toCycle_8 : decode cX8_toCycle 8 = .ok (.invokevirtual 140, 3) := by decide +kernel
theorem dX8_toCycle_11 : decode cX8_toCycle 11 = .ok (.istore_n 1, 1) := by decide +kernel
theorem dX8_toCycle_12 : decode cX8_toCycle 12 = .ok (.aload_n 0, 1) := by decide +kernel
theorem dX8_toCycle_13 : decode cX8_toCycle 13 = .ok (.invokevirtual 137, 3) := by decide +kernel
theorem dX8_toCycle_16 : decode cX8_toCycle 16 = .ok (.iload_n 1, 1) := by decide +kernel
theorem dX8_toCycle_17 : decode cX8_toCycle 17 = .ok (.sipush 1000, 3) := by decide +kernel
theorem dX8_toCycle_20 : decode cX8_toCycle 20 = .ok (.if_icmp .le 7, 3) := by decide +kernel
theorem dX8_toCycle_23 : decode cX8_toCycle 23 = .ok (.iconst (-1), 1) := by decide +kernel
theorem dX8_toCycle_24 : decode cX8_toCycle 24 = .ok (.goto 4, 3) := by decide +kernel
theorem dX8_toCycle_27 : decode cX8_toCycle 27 = .ok (.iload_n 1, 1) := by decide +kernel
theorem dX8_toCycle_28 : decode cX8_toCycle 28 = .ok (.ireturn, 1) := by decide +kernel
theorem dX8_ticksToCycle_0 : decode cX8_ticksToCycle 0 = .ok (.aload_n 0, 1) := by decide +kernel
theorem dX8_ticksToCycle_1 : decode cX8_ticksToCycle 1 = .ok (.aload_n 0, 1) := by decide +kernel
theorem dX8_ticksToCycle_2 : decode cX8_ticksToCycle 2 = .ok (.invokevirtual 143, 3) := by decide +kernel
theorem dX8_ticksToCycle_5 : decode cX8_ticksToCycle 5 = .ok (.invokevirtual 65, 3) := by decide +kernel
theorem dX8_ticksToCycle_8 : decode cX8_ticksToCycle 8 = .ok (.ireturn, 1) := by decide +kernel
theorem dX8_leastCompressor_0 : decode cX8_leastCompressor 0 = .ok (.iload_n 1, 1) := by decide +kernel
theorem dX8_leastCompressor_1 : decode cX8_leastCompressor 1 = .ok (.i2l, 1) := by decide +kernel
theorem dX8_leastCompressor_2 : decode cX8_leastCompressor 2 = .ok (.lconst 1, 1) := by decide +kernel
theorem dX8_leastCompressor_3 : decode cX8_leastCompressor 3 = .ok (.ldc2_w 147, 3) := by decide +kernel
theorem dX8_leastCompressor_6 : decode cX8_leastCompressor 6 = .ok (.invokestatic 40, 3) := by decide +kernel
theorem dX8_leastCompressor_9 : decode cX8_leastCompressor 9 = .ok (.ifCond .ne 9, 3) := by decide +kernel
theorem dX8_leastCompressor_12 : decode cX8_leastCompressor 12 = .ok (.aload_n 0, 1) := by decide +kernel
theorem dX8_leastCompressor_13 : decode cX8_leastCompressor 13 = .ok (.iconst 1, 1) := by decide +kernel
theorem dX8_leastCompressor_14 : decode cX8_leastCompressor 14 = .ok (.invokevirtual 55, 3) := by decide +kernel
theorem dX8_leastCompressor_17 : decode cX8_leastCompressor 17 = .ok (.ireturn, 1) := by decide +kernel
theorem dX8_leastCompressor_18 : decode cX8_leastCompressor 18 = .ok (.iconst (-1), 1) := by decide +kernel
theorem dX8_leastCompressor_19 : decode cX8_leastCompressor 19 = .ok (.istore_n 2, 1) := by decide +kernel
theorem dX8_leastCompressor_20 : decode cX8_leastCompressor 20 = .ok (.sipush 500, 3) := by decide +kernel
theorem dX8_leastCompressor_23 : decode cX8_leastCompressor 23 = .ok (.istore_n 3, 1) := by decide +kernel
theorem dX8_leastCompressor_24 : decode cX8_leastCompressor 24 = .ok (.iload_n 3, 1) := by decide +kernel
theorem dX8_leastCompressor_25 : decode cX8_leastCompressor 25 = .ok (.ifCond .lt 71, 3) := by decide +kernel
theorem dX8_leastCompressor_28 : decode cX8_leastCompressor 28 = .ok (.aload_n 0, 1) := by decide +kernel
theorem dX8_leastCompressor_29 : decode cX8_leastCompressor 29 = .ok (.invokevirtual 134, 3) := by decide +kernel
theorem dX8_leastCompressor_32 : decode cX8_leastCompressor 32 = .ok (.aload_n 0, 1) := by decide +kernel
theorem dX8_leastCompressor_33 : decode cX8_leastCompressor 33 = .ok (.getfield 7, 3) := by decide +kernel
theorem dX8_leastCompressor_36 : decode cX8_leastCompressor 36 = .ok (.bipush 7, 2) := by decide +kernel
theorem dX8_leastCompressor_38 : decode cX8_leastCompressor 38 = .ok (.iload_n 3, 1) := by decide +kernel
theorem dX8_leastCompressor_39 : decode cX8_leastCompressor 39 = .ok (.iastore, 1) := by decide +kernel
theorem dX8_leastCompressor_40 : decode cX8_leastCompressor 40 = .ok (.aload_n 0, 1) := by decide +kernel
theorem dX8_leastCompressor_41 : decode cX8_leastCompressor 41 = .ok (.getfield 7, 3) := by decide +kernel
theorem dX8_leastCompressor_44 : decode cX8_leastCompressor 44 = .ok (.bipush 11, 2) := by decide +kernel
theorem dX8_leastCompressor_46 : decode cX8_leastCompressor 46 = .ok (.iaload, 1) := by decide +kernel
theorem dX8_leastCompressor_47 : decode cX8_leastCompressor 47 = .ok (.istore 4, 2) := by decide +kernel
theorem dX8_leastCompressor_49 : decode cX8_leastCompressor 49 = .ok (.iconst 0, 1) := by decide +kernel
theorem dX8_leastCompressor_50 : decode cX8_leastCompressor 50 = .ok (.istore 5, 2) := by decide +kernel
theorem dX8_leastCompressor_52 : decode cX8_leastCompressor 52 = .ok (.iload 5, 2) := by decide +kernel
theorem dX8_leastCompressor_54 : decode cX8_leastCompressor 54 = .ok (.iload_n 1, 1) := by decide +kernel
theorem dX8_leastCompressor_55 : decode cX8_leastCompressor 55 = .ok (.if_icmp .ge 13, 3) := by decide +kernel
theorem dX8_leastCompressor_58 : decode cX8_leastCompressor 58 = .ok (.aload_n 0, 1) := by decide +kernel
theorem dX8_leastCompressor_59 : decode cX8_leastCompressor 59 = .ok (.invokevirtual 118, 3) := by decide +kernel
theorem dX8_leastCompressor_62 : decode cX8_leastCompressor 62 = .ok (.iinc 5 1, 3) := by decide +kernel
theorem dX8_leastCompressor_65 : decode cX8_leastCompressor 65 = .ok (.goto (-13), 3) := by decide +kernel
theorem dX8_leastCompressor_68 : decode cX8_leastCompressor 68 = .ok (.aload_n 0, 1) := by decide +kernel
theorem dX8_leastCompressor_69 : decode cX8_leastCompressor 69 = .ok (.getfield 7, 3) := by decide +kernel
theorem dX8_leastCompressor_72 : decode cX8_leastCompressor 72 = .ok (.bipush 11, 2) := by decide +kernel
theorem dX8_leastCompressor_74 : decode cX8_leastCompressor 74 = .ok (.iaload, 1) := by decide +kernel
theorem dX8_leastCompressor_75 : decode cX8_leastCompressor 75 = .ok (.iload 4, 2) := by decide +kernel
theorem dX8_leastCompressor_77 : decode cX8_leastCompressor 77 = .ok (.if_icmp .ne 7, 3) := by decide +kernel
theorem dX8_leastCompressor_80 : decode cX8_leastCompressor 80 = .ok (.iload_n 3, 1) := by decide +kernel
theorem dX8_leastCompressor_81 : decode cX8_leastCompressor 81 = .ok (.goto 4, 3) := by decide +kernel
theorem dX8_leastCompressor_84 : decode cX8_leastCompressor 84 = .ok (.iload_n 2, 1) := by decide +kernel
theorem dX8_leastCompressor_85 : decode cX8_leastCompressor 85 = .ok (.istore_n 2, 1) := by decide +kernel
theorem dX8_leastCompressor_86 : decode cX8_leastCompressor 86 = .ok (.aload_n 0, 1) := by decide +kernel
theorem dX8_leastCompressor_87 : decode cX8_leastCompressor 87 = .ok (.invokevirtual 137, 3) := by decide +kernel
theorem dX8_leastCompressor_90 : decode cX8_leastCompressor 90 = .ok (.iinc 3 (-10), 3) := by decide +kernel
theorem dX8_leastCompressor_93 : decode cX8_leastCompressor 93 = .ok (.goto (-69), 3) := by decide +kernel
theorem dX8_leastCompressor_96 : decode cX8_leastCompressor 96 = .ok (.aload_n 0, 1) := by decide +kernel
theorem dX8_leastCompressor_97 : decode cX8_leastCompressor 97 = .ok (.iload_n 2, 1) := by decide +kernel
theorem dX8_leastCompressor_98 : decode cX8_leastCompressor 98 = .ok (.invokevirtual 65, 3) := by decide +kernel
theorem dX8_leastCompressor_101 : decode cX8_leastCompressor 101 = .ok (.ireturn, 1) := by decide +kernel
theorem dX8_does_0 : decode cX8_does 0 = .ok (.aload_n 0, 1) := by decide +kernel
theorem dX8_does_1 : decode cX8_does 1 = .ok (.getfield 7, 3) := by decide +kernel
theorem dX8_does_4 : decode cX8_does 4 = .ok (.iconst 3, 1) := by decide +kernel
theorem dX8_does_5 : decode cX8_does 5 = .ok (.iload_n 1, 1) := by decide +kernel
theorem dX8_does_6 : decode cX8_does 6 = .ok (.iastore, 1) := by decide +kernel
theorem dX8_does_7 : decode cX8_does 7 = .ok (.aload_n 0, 1) := by decide +kernel
theorem dX8_does_8 : decode cX8_does 8 = .ok (.getfield 7, 3) := by decide +kernel
theorem dX8_does_11 : decode cX8_does 11 = .ok (.iconst 1, 1) := by decide +kernel
theorem dX8_does_12 : decode cX8_does 12 = .ok (.iconst 0, 1) := by decide +kernel
theorem dX8_does_13 : decode cX8_does 13 = .ok (.iastore, 1) := by decide +kernel
theorem dX8_does_14 : decode cX8_does 14 = .ok (.aload_n 0, 1) := by decide +kernel
theorem dX8_does_15 : decode cX8_does 15 = .ok (.getfield 7, 3) := by decide +kernel
theorem dX8_does_18 : decode cX8_does 18 = .ok (.iconst 2, 1) := by decide +kernel
theorem dX8_does_19 : decode cX8_does 19 = .ok (.iconst 0, 1) := by decide +kernel
theorem dX8_does_20 : decode cX8_does 20 = .ok (.iastore, 1) := by decide +kernel
theorem dX8_does_21 : decode cX8_does 21 = .ok (.iconst 0, 1) := by decide +kernel
theorem dX8_does_22 : decode cX8_does 22 = .ok (.istore_n 2, 1) := by decide +kernel
theorem dX8_does_23 : decode cX8_does 23 = .ok (.iload_n 2, 1) := by decide +kernel
theorem dX8_does_24 : decode cX8_does 24 = .ok (.iconst 5, 1) := by decide +kernel
theorem dX8_does_25 : decode cX8_does 25 = .ok (.if_icmp .ge 22, 3) := by decide +kernel
theorem dX8_does_28 : decode cX8_does 28 = .ok (.aload_n 0, 1) := by decide +kernel
theorem dX8_does_29 : decode cX8_does 29 = .ok (.getfield 7, 3) := by decide +kernel
theorem dX8_does_32 : decode cX8_does 32 = .ok (.bipush 21, 2) := by decide +kernel
theorem dX8_does_34 : decode cX8_does 34 = .ok (.bipush 6, 2) := by decide +kernel
theorem dX8_does_36 : decode cX8_does 36 = .ok (.iload_n 2, 1) := by decide +kernel
theorem dX8_does_37 : decode cX8_does 37 = .ok (.imul, 1) := by decide +kernel
theorem dX8_does_38 : decode cX8_does 38 = .ok (.iadd, 1) := by decide +kernel
theorem dX8_does_39 : decode cX8_does 39 = .ok (.iconst 0, 1) := by decide +kernel
theorem dX8_does_40 : decode cX8_does 40 = .ok (.iastore, 1) := by decide +kernel
theorem dX8_does_41 : decode cX8_does 41 = .ok (.iinc 2 1, 3) := by decide +kernel
theorem dX8_does_44 : decode cX8_does 44 = .ok (.goto (-21), 3) := by decide +kernel
theorem dX8_does_47 : decode cX8_does 47 = .ok (.aload_n 0, 1) := by decide +kernel
theorem dX8_does_48 : decode cX8_does 48 = .ok (.getfield 7, 3) := by decide +kernel
theorem dX8_does_51 : decode cX8_does 51 = .ok (.bipush 10, 2) := by decide +kernel
theorem dX8_does_53 : decode cX8_does 53 = .ok (.iaload, 1) := by decide +kernel
theorem dX8_does_54 : decode cX8_does 54 = .ok (.istore_n 2, 1) := by decide +kernel
theorem dX8_does_55 : decode cX8_does 55 = .ok (.iconst 0, 1) := by decide +kernel
theorem dX8_does_56 : decode cX8_does 56 = .ok (.istore_n 3, 1) := by decide +kernel
theorem dX8_does_57 : decode cX8_does 57 = .ok (.iload_n 3, 1) := by decide +kernel
theorem dX8_does_58 : decode cX8_does 58 = .ok (.sipush 1000, 3) := by decide +kernel
theorem dX8_does_61 : decode cX8_does 61 = .ok (.if_icmp .ge 40, 3) := by decide +kernel
theorem dX8_does_64 : decode cX8_does 64 = .ok (.aload_n 0, 1) := by decide +kernel
theorem dX8_does_65 : decode cX8_does 65 = .ok (.getfield 7, 3) := by decide +kernel
theorem dX8_does_68 : decode cX8_does 68 = .ok (.bipush 10, 2) := by decide +kernel
theorem dX8_does_70 : decode cX8_does 70 = .ok (.iaload, 1) := by decide +kernel
theorem dX8_does_71 : decode cX8_does 71 = .ok (.iload_n 2, 1) := by decide +kernel
theorem dX8_does_72 : decode cX8_does 72 = .ok (.if_icmp .ne 29, 3) := by decide +kernel
theorem dX8_does_75 : decode cX8_does 75 = .ok (.aload_n 0, 1) := by decide +kernel
theorem dX8_does_76 : decode cX8_does 76 = .ok (.invokevirtual 118, 3) := by decide +kernel
theorem dX8_does_79 : decode cX8_does 79 = .ok (.aload_n 0, 1) := by decide +kernel
theorem dX8_does_80 : decode cX8_does 80 = .ok (.getfield 99, 3) := by decide +kernel
theorem dX8_does_83 : decode cX8_does 83 = .ok (.ifCond .eq 12, 3) := by decide +kernel
theorem dX8_does_86 : decode cX8_does 86 = .ok (.aload_n 0, 1) := by decide +kernel
theorem dX8_does_87 : decode cX8_does 87 = .ok (.getfield 107, 3) := by decide +kernel
theorem dX8_does_90 : decode cX8_does 90 = .ok (.ifCond .ne 5, 3) := by decide +kernel
theorem dX8_does_93 : decode cX8_does 93 = .ok (.iconst 0, 1) := by decide +kernel
theorem dX8_does_94 : decode cX8_does 94 = .ok (.ireturn, 1) := by decide +kernel
theorem dX8_does_95 : decode cX8_does 95 = .ok (.iinc 3 1, 3) := by decide +kernel
theorem dX8_does_98 : decode cX8_does 98 = .ok (.goto (-41), 3) := by decide +kernel
theorem dX8_does_101 : decode cX8_does 101 = .ok (.aload_n 0, 1) := by decide +kernel
theorem dX8_does_102 : decode cX8_does 102 = .ok (.getfield 7, 3) := by decide +kernel
theorem dX8_does_105 : decode cX8_does 105 = .ok (.bipush 10, 2) := by decide +kernel
theorem dX8_does_107 : decode cX8_does 107 = .ok (.iaload, 1) := by decide +kernel
theorem dX8_does_108 : decode cX8_does 108 = .ok (.iload_n 2, 1) := by decide +kernel
theorem dX8_does_109 : decode cX8_does 109 = .ok (.if_icmp .le 7, 3) := by decide +kernel
theorem dX8_does_112 : decode cX8_does 112 = .ok (.iconst 1, 1) := by decide +kernel
theorem dX8_does_113 : decode cX8_does 113 = .ok (.goto 4, 3) := by decide +kernel
theorem dX8_does_116 : decode cX8_does 116 = .ok (.iconst 0, 1) := by decide +kernel
theorem dX8_does_117 : decode cX8_does 117 = .ok (.ireturn, 1) := by decide +kernel
theorem dX8_shortestDwell_0 : decode cX8_shortestDwell 0 = .ok (.iconst (-1), 1) := by decide +kernel
theorem dX8_shortestDwell_1 : decode cX8_shortestDwell 1 = .ok (.istore_n 1, 1) := by decide +kernel
theorem dX8_shortestDwell_2 : decode cX8_shortestDwell 2 = .ok (.iconst 1, 1) := by decide +kernel
theorem dX8_shortestDwell_3 : decode cX8_shortestDwell 3 = .ok (.istore_n 2, 1) := by decide +kernel
theorem dX8_shortestDwell_4 : decode cX8_shortestDwell 4 = .ok (.iload_n 2, 1) := by decide +kernel
theorem dX8_shortestDwell_5 : decode cX8_shortestDwell 5 = .ok (.bipush 20, 2) := by decide +kernel
theorem dX8_shortestDwell_7 : decode cX8_shortestDwell 7 = .ok (.if_icmp .gt 36, 3) := by decide +kernel
theorem dX8_shortestDwell_10 : decode cX8_shortestDwell 10 = .ok (.iload_n 1, 1) := by decide +kernel
theorem dX8_shortestDwell_11 : decode cX8_shortestDwell 11 = .ok (.iconst (-1), 1) := by decide +kernel
theorem dX8_shortestDwell_12 : decode cX8_shortestDwell 12 = .ok (.if_icmp .ne 31, 3) := by decide +kernel
theorem dX8_shortestDwell_15 : decode cX8_shortestDwell 15 = .ok (.aload_n 0, 1) := by decide +kernel
theorem dX8_shortestDwell_16 : decode cX8_shortestDwell 16 = .ok (.invokevirtual 134, 3) := by decide +kernel
theorem dX8_shortestDwell_19 : decode cX8_shortestDwell 19 = .ok (.aload_n 0, 1) := by decide +kernel
theorem dX8_shortestDwell_20 : decode cX8_shortestDwell 20 = .ok (.iload_n 2, 1) := by decide +kernel
theorem dX8_shortestDwell_21 : decode cX8_shortestDwell 21 = .ok (.invokevirtual 149, 3) := by decide +kernel
theorem dX8_shortestDwell_24 : decode cX8_shortestDwell 24 = .ok (.ifCond .eq 7, 3) := by decide +kernel
theorem dX8_shortestDwell_27 : decode cX8_shortestDwell 27 = .ok (.iload_n 2, 1) := by decide +kernel
theorem dX8_shortestDwell_28 : decode cX8_shortestDwell 28 = .ok (.goto 4, 3) := by decide +kernel
theorem dX8_shortestDwell_31 : decode cX8_shortestDwell 31 = .ok (.iconst (-1), 1) := by decide +kernel
theorem dX8_shortestDwell_32 : decode cX8_shortestDwell 32 = .ok (.istore_n 1, 1) := by decide +kernel
theorem dX8_shortestDwell_33 : decode cX8_shortestDwell 33 = .ok (.aload_n 0, 1) := by decide +kernel
theorem dX8_shortestDwell_34 : decode cX8_shortestDwell 34 = .ok (.invokevirtual 137, 3) := by decide +kernel
theorem dX8_shortestDwell_37 : decode cX8_shortestDwell 37 = .ok (.iinc 2 1, 3) := by decide +kernel
theorem dX8_shortestDwell_40 : decode cX8_shortestDwell 40 = .ok (.goto (-36), 3) := by decide +kernel
theorem dX8_shortestDwell_43 : decode cX8_shortestDwell 43 = .ok (.aload_n 0, 1) := by decide +kernel
theorem dX8_shortestDwell_44 : decode cX8_shortestDwell 44 = .ok (.iload_n 1, 1) := by decide +kernel
theorem dX8_shortestDwell_45 : decode cX8_shortestDwell 45 = .ok (.invokevirtual 65, 3) := by decide +kernel
theorem dX8_shortestDwell_48 : decode cX8_shortestDwell 48 = .ok (.ireturn, 1) := by decide +kernel
theorem dX8_behind_0 : decode cX8_behind 0 = .ok (.iload_n 1, 1) := by decide +kernel
theorem dX8_behind_1 : decode cX8_behind 1 = .ok (.ifCond .ne 12, 3) := by decide +kernel
theorem dX8_behind_4 : decode cX8_behind 4 = .ok (.aload_n 0, 1) := by decide +kernel
theorem dX8_behind_5 : decode cX8_behind 5 = .ok (.getfield 7, 3) := by decide +kernel
theorem dX8_behind_8 : decode cX8_behind 8 = .ok (.iconst 1, 1) := by decide +kernel
theorem dX8_behind_9 : decode cX8_behind 9 = .ok (.iaload, 1) := by decide +kernel
theorem dX8_behind_10 : decode cX8_behind 10 = .ok (.goto 38, 3) := by decide +kernel
theorem dX8_behind_13 : decode cX8_behind 13 = .ok (.iload_n 1, 1) := by decide +kernel
theorem dX8_behind_14 : decode cX8_behind 14 = .ok (.iconst 1, 1) := by decide +kernel
theorem dX8_behind_15 : decode cX8_behind 15 = .ok (.if_icmp .ne 12, 3) := by decide +kernel
theorem dX8_behind_18 : decode cX8_behind 18 = .ok (.aload_n 0, 1) := by decide +kernel
theorem dX8_behind_19 : decode cX8_behind 19 = .ok (.getfield 7, 3) := by decide +kernel
theorem dX8_behind_22 : decode cX8_behind 22 = .ok (.iconst 2, 1) := by decide +kernel
theorem dX8_behind_23 : decode cX8_behind 23 = .ok (.iaload, 1) := by decide +kernel
theorem dX8_behind_24 : decode cX8_behind 24 = .ok (.goto 24, 3) := by decide +kernel
theorem dX8_behind_27 : decode cX8_behind 27 = .ok (.iload_n 1, 1) := by decide +kernel
theorem dX8_behind_28 : decode cX8_behind 28 = .ok (.iconst 2, 1) := by decide +kernel
theorem dX8_behind_29 : decode cX8_behind 29 = .ok (.if_icmp .ne 12, 3) := by decide +kernel
theorem dX8_behind_32 : decode cX8_behind 32 = .ok (.aload_n 0, 1) := by decide +kernel
theorem dX8_behind_33 : decode cX8_behind 33 = .ok (.getfield 7, 3) := by decide +kernel
theorem dX8_behind_36 : decode cX8_behind 36 = .ok (.iconst 5, 1) := by decide +kernel
theorem dX8_behind_37 : decode cX8_behind 37 = .ok (.iaload, 1) := by decide +kernel
theorem dX8_behind_38 : decode cX8_behind 38 = .ok (.goto 10, 3) := by decide +kernel
theorem dX8_behind_41 : decode cX8_behind 41 = .ok (.aload_n 0, 1) := by decide +kernel
theorem dX8_behind_42 : decode cX8_behind 42 = .ok (.iload_n 1, 1) := by decide +kernel
theorem dX8_behind_43 : decode cX8_behind 43 = .ok (.iconst 3, 1) := by decide +kernel
theorem dX8_behind_44 : decode cX8_behind 44 = .ok (.isub, 1) := by decide +kernel
theorem dX8_behind_45 : decode cX8_behind 45 = .ok (.invokevirtual 76, 3) := by decide +kernel
theorem dX8_behind_48 : decode cX8_behind 48 = .ok (.ireturn, 1) := by decide +kernel
theorem dX8_repeats_0 : decode cX8_repeats 0 = .ok (.aload_n 0, 1) := by decide +kernel
theorem dX8_repeats_1 : decode cX8_repeats 1 = .ok (.iconst 0, 1) := by decide +kernel
theorem dX8_repeats_2 : decode cX8_repeats 2 = .ok (.putfield 31, 3) := by decide +kernel
theorem dX8_repeats_5 : decode cX8_repeats 5 = .ok (.aload_n 0, 1) := by decide +kernel
theorem dX8_repeats_6 : decode cX8_repeats 6 = .ok (.invokevirtual 134, 3) := by decide +kernel
theorem dX8_repeats_9 : decode cX8_repeats 9 = .ok (.aload_n 0, 1) := by decide +kernel
theorem dX8_repeats_10 : decode cX8_repeats 10 = .ok (.sipush 2000, 3) := by decide +kernel
theorem dX8_repeats_13 : decode cX8_repeats 13 = .ok (.invokevirtual 140, 3) := by decide +kernel
theorem dX8_repeats_16 : decode cX8_repeats 16 = .ok (.istore_n 1, 1) := by decide +kernel
theorem dX8_repeats_17 : decode cX8_repeats 17 = .ok (.iload_n 1, 1) := by decide +kernel
theorem dX8_repeats_18 : decode cX8_repeats 18 = .ok (.sipush 2000, 3) := by decide +kernel
theorem dX8_repeats_21 : decode cX8_repeats 21 = .ok (.if_icmp .gt 7, 3) := by decide +kernel
theorem dX8_repeats_24 : decode cX8_repeats 24 = .ok (.iconst 1, 1) := by decide +kernel
theorem dX8_repeats_25 : decode cX8_repeats 25 = .ok (.goto 4, 3) := by decide +kernel
theorem dX8_repeats_28 : decode cX8_repeats 28 = .ok (.iconst 0, 1) := by decide +kernel
theorem dX8_repeats_29 : decode cX8_repeats 29 = .ok (.istore_n 2, 1) := by decide +kernel
theorem dX8_repeats_30 : decode cX8_repeats 30 = .ok (.iconst 0, 1) := by decide +kernel
theorem dX8_repeats_31 : decode cX8_repeats 31 = .ok (.istore_n 3, 1) := by decide +kernel
theorem dX8_repeats_32 : decode cX8_repeats 32 = .ok (.iload_n 3, 1) := by decide +kernel
theorem dX8_repeats_33 : decode cX8_repeats 33 = .ok (.bipush 8, 2) := by decide +kernel
theorem dX8_repeats_35 : decode cX8_repeats 35 = .ok (.if_icmp .ge 20, 3) := by decide +kernel
theorem dX8_repeats_38 : decode cX8_repeats 38 = .ok (.aload_n 0, 1) := by decide +kernel
theorem dX8_repeats_39 : decode cX8_repeats 39 = .ok (.getfield 19, 3) := by decide +kernel
theorem dX8_repeats_42 : decode cX8_repeats 42 = .ok (.iload_n 3, 1) := by decide +kernel
theorem dX8_repeats_43 : decode cX8_repeats 43 = .ok (.aload_n 0, 1) := by decide +kernel
theorem dX8_repeats_44 : decode cX8_repeats 44 = .ok (.iload_n 3, 1) := by decide +kernel
theorem dX8_repeats_45 : decode cX8_repeats 45 = .ok (.invokevirtual 152, 3) := by decide +kernel
theorem dX8_repeats_48 : decode cX8_repeats 48 = .ok (.iastore, 1) := by decide +kernel
theorem dX8_repeats_49 : decode cX8_repeats 49 = .ok (.iinc 3 1, 3) := by decide +kernel
theorem dX8_repeats_52 : decode cX8_repeats 52 = .ok (.goto (-20), 3) := by decide +kernel
theorem dX8_repeats_55 : decode cX8_repeats 55 = .ok (.iload_n 2, 1) := by decide +kernel
theorem dX8_repeats_56 : decode cX8_repeats 56 = .ok (.ifCond .eq 24, 3) := by decide +kernel
theorem dX8_repeats_59 : decode cX8_repeats 59 = .ok (.aload_n 0, 1) := by decide +kernel
theorem dX8_repeats_60 : decode cX8_repeats 60 = .ok (.sipush 2000, 3) := by decide +kernel
theorem dX8_repeats_63 : decode cX8_repeats 63 = .ok (.iload_n 1, 1) := by decide +kernel
theorem dX8_repeats_64 : decode cX8_repeats 64 = .ok (.isub, 1) := by decide +kernel
theorem dX8_repeats_65 : decode cX8_repeats 65 = .ok (.invokevirtual 140, 3) := by decide +kernel
theorem dX8_repeats_68 : decode cX8_repeats 68 = .ok (.sipush 2000, 3) := by decide +kernel
theorem dX8_repeats_71 : decode cX8_repeats 71 = .ok (.iload_n 1, 1) := by decide +kernel
theorem dX8_repeats_72 : decode cX8_repeats 72 = .ok (.isub, 1) := by decide +kernel
theorem dX8_repeats_73 : decode cX8_repeats 73 = .ok (.if_icmp .gt 7, 3) := by decide +kernel
theorem dX8_repeats_76 : decode cX8_repeats 76 = .ok (.iconst 1, 1) := by decide +kernel
theorem dX8_repeats_77 : decode cX8_repeats 77 = .ok (.goto 4, 3) := by decide +kernel
theorem dX8_repeats_80 : decode cX8_repeats 80 = .ok (.iconst 0, 1) := by decide +kernel
theorem dX8_repeats_81 : decode cX8_repeats 81 = .ok (.istore_n 2, 1) := by decide +kernel
theorem dX8_repeats_82 : decode cX8_repeats 82 = .ok (.iconst 0, 1) := by decide +kernel
theorem dX8_repeats_83 : decode cX8_repeats 83 = .ok (.istore_n 3, 1) := by decide +kernel
theorem dX8_repeats_84 : decode cX8_repeats 84 = .ok (.iload_n 3, 1) := by decide +kernel
theorem dX8_repeats_85 : decode cX8_repeats 85 = .ok (.bipush 8, 2) := by decide +kernel
theorem dX8_repeats_87 : decode cX8_repeats 87 = .ok (.if_icmp .ge 33, 3) := by decide +kernel
theorem dX8_repeats_90 : decode cX8_repeats 90 = .ok (.iload_n 2, 1) := by decide +kernel
theorem dX8_repeats_91 : decode cX8_repeats 91 = .ok (.ifCond .eq 21, 3) := by decide +kernel
theorem dX8_repeats_94 : decode cX8_repeats 94 = .ok (.aload_n 0, 1) := by decide +kernel
theorem dX8_repeats_95 : decode cX8_repeats 95 = .ok (.getfield 19, 3) := by decide +kernel
theorem dX8_repeats_98 : decode cX8_repeats 98 = .ok (.iload_n 3, 1) := by decide +kernel
theorem dX8_repeats_99 : decode cX8_repeats 99 = .ok (.iaload, 1) := by decide +kernel
theorem dX8_repeats_100 : decode cX8_repeats 100 = .ok (.aload_n 0, 1) := by decide +kernel
theorem dX8_repeats_101 : decode cX8_repeats 101 = .ok (.iload_n 3, 1) := by decide +kernel
theorem dX8_repeats_102 : decode cX8_repeats 102 = .ok (.invokevirtual 152, 3) := by decide +kernel
theorem dX8_repeats_105 : decode cX8_repeats 105 = .ok (.if_icmp .ne 7, 3) := by decide +kernel
theorem dX8_repeats_108 : decode cX8_repeats 108 = .ok (.iconst 1, 1) := by decide +kernel
theorem dX8_repeats_109 : decode cX8_repeats 109 = .ok (.goto 4, 3) := by decide +kernel
theorem dX8_repeats_112 : decode cX8_repeats 112 = .ok (.iconst 0, 1) := by decide +kernel
theorem dX8_repeats_113 : decode cX8_repeats 113 = .ok (.istore_n 2, 1) := by decide +kernel
theorem dX8_repeats_114 : decode cX8_repeats 114 = .ok (.iinc 3 1, 3) := by decide +kernel
theorem dX8_repeats_117 : decode cX8_repeats 117 = .ok (.goto (-33), 3) := by decide +kernel
theorem dX8_repeats_120 : decode cX8_repeats 120 = .ok (.aload_n 0, 1) := by decide +kernel
theorem dX8_repeats_121 : decode cX8_repeats 121 = .ok (.invokevirtual 137, 3) := by decide +kernel
theorem dX8_repeats_124 : decode cX8_repeats 124 = .ok (.iload_n 2, 1) := by decide +kernel
theorem dX8_repeats_125 : decode cX8_repeats 125 = .ok (.ireturn, 1) := by decide +kernel
theorem dX8_useful_0 : decode cX8_useful 0 = .ok (.aload_n 0, 1) := by decide +kernel
theorem dX8_useful_1 : decode cX8_useful 1 = .ok (.iconst 0, 1) := by decide +kernel
theorem dX8_useful_2 : decode cX8_useful 2 = .ok (.putfield 31, 3) := by decide +kernel
theorem dX8_useful_5 : decode cX8_useful 5 = .ok (.aload_n 0, 1) := by decide +kernel
theorem dX8_useful_6 : decode cX8_useful 6 = .ok (.getfield 7, 3) := by decide +kernel
theorem dX8_useful_9 : decode cX8_useful 9 = .ok (.bipush 14, 2) := by decide +kernel
theorem dX8_useful_11 : decode cX8_useful 11 = .ok (.iaload, 1) := by decide +kernel
theorem dX8_useful_12 : decode cX8_useful 12 = .ok (.i2d, 1) := by decide +kernel
theorem dX8_useful_13 : decode cX8_useful 13 = .ok (.dstore_n 1, 1) := by decide +kernel
theorem dX8_useful_14 : decode cX8_useful 14 = .ok (.aload_n 0, 1) := by decide +kernel
theorem dX8_useful_15 : decode cX8_useful 15 = .ok (.getfield 7, 3) := by decide +kernel
theorem dX8_useful_18 : decode cX8_useful 18 = .ok (.bipush 12, 2) := by decide +kernel
theorem dX8_useful_20 : decode cX8_useful 20 = .ok (.iaload, 1) := by decide +kernel
theorem dX8_useful_21 : decode cX8_useful 21 = .ok (.i2d, 1) := by decide +kernel
theorem dX8_useful_22 : decode cX8_useful 22 = .ok (.dstore_n 3, 1) := by decide +kernel
theorem dX8_useful_23 : decode cX8_useful 23 = .ok (.dload_n 1, 1) := by decide +kernel
theorem dX8_useful_24 : decode cX8_useful 24 = .ok (.dload_n 3, 1) := by decide +kernel
theorem dX8_useful_25 : decode cX8_useful 25 = .ok (.ddiv, 1) := by decide +kernel
theorem dX8_useful_26 : decode cX8_useful 26 = .ok (.dreturn, 1) := by decide +kernel
theorem dX8_append_0 : decode cX8_append 0 = .ok (.iload_n 1, 1) := by decide +kernel
theorem dX8_append_1 : decode cX8_append 1 = .ok (.i2l, 1) := by decide +kernel
theorem dX8_append_2 : decode cX8_append 2 = .ok (.lconst 0, 1) := by decide +kernel
theorem dX8_append_3 : decode cX8_append 3 = .ok (.ldc2_w 155, 3) := by decide +kernel
theorem dX8_append_6 : decode cX8_append 6 = .ok (.invokestatic 40, 3) := by decide +kernel
theorem dX8_append_9 : decode cX8_append 9 = .ok (.ifCond .ne 9, 3) := by decide +kernel
theorem dX8_append_12 : decode cX8_append 12 = .ok (.aload_n 0, 1) := by decide +kernel
theorem dX8_append_13 : decode cX8_append 13 = .ok (.iconst 1, 1) := by decide +kernel
theorem dX8_append_14 : decode cX8_append 14 = .ok (.invokevirtual 55, 3) := by decide +kernel
theorem dX8_append_17 : decode cX8_append 17 = .ok (.ireturn, 1) := by decide +kernel
theorem dX8_append_18 : decode cX8_append 18 = .ok (.aload_n 0, 1) := by decide +kernel
theorem dX8_append_19 : decode cX8_append 19 = .ok (.getfield 157, 3) := by decide +kernel
theorem dX8_append_22 : decode cX8_append 22 = .ok (.bipush 100, 2) := by decide +kernel
theorem dX8_append_24 : decode cX8_append 24 = .ok (.if_icmp .ne 9, 3) := by decide +kernel
theorem dX8_append_27 : decode cX8_append 27 = .ok (.aload_n 0, 1) := by decide +kernel
theorem dX8_append_28 : decode cX8_append 28 = .ok (.iconst 2, 1) := by decide +kernel
theorem dX8_append_29 : decode cX8_append 29 = .ok (.invokevirtual 55, 3) := by decide +kernel
theorem dX8_append_32 : decode cX8_append 32 = .ok (.ireturn, 1) := by decide +kernel
theorem dX8_append_33 : decode cX8_append 33 = .ok (.aload_n 0, 1) := by decide +kernel
theorem dX8_append_34 : decode cX8_append 34 = .ok (.getfield 22, 3) := by decide +kernel
theorem dX8_append_37 : decode cX8_append 37 = .ok (.aload_n 0, 1) := by decide +kernel
theorem dX8_append_38 : decode cX8_append 38 = .ok (.getfield 157, 3) := by decide +kernel
theorem dX8_append_41 : decode cX8_append 41 = .ok (.iload_n 1, 1) := by decide +kernel
theorem dX8_append_42 : decode cX8_append 42 = .ok (.iastore, 1) := by decide +kernel
theorem dX8_append_43 : decode cX8_append 43 = .ok (.aload_n 0, 1) := by decide +kernel
theorem dX8_append_44 : decode cX8_append 44 = .ok (.dup, 1) := by decide +kernel
theorem dX8_append_45 : decode cX8_append 45 = .ok (.getfield 157, 3) := by decide +kernel
theorem dX8_append_48 : decode cX8_append 48 = .ok (.iconst 1, 1) := by decide +kernel
theorem dX8_append_49 : decode cX8_append 49 = .ok (.iadd, 1) := by decide +kernel
theorem dX8_append_50 : decode cX8_append 50 = .ok (.putfield 157, 3) := by decide +kernel
theorem dX8_append_53 : decode cX8_append 53 = .ok (.aload_n 0, 1) := by decide +kernel
theorem dX8_append_54 : decode cX8_append 54 = .ok (.aload_n 0, 1) := by decide +kernel
theorem dX8_append_55 : decode cX8_append 55 = .ok (.getfield 157, 3) := by decide +kernel
theorem dX8_append_58 : decode cX8_append 58 = .ok (.invokevirtual 65, 3) := by decide +kernel
theorem dX8_append_61 : decode cX8_append 61 = .ok (.ireturn, 1) := by decide +kernel
theorem dX8_clearText_0 : decode cX8_clearText 0 = .ok (.aload_n 0, 1) := by decide +kernel
theorem dX8_clearText_1 : decode cX8_clearText 1 = .ok (.getfield 157, 3) := by decide +kernel
theorem dX8_clearText_4 : decode cX8_clearText 4 = .ok (.istore_n 1, 1) := by decide +kernel
theorem dX8_clearText_5 : decode cX8_clearText 5 = .ok (.aload_n 0, 1) := by decide +kernel
theorem dX8_clearText_6 : decode cX8_clearText 6 = .ok (.iconst 0, 1) := by decide +kernel
theorem dX8_clearText_7 : decode cX8_clearText 7 = .ok (.putfield 157, 3) := by decide +kernel
theorem dX8_clearText_10 : decode cX8_clearText 10 = .ok (.aload_n 0, 1) := by decide +kernel
theorem dX8_clearText_11 : decode cX8_clearText 11 = .ok (.iload_n 1, 1) := by decide +kernel
theorem dX8_clearText_12 : decode cX8_clearText 12 = .ok (.invokevirtual 65, 3) := by decide +kernel
theorem dX8_clearText_15 : decode cX8_clearText 15 = .ok (.ireturn, 1) := by decide +kernel
theorem dX8_here_0 : decode cX8_here 0 = .ok (.aload_n 0, 1) := by decide +kernel
theorem dX8_here_1 : decode cX8_here 1 = .ok (.getfield 160, 3) := by decide +kernel
theorem dX8_here_4 : decode cX8_here 4 = .ok (.aload_n 0, 1) := by decide +kernel
theorem dX8_here_5 : decode cX8_here 5 = .ok (.getfield 157, 3) := by decide +kernel
theorem dX8_here_8 : decode cX8_here 8 = .ok (.if_icmp .ge 15, 3) := by decide +kernel
theorem dX8_here_11 : decode cX8_here 11 = .ok (.aload_n 0, 1) := by decide +kernel
theorem dX8_here_12 : decode cX8_here 12 = .ok (.getfield 22, 3) := by decide +kernel
theorem dX8_here_15 : decode cX8_here 15 = .ok (.aload_n 0, 1) := by decide +kernel
theorem dX8_here_16 : decode cX8_here 16 = .ok (.getfield 160, 3) := by decide +kernel
theorem dX8_here_19 : decode cX8_here 19 = .ok (.iaload, 1) := by decide +kernel
theorem dX8_here_20 : decode cX8_here 20 = .ok (.goto 4, 3) := by decide +kernel
theorem dX8_here_23 : decode cX8_here 23 = .ok (.iconst (-1), 1) := by decide +kernel
theorem dX8_here_24 : decode cX8_here 24 = .ok (.ireturn, 1) := by decide +kernel
theorem dX8_passesByte_0 : decode cX8_passesByte 0 = .ok (.aload_n 0, 1) := by decide +kernel
theorem dX8_passesByte_1 : decode cX8_passesByte 1 = .ok (.invokevirtual 163, 3) := by decide +kernel
theorem dX8_passesByte_4 : decode cX8_passesByte 4 = .ok (.iload_n 1, 1) := by decide +kernel
theorem dX8_passesByte_5 : decode cX8_passesByte 5 = .ok (.if_icmp .ne 7, 3) := by decide +kernel
theorem dX8_passesByte_8 : decode cX8_passesByte 8 = .ok (.iconst 1, 1) := by decide +kernel
theorem dX8_passesByte_9 : decode cX8_passesByte 9 = .ok (.goto 4, 3) := by decide +kernel
theorem dX8_passesByte_12 : decode cX8_passesByte 12 = .ok (.iconst 0, 1) := by decide +kernel
theorem dX8_passesByte_13 : decode cX8_passesByte 13 = .ok (.istore_n 2, 1) := by decide +kernel
theorem dX8_passesByte_14 : decode cX8_passesByte 14 = .ok (.aload_n 0, 1) := by decide +kernel
theorem dX8_passesByte_15 : decode cX8_passesByte 15 = .ok (.dup, 1) := by decide +kernel
theorem dX8_passesByte_16 : decode cX8_passesByte 16 = .ok (.getfield 160, 3) := by decide +kernel
theorem dX8_passesByte_19 : decode cX8_passesByte 19 = .ok (.iload_n 2, 1) := by decide +kernel
theorem dX8_passesByte_20 : decode cX8_passesByte 20 = .ok (.ifCond .eq 7, 3) := by decide +kernel
theorem dX8_passesByte_23 : decode cX8_passesByte 23 = .ok (.iconst 1, 1) := by decide +kernel
theorem dX8_passesByte_24 : decode cX8_passesByte 24 = .ok (.goto 4, 3) := by decide +kernel
theorem dX8_passesByte_27 : decode cX8_passesByte 27 = .ok (.iconst 0, 1) := by decide +kernel
theorem dX8_passesByte_28 : decode cX8_passesByte 28 = .ok (.iadd, 1) := by decide +kernel
theorem dX8_passesByte_29 : decode cX8_passesByte 29 = .ok (.putfield 160, 3) := by decide +kernel
theorem dX8_passesByte_32 : decode cX8_passesByte 32 = .ok (.iload_n 2, 1) := by decide +kernel
theorem dX8_passesByte_33 : decode cX8_passesByte 33 = .ok (.ireturn, 1) := by decide +kernel
theorem dX8_readsSteps_0 : decode cX8_readsSteps 0 = .ok (.aload_n 0, 1) := by decide +kernel
theorem dX8_readsSteps_1 : decode cX8_readsSteps 1 = .ok (.getfield 160, 3) := by decide +kernel
theorem dX8_readsSteps_4 : decode cX8_readsSteps 4 = .ok (.istore_n 1, 1) := by decide +kernel
theorem dX8_readsSteps_5 : decode cX8_readsSteps 5 = .ok (.iconst 0, 1) := by decide +kernel
theorem dX8_readsSteps_6 : decode cX8_readsSteps 6 = .ok (.istore_n 2, 1) := by decide +kernel
theorem dX8_readsSteps_7 : decode cX8_readsSteps 7 = .ok (.aload_n 0, 1) := by decide +kernel
theorem dX8_readsSteps_8 : decode cX8_readsSteps 8 = .ok (.invokevirtual 163, 3) := by decide +kernel
theorem dX8_readsSteps_11 : decode cX8_readsSteps 11 = .ok (.i2l, 1) := by decide +kernel
theorem dX8_readsSteps_12 : decode cX8_readsSteps 12 = .ok (.ldc2_w 166, 3) := by decide +kernel
theorem dX8_readsSteps_15 : decode cX8_readsSteps 15 = .ok (.ldc2_w 168, 3) := by decide +kernel
theorem dX8_readsSteps_18 : decode cX8_readsSteps 18 = .ok (.invokestatic 40, 3) := by decide +kernel
theorem dX8_readsSteps_21 : decode cX8_readsSteps 21 = .ok (.ifCond .eq 39, 3) := by decide +kernel
theorem dX8_readsSteps_24 : decode cX8_readsSteps 24 = .ok (.aload_n 0, 1) := by decide +kernel
theorem dX8_readsSteps_25 : decode cX8_readsSteps 25 = .ok (.getfield 160, 3) := by decide +kernel
theorem dX8_readsSteps_28 : decode cX8_readsSteps 28 = .ok (.iload_n 1, 1) := by decide +kernel
theorem dX8_readsSteps_29 : decode cX8_readsSteps 29 = .ok (.iconst 2, 1) := by decide +kernel
theorem dX8_readsSteps_30 : decode cX8_readsSteps 30 = .ok (.iadd, 1) := by decide +kernel
theorem dX8_readsSteps_31 : decode cX8_readsSteps 31 = .ok (.if_icmp .ge 29, 3) := by decide +kernel
theorem dX8_readsSteps_34 : decode cX8_readsSteps 34 = .ok (.bipush 10, 2) := by decide +kernel
theorem dX8_readsSteps_36 : decode cX8_readsSteps 36 = .ok (.iload_n 2, 1) := by decide +kernel
theorem dX8_readsSteps_37 : decode cX8_readsSteps 37 = .ok (.imul, 1) := by decide +kernel
theorem dX8_readsSteps_38 : decode cX8_readsSteps 38 = .ok (.aload_n 0, 1) := by decide +kernel
theorem dX8_readsSteps_39 : decode cX8_readsSteps 39 = .ok (.invokevirtual 163, 3) := by decide +kernel
theorem dX8_readsSteps_42 : decode cX8_readsSteps 42 = .ok (.iadd, 1) := by decide +kernel
theorem dX8_readsSteps_43 : decode cX8_readsSteps 43 = .ok (.bipush 48, 2) := by decide +kernel
theorem dX8_readsSteps_45 : decode cX8_readsSteps 45 = .ok (.isub, 1) := by decide +kernel
theorem dX8_readsSteps_46 : decode cX8_readsSteps 46 = .ok (.istore_n 2, 1) := by decide +kernel
theorem dX8_readsSteps_47 : decode cX8_readsSteps 47 = .ok (.aload_n 0, 1) := by decide +kernel
theorem dX8_readsSteps_48 : decode cX8_readsSteps 48 = .ok (.dup, 1) := by decide +kernel
theorem dX8_readsSteps_49 : decode cX8_readsSteps 49 = .ok (.getfield 160, 3) := by decide +kernel
theorem dX8_readsSteps_52 : decode cX8_readsSteps 52 = .ok (.iconst 1, 1) := by decide +kernel
theorem dX8_readsSteps_53 : decode cX8_readsSteps 53 = .ok (.iadd, 1) := by decide +kernel
theorem dX8_readsSteps_54 : decode cX8_readsSteps 54 = .ok (.putfield 160, 3) := by decide +kernel
theorem dX8_readsSteps_57 : decode cX8_readsSteps 57 = .ok (.goto (-50), 3) := by decide +kernel
theorem dX8_readsSteps_60 : decode cX8_readsSteps 60 = .ok (.aload_n 0, 1) := by decide +kernel
theorem dX8_readsSteps_61 : decode cX8_readsSteps 61 = .ok (.getfield 160, 3) := by decide +kernel
theorem dX8_readsSteps_64 : decode cX8_readsSteps 64 = .ok (.iload_n 1, 1) := by decide +kernel
theorem dX8_readsSteps_65 : decode cX8_readsSteps 65 = .ok (.if_icmp .eq 20, 3) := by decide +kernel
theorem dX8_readsSteps_68 : decode cX8_readsSteps 68 = .ok (.aload_n 0, 1) := by decide +kernel
theorem dX8_readsSteps_69 : decode cX8_readsSteps 69 = .ok (.invokevirtual 163, 3) := by decide +kernel
theorem dX8_readsSteps_72 : decode cX8_readsSteps 72 = .ok (.i2l, 1) := by decide +kernel
theorem dX8_readsSteps_73 : decode cX8_readsSteps 73 = .ok (.ldc2_w 166, 3) := by decide +kernel
theorem dX8_readsSteps_76 : decode cX8_readsSteps 76 = .ok (.ldc2_w 168, 3) := by decide +kernel
theorem dX8_readsSteps_79 : decode cX8_readsSteps 79 = .ok (.invokestatic 40, 3) := by decide +kernel
theorem dX8_readsSteps_82 : decode cX8_readsSteps 82 = .ok (.ifCond .eq 5, 3) := by decide +kernel
theorem dX8_readsSteps_85 : decode cX8_readsSteps 85 = .ok (.iconst 0, 1) := by decide +kernel
theorem dX8_readsSteps_86 : decode cX8_readsSteps 86 = .ok (.ireturn, 1) := by decide +kernel
theorem dX8_readsSteps_87 : decode cX8_readsSteps 87 = .ok (.iload_n 2, 1) := by decide +kernel
theorem dX8_readsSteps_88 : decode cX8_readsSteps 88 = .ok (.i2l, 1) := by decide +kernel
theorem dX8_readsSteps_89 : decode cX8_readsSteps 89 = .ok (.ldc2_w 170, 3) := by decide +kernel
theorem dX8_readsSteps_92 : decode cX8_readsSteps 92 = .ok (.ldc2_w 172, 3) := by decide +kernel
theorem dX8_readsSteps_95 : decode cX8_readsSteps 95 = .ok (.invokestatic 40, 3) := by decide +kernel
theorem dX8_readsSteps_98 : decode cX8_readsSteps 98 = .ok (.ifCond .ne 10, 3) := by decide +kernel
theorem dX8_readsSteps_101 : decode cX8_readsSteps 101 = .ok (.aload_n 0, 1) := by decide +kernel
theorem dX8_readsSteps_102 : decode cX8_readsSteps 102 = .ok (.iload_n 1, 1) := by decide +kernel
theorem dX8_readsSteps_103 : decode cX8_readsSteps 103 = .ok (.putfield 160, 3) := by decide +kernel
theorem dX8_readsSteps_106 : decode cX8_readsSteps 106 = .ok (.iconst 0, 1) := by decide +kernel
theorem dX8_readsSteps_107 : decode cX8_readsSteps 107 = .ok (.ireturn, 1) := by decide +kernel
theorem dX8_readsSteps_108 : decode cX8_readsSteps 108 = .ok (.aload_n 0, 1) := by decide +kernel
theorem dX8_readsSteps_109 : decode cX8_readsSteps 109 = .ok (.iload_n 2, 1) := by decide +kernel
theorem dX8_readsSteps_110 : decode cX8_readsSteps 110 = .ok (.putfield 174, 3) := by decide +kernel
theorem dX8_readsSteps_113 : decode cX8_readsSteps 113 = .ok (.aload_n 0, 1) := by decide +kernel
theorem dX8_readsSteps_114 : decode cX8_readsSteps 114 = .ok (.bipush 59, 2) := by decide +kernel
theorem dX8_readsSteps_116 : decode cX8_readsSteps 116 = .ok (.invokevirtual 177, 3) := by decide +kernel
theorem dX8_readsSteps_119 : decode cX8_readsSteps 119 = .ok (.ireturn, 1) := by decide +kernel
theorem dX8_readsTrack_0 : decode cX8_readsTrack 0 = .ok (.aload_n 0, 1) := by decide +kernel
theorem dX8_readsTrack_1 : decode cX8_readsTrack 1 = .ok (.invokevirtual 163, 3) := by decide +kernel
theorem dX8_readsTrack_4 : decode cX8_readsTrack 4 = .ok (.i2l, 1) := by decide +kernel
theorem dX8_readsTrack_5 : decode cX8_readsTrack 5 = .ok (.ldc2_w 166, 3) := by decide +kernel
theorem dX8_readsTrack_8 : decode cX8_readsTrack 8 = .ok (.ldc2_w 180, 3) := by decide +kernel
theorem dX8_readsTrack_11 : decode cX8_readsTrack 11 = .ok (.invokestatic 40, 3) := by decide +kernel
theorem dX8_readsTrack_14 : decode cX8_readsTrack 14 = .ok (.ifCond .ne 5, 3) := by decide +kernel
theorem dX8_readsTrack_17 : decode cX8_readsTrack 17 = .ok (.iconst 0, 1) := by decide +kernel
theorem dX8_readsTrack_18 : decode cX8_readsTrack 18 = .ok (.ireturn, 1) := by decide +kernel
theorem dX8_readsTrack_19 : decode cX8_readsTrack 19 = .ok (.aload_n 0, 1) := by decide +kernel
theorem dX8_readsTrack_20 : decode cX8_readsTrack 20 = .ok (.invokevirtual 163, 3) := by decide +kernel
theorem dX8_readsTrack_23 : decode cX8_readsTrack 23 = .ok (.bipush 48, 2) := by decide +kernel
theorem dX8_readsTrack_25 : decode cX8_readsTrack 25 = .ok (.isub, 1) := by decide +kernel
theorem dX8_readsTrack_26 : decode cX8_readsTrack 26 = .ok (.istore_n 1, 1) := by decide +kernel
theorem dX8_readsTrack_27 : decode cX8_readsTrack 27 = .ok (.aload_n 0, 1) := by decide +kernel
theorem dX8_readsTrack_28 : decode cX8_readsTrack 28 = .ok (.dup, 1) := by decide +kernel
theorem dX8_readsTrack_29 : decode cX8_readsTrack 29 = .ok (.getfield 160, 3) := by decide +kernel
theorem dX8_readsTrack_32 : decode cX8_readsTrack 32 = .ok (.iconst 1, 1) := by decide +kernel
theorem dX8_readsTrack_33 : decode cX8_readsTrack 33 = .ok (.iadd, 1) := by decide +kernel
theorem dX8_readsTrack_34 : decode cX8_readsTrack 34 = .ok (.putfield 160, 3) := by decide +kernel
theorem dX8_readsTrack_37 : decode cX8_readsTrack 37 = .ok (.aload_n 0, 1) := by decide +kernel
theorem dX8_readsTrack_38 : decode cX8_readsTrack 38 = .ok (.bipush 58, 2) := by decide +kernel
theorem dX8_readsTrack_40 : decode cX8_readsTrack 40 = .ok (.invokevirtual 177, 3) := by decide +kernel
theorem dX8_readsTrack_43 : decode cX8_readsTrack 43 = .ok (.ifCond .ne 5, 3) := by decide +kernel
theorem dX8_readsTrack_46 : decode cX8_readsTrack 46 = .ok (.iconst 0, 1) := by decide +kernel
theorem dX8_readsTrack_47 : decode cX8_readsTrack 47 = .ok (.ireturn, 1) := by decide +kernel
theorem dX8_readsTrack_48 : decode cX8_readsTrack 48 = .ok (.aload_n 0, 1) := by decide +kernel
theorem dX8_readsTrack_49 : decode cX8_readsTrack 49 = .ok (.getfield 25, 3) := by decide +kernel
theorem dX8_readsTrack_52 : decode cX8_readsTrack 52 = .ok (.iload_n 1, 1) := by decide +kernel
theorem dX8_readsTrack_53 : decode cX8_readsTrack 53 = .ok (.iconst 0, 1) := by decide +kernel
theorem dX8_readsTrack_54 : decode cX8_readsTrack 54 = .ok (.iastore, 1) := by decide +kernel
theorem dX8_readsTrack_55 : decode cX8_readsTrack 55 = .ok (.iconst 0, 1) := by decide +kernel
theorem dX8_readsTrack_56 : decode cX8_readsTrack 56 = .ok (.istore_n 2, 1) := by decide +kernel
theorem dX8_readsTrack_57 : decode cX8_readsTrack 57 = .ok (.iload_n 2, 1) := by decide +kernel
theorem dX8_readsTrack_58 : decode cX8_readsTrack 58 = .ok (.aload_n 0, 1) := by decide +kernel
theorem dX8_readsTrack_59 : decode cX8_readsTrack 59 = .ok (.getfield 174, 3) := by decide +kernel
theorem dX8_readsTrack_62 : decode cX8_readsTrack 62 = .ok (.if_icmp .ge 64, 3) := by decide +kernel
theorem dX8_readsTrack_65 : decode cX8_readsTrack 65 = .ok (.aload_n 0, 1) := by decide +kernel
theorem dX8_readsTrack_66 : decode cX8_readsTrack 66 = .ok (.invokevirtual 163, 3) := by decide +kernel
theorem dX8_readsTrack_69 : decode cX8_readsTrack 69 = .ok (.bipush 120, 2) := by decide +kernel
theorem dX8_readsTrack_71 : decode cX8_readsTrack 71 = .ok (.if_icmp .eq 14, 3) := by decide +kernel
theorem dX8_readsTrack_74 : decode cX8_readsTrack 74 = .ok (.aload_n 0, 1) := by decide +kernel
theorem dX8_readsTrack_75 : decode cX8_readsTrack 75 = .ok (.invokevirtual 163, 3) := by decide +kernel
theorem dX8_readsTrack_78 : decode cX8_readsTrack 78 = .ok (.bipush 46, 2) := by decide +kernel
theorem dX8_readsTrack_80 : decode cX8_readsTrack 80 = .ok (.if_icmp .eq 5, 3) := by decide +kernel
theorem dX8_readsTrack_83 : decode cX8_readsTrack 83 = .ok (.iconst 0, 1) := by decide +kernel
theorem dX8_readsTrack_84 : decode cX8_readsTrack 84 = .ok (.ireturn, 1) := by decide +kernel
theorem dX8_readsTrack_85 : decode cX8_readsTrack 85 = .ok (.aload_n 0, 1) := by decide +kernel
theorem dX8_readsTrack_86 : decode cX8_readsTrack 86 = .ok (.getfield 25, 3) := by decide +kernel
theorem dX8_readsTrack_89 : decode cX8_readsTrack 89 = .ok (.iload_n 1, 1) := by decide +kernel
theorem dX8_readsTrack_90 : decode cX8_readsTrack 90 = .ok (.dup2, 1) := by decide +kernel
theorem dX8_readsTrack_91 : decode cX8_readsTrack 91 = .ok (.iaload, 1) := by decide +kernel
theorem dX8_readsTrack_92 : decode cX8_readsTrack 92 = .ok (.aload_n 0, 1) := by decide +kernel
theorem dX8_readsTrack_93 : decode cX8_readsTrack 93 = .ok (.invokevirtual 163, 3) := by decide +kernel
theorem dX8_readsTrack_96 : decode cX8_readsTrack 96 = .ok (.bipush 120, 2) := by decide +kernel
theorem dX8_readsTrack_98 : decode cX8_readsTrack 98 = .ok (.if_icmp .ne 9, 3) := by decide +kernel
theorem dX8_readsTrack_101 : decode cX8_readsTrack 101 = .ok (.iconst 1, 1) := by decide +kernel
theorem dX8_readsTrack_102 : decode cX8_readsTrack 102 = .ok (.iload_n 2, 1) := by decide +kernel
theorem dX8_readsTrack_103 : decode cX8_readsTrack 103 = .ok (.ishl, 1) := by decide +kernel
theorem dX8_readsTrack_104 : decode cX8_readsTrack 104 = .ok (.goto 4, 3) := by decide +kernel
theorem dX8_readsTrack_107 : decode cX8_readsTrack 107 = .ok (.iconst 0, 1) := by decide +kernel
theorem dX8_readsTrack_108 : decode cX8_readsTrack 108 = .ok (.ior, 1) := by decide +kernel
theorem dX8_readsTrack_109 : decode cX8_readsTrack 109 = .ok (.iastore, 1) := by decide +kernel
theorem dX8_readsTrack_110 : decode cX8_readsTrack 110 = .ok (.aload_n 0, 1) := by decide +kernel
theorem dX8_readsTrack_111 : decode cX8_readsTrack 111 = .ok (.dup, 1) := by decide +kernel
theorem dX8_readsTrack_112 : decode cX8_readsTrack 112 = .ok (.getfield 160, 3) := by decide +kernel
theorem dX8_readsTrack_115 : decode cX8_readsTrack 115 = .ok (.iconst 1, 1) := by decide +kernel
theorem dX8_readsTrack_116 : decode cX8_readsTrack 116 = .ok (.iadd, 1) := by decide +kernel
theorem dX8_readsTrack_117 : decode cX8_readsTrack 117 = .ok (.putfield 160, 3) := by decide +kernel
theorem dX8_readsTrack_120 : decode cX8_readsTrack 120 = .ok (.iinc 2 1, 3) := by decide +kernel
theorem dX8_readsTrack_123 : decode cX8_readsTrack 123 = .ok (.goto (-66), 3) := by decide +kernel
theorem dX8_readsTrack_126 : decode cX8_readsTrack 126 = .ok (.aload_n 0, 1) := by decide +kernel
theorem dX8_readsTrack_127 : decode cX8_readsTrack 127 = .ok (.bipush 59, 2) := by decide +kernel
theorem dX8_readsTrack_129 : decode cX8_readsTrack 129 = .ok (.invokevirtual 177, 3) := by decide +kernel
theorem dX8_readsTrack_132 : decode cX8_readsTrack 132 = .ok (.ireturn, 1) := by decide +kernel
theorem dX8_readsText_0 : decode cX8_readsText 0 = .ok (.aload_n 0, 1) := by decide +kernel
theorem dX8_readsText_1 : decode cX8_readsText 1 = .ok (.iconst 0, 1) := by decide +kernel
theorem dX8_readsText_2 : decode cX8_readsText 2 = .ok (.putfield 160, 3) := by decide +kernel
theorem dX8_readsText_5 : decode cX8_readsText 5 = .ok (.aload_n 0, 1) := by decide +kernel
theorem dX8_readsText_6 : decode cX8_readsText 6 = .ok (.aload_n 0, 1) := by decide +kernel
theorem dX8_readsText_7 : decode cX8_readsText 7 = .ok (.getfield 7, 3) := by decide +kernel
theorem dX8_readsText_10 : decode cX8_readsText 10 = .ok (.iconst 0, 1) := by decide +kernel
theorem dX8_readsText_11 : decode cX8_readsText 11 = .ok (.iaload, 1) := by decide +kernel
theorem dX8_readsText_12 : decode cX8_readsText 12 = .ok (.putfield 174, 3) := by decide +kernel
theorem dX8_readsText_15 : decode cX8_readsText 15 = .ok (.iconst 0, 1) := by decide +kernel
theorem dX8_readsText_16 : decode cX8_readsText 16 = .ok (.istore_n 1, 1) := by decide +kernel
theorem dX8_readsText_17 : decode cX8_readsText 17 = .ok (.iload_n 1, 1) := by decide +kernel
theorem dX8_readsText_18 : decode cX8_readsText 18 = .ok (.iconst 5, 1) := by decide +kernel
theorem dX8_readsText_19 : decode cX8_readsText 19 = .ok (.if_icmp .ge 16, 3) := by decide +kernel
theorem dX8_readsText_22 : decode cX8_readsText 22 = .ok (.aload_n 0, 1) := by decide +kernel
theorem dX8_readsText_23 : decode cX8_readsText 23 = .ok (.getfield 25, 3) := by decide +kernel
theorem dX8_readsText_26 : decode cX8_readsText 26 = .ok (.iload_n 1, 1) := by decide +kernel
theorem dX8_readsText_27 : decode cX8_readsText 27 = .ok (.iconst 0, 1) := by decide +kernel
theorem dX8_readsText_28 : decode cX8_readsText 28 = .ok (.iastore, 1) := by decide +kernel
theorem dX8_readsText_29 : decode cX8_readsText 29 = .ok (.iinc 1 1, 3) := by decide +kernel
theorem dX8_readsText_32 : decode cX8_readsText 32 = .ok (.goto (-15), 3) := by decide +kernel
theorem dX8_readsText_35 : decode cX8_readsText 35 = .ok (.aload_n 0, 1) := by decide +kernel
theorem dX8_readsText_36 : decode cX8_readsText 36 = .ok (.bipush 110, 2) := by decide +kernel
theorem dX8_readsText_38 : decode cX8_readsText 38 = .ok (.invokevirtual 177, 3) := by decide +kernel
theorem dX8_readsText_41 : decode cX8_readsText 41 = .ok (.ifCond .eq 10, 3) := by decide +kernel
theorem dX8_readsText_44 : decode cX8_readsText 44 = .ok (.aload_n 0, 1) := by decide +kernel
theorem dX8_readsText_45 : decode cX8_readsText 45 = .ok (.invokevirtual 182, 3) := by decide +kernel
theorem dX8_readsText_48 : decode cX8_readsText 48 = .ok (.ifCond .eq 7, 3) := by decide +kernel
theorem dX8_readsText_51 : decode cX8_readsText 51 = .ok (.iconst 1, 1) := by decide +kernel
theorem dX8_readsText_52 : decode cX8_readsText 52 = .ok (.goto 4, 3) := by decide +kernel
theorem dX8_readsText_55 : decode cX8_readsText 55 = .ok (.iconst 0, 1) := by decide +kernel
theorem dX8_readsText_56 : decode cX8_readsText 56 = .ok (.istore_n 1, 1) := by decide +kernel
theorem dX8_readsText_57 : decode cX8_readsText 57 = .ok (.iload_n 1, 1) := by decide +kernel
theorem dX8_readsText_58 : decode cX8_readsText 58 = .ok (.ifCond .eq 22, 3) := by decide +kernel
theorem dX8_readsText_61 : decode cX8_readsText 61 = .ok (.aload_n 0, 1) := by decide +kernel
theorem dX8_readsText_62 : decode cX8_readsText 62 = .ok (.getfield 160, 3) := by decide +kernel
theorem dX8_readsText_65 : decode cX8_readsText 65 = .ok (.aload_n 0, 1) := by decide +kernel
theorem dX8_readsText_66 : decode cX8_readsText 66 = .ok (.getfield 157, 3) := by decide +kernel
theorem dX8_readsText_69 : decode cX8_readsText 69 = .ok (.if_icmp .ge 11, 3) := by decide +kernel
theorem dX8_readsText_72 : decode cX8_readsText 72 = .ok (.aload_n 0, 1) := by decide +kernel
theorem dX8_readsText_73 : decode cX8_readsText 73 = .ok (.invokevirtual 185, 3) := by decide +kernel
theorem dX8_readsText_76 : decode cX8_readsText 76 = .ok (.istore_n 1, 1) := by decide +kernel
theorem dX8_readsText_77 : decode cX8_readsText 77 = .ok (.goto (-20), 3) := by decide +kernel
theorem dX8_readsText_80 : decode cX8_readsText 80 = .ok (.iload_n 1, 1) := by decide +kernel
theorem dX8_readsText_81 : decode cX8_readsText 81 = .ok (.ireturn, 1) := by decide +kernel
theorem dX8_parse_0 : decode cX8_parse 0 = .ok (.aload_n 0, 1) := by decide +kernel
theorem dX8_parse_1 : decode cX8_parse 1 = .ok (.invokevirtual 188, 3) := by decide +kernel
theorem dX8_parse_4 : decode cX8_parse 4 = .ok (.ifCond .ne 15, 3) := by decide +kernel
theorem dX8_parse_7 : decode cX8_parse 7 = .ok (.aload_n 0, 1) := by decide +kernel
theorem dX8_parse_8 : decode cX8_parse 8 = .ok (.bipush (-10), 2) := by decide +kernel
theorem dX8_parse_10 : decode cX8_parse 10 = .ok (.aload_n 0, 1) := by decide +kernel
theorem dX8_parse_11 : decode cX8_parse 11 = .ok (.getfield 160, 3) := by decide +kernel
theorem dX8_parse_14 : decode cX8_parse 14 = .ok (.isub, 1) := by decide +kernel
theorem dX8_parse_15 : decode cX8_parse 15 = .ok (.invokevirtual 65, 3) := by decide +kernel
theorem dX8_parse_18 : decode cX8_parse 18 = .ok (.ireturn, 1) := by decide +kernel
theorem dX8_parse_19 : decode cX8_parse 19 = .ok (.aload_n 0, 1) := by decide +kernel
theorem dX8_parse_20 : decode cX8_parse 20 = .ok (.invokevirtual 59, 3) := by decide +kernel
theorem dX8_parse_23 : decode cX8_parse 23 = .ok (.iconst 0, 1) := by decide +kernel
theorem dX8_parse_24 : decode cX8_parse 24 = .ok (.istore_n 1, 1) := by decide +kernel
theorem dX8_parse_25 : decode cX8_parse 25 = .ok (.iconst 0, 1) := by decide +kernel
theorem dX8_parse_26 : decode cX8_parse 26 = .ok (.istore_n 2, 1) := by decide +kernel
theorem dX8_parse_27 : decode cX8_parse 27 = .ok (.iload_n 2, 1) := by decide +kernel
theorem dX8_parse_28 : decode cX8_parse 28 = .ok (.iconst 5, 1) := by decide +kernel
theorem dX8_parse_29 : decode cX8_parse 29 = .ok (.if_icmp .ge 32, 3) := by decide +kernel
theorem dX8_parse_32 : decode cX8_parse 32 = .ok (.aload_n 0, 1) := by decide +kernel
theorem dX8_parse_33 : decode cX8_parse 33 = .ok (.getfield 7, 3) := by decide +kernel
theorem dX8_parse_36 : decode cX8_parse 36 = .ok (.bipush 16, 2) := by decide +kernel
theorem dX8_parse_38 : decode cX8_parse 38 = .ok (.iload_n 2, 1) := by decide +kernel
theorem dX8_parse_39 : decode cX8_parse 39 = .ok (.iadd, 1) := by decide +kernel
theorem dX8_parse_40 : decode cX8_parse 40 = .ok (.aload_n 0, 1) := by decide +kernel
theorem dX8_parse_41 : decode cX8_parse 41 = .ok (.getfield 25, 3) := by decide +kernel
theorem dX8_parse_44 : decode cX8_parse 44 = .ok (.iload_n 2, 1) := by decide +kernel
theorem dX8_parse_45 : decode cX8_parse 45 = .ok (.iaload, 1) := by decide +kernel
theorem dX8_parse_46 : decode cX8_parse 46 = .ok (.iastore, 1) := by decide +kernel
theorem dX8_parse_47 : decode cX8_parse 47 = .ok (.iload_n 1, 1) := by decide +kernel
theorem dX8_parse_48 : decode cX8_parse 48 = .ok (.aload_n 0, 1) := by decide +kernel
theorem dX8_parse_49 : decode cX8_parse 49 = .ok (.iload_n 2, 1) := by decide +kernel
theorem dX8_parse_50 : decode cX8_parse 50 = .ok (.invokevirtual 62, 3) := by decide +kernel
theorem dX8_parse_53 : decode cX8_parse 53 = .ok (.iadd, 1) := by decide +kernel
theorem dX8_parse_54 : decode cX8_parse 54 = .ok (.istore_n 1, 1) := by decide +kernel
theorem dX8_parse_55 : decode cX8_parse 55 = .ok (.iinc 2 1, 3) := by decide +kernel
theorem dX8_parse_58 : decode cX8_parse 58 = .ok (.goto (-31), 3) := by decide +kernel
theorem dX8_parse_61 : decode cX8_parse 61 = .ok (.aload_n 0, 1) := by decide +kernel
theorem dX8_parse_62 : decode cX8_parse 62 = .ok (.getfield 7, 3) := by decide +kernel
theorem dX8_parse_65 : decode cX8_parse 65 = .ok (.iconst 0, 1) := by decide +kernel
theorem dX8_parse_66 : decode cX8_parse 66 = .ok (.aload_n 0, 1) := by decide +kernel
theorem dX8_parse_67 : decode cX8_parse 67 = .ok (.getfield 174, 3) := by decide +kernel
theorem dX8_parse_70 : decode cX8_parse 70 = .ok (.iastore, 1) := by decide +kernel
theorem dX8_parse_71 : decode cX8_parse 71 = .ok (.aload_n 0, 1) := by decide +kernel
theorem dX8_parse_72 : decode cX8_parse 72 = .ok (.getfield 7, 3) := by decide +kernel
theorem dX8_parse_75 : decode cX8_parse 75 = .ok (.iconst 1, 1) := by decide +kernel
theorem dX8_parse_76 : decode cX8_parse 76 = .ok (.iconst 0, 1) := by decide +kernel
theorem dX8_parse_77 : decode cX8_parse 77 = .ok (.iastore, 1) := by decide +kernel
theorem dX8_parse_78 : decode cX8_parse 78 = .ok (.aload_n 0, 1) := by decide +kernel
theorem dX8_parse_79 : decode cX8_parse 79 = .ok (.getfield 7, 3) := by decide +kernel
theorem dX8_parse_82 : decode cX8_parse 82 = .ok (.iconst 2, 1) := by decide +kernel
theorem dX8_parse_83 : decode cX8_parse 83 = .ok (.iconst 0, 1) := by decide +kernel
theorem dX8_parse_84 : decode cX8_parse 84 = .ok (.iastore, 1) := by decide +kernel
theorem dX8_parse_85 : decode cX8_parse 85 = .ok (.aload_n 0, 1) := by decide +kernel
theorem dX8_parse_86 : decode cX8_parse 86 = .ok (.invokevirtual 28, 3) := by decide +kernel
theorem dX8_parse_89 : decode cX8_parse 89 = .ok (.aload_n 0, 1) := by decide +kernel
theorem dX8_parse_90 : decode cX8_parse 90 = .ok (.iload_n 1, 1) := by decide +kernel
theorem dX8_parse_91 : decode cX8_parse 91 = .ok (.invokevirtual 65, 3) := by decide +kernel
theorem dX8_parse_94 : decode cX8_parse 94 = .ok (.ireturn, 1) := by decide +kernel
theorem dX8_undo_0 : decode cX8_undo 0 = .ok (.aload_n 0, 1) := by decide +kernel
theorem dX8_undo_1 : decode cX8_undo 1 = .ok (.getfield 35, 3) := by decide +kernel
theorem dX8_undo_4 : decode cX8_undo 4 = .ok (.ifCond .ne 9, 3) := by decide +kernel
theorem dX8_undo_7 : decode cX8_undo 7 = .ok (.aload_n 0, 1) := by decide +kernel
theorem dX8_undo_8 : decode cX8_undo 8 = .ok (.iconst 1, 1) := by decide +kernel
theorem dX8_undo_9 : decode cX8_undo 9 = .ok (.invokevirtual 55, 3) := by decide +kernel
theorem dX8_undo_12 : decode cX8_undo 12 = .ok (.ireturn, 1) := by decide +kernel
theorem dX8_undo_13 : decode cX8_undo 13 = .ok (.aload_n 0, 1) := by decide +kernel
theorem dX8_undo_14 : decode cX8_undo 14 = .ok (.dup, 1) := by decide +kernel
theorem dX8_undo_15 : decode cX8_undo 15 = .ok (.getfield 35, 3) := by decide +kernel
theorem dX8_undo_18 : decode cX8_undo 18 = .ok (.iconst 1, 1) := by decide +kernel
theorem dX8_undo_19 : decode cX8_undo 19 = .ok (.isub, 1) := by decide +kernel
theorem dX8_undo_20 : decode cX8_undo 20 = .ok (.putfield 35, 3) := by decide +kernel
theorem dX8_undo_23 : decode cX8_undo 23 = .ok (.iconst 0, 1) := by decide +kernel
theorem dX8_undo_24 : decode cX8_undo 24 = .ok (.istore_n 1, 1) := by decide +kernel
theorem dX8_undo_25 : decode cX8_undo 25 = .ok (.iload_n 1, 1) := by decide +kernel
theorem dX8_undo_26 : decode cX8_undo 26 = .ok (.sipush 159, 3) := by decide +kernel
theorem dX8_undo_29 : decode cX8_undo 29 = .ok (.if_icmp .ge 30, 3) := by decide +kernel
theorem dX8_undo_32 : decode cX8_undo 32 = .ok (.aload_n 0, 1) := by decide +kernel
theorem dX8_undo_33 : decode cX8_undo 33 = .ok (.getfield 7, 3) := by decide +kernel
theorem dX8_undo_36 : decode cX8_undo 36 = .ok (.iload_n 1, 1) := by decide +kernel
theorem dX8_undo_37 : decode cX8_undo 37 = .ok (.aload_n 0, 1) := by decide +kernel
theorem dX8_undo_38 : decode cX8_undo 38 = .ok (.getfield 13, 3) := by decide +kernel
theorem dX8_undo_41 : decode cX8_undo 41 = .ok (.sipush 159, 3) := by decide +kernel
theorem dX8_undo_44 : decode cX8_undo 44 = .ok (.aload_n 0, 1) := by decide +kernel
theorem dX8_undo_45 : decode cX8_undo 45 = .ok (.getfield 35, 3) := by decide +kernel
theorem dX8_undo_48 : decode cX8_undo 48 = .ok (.imul, 1) := by decide +kernel
theorem dX8_undo_49 : decode cX8_undo 49 = .ok (.iload_n 1, 1) := by decide +kernel
theorem dX8_undo_50 : decode cX8_undo 50 = .ok (.iadd, 1) := by decide +kernel
theorem dX8_undo_51 : decode cX8_undo 51 = .ok (.iaload, 1) := by decide +kernel
theorem dX8_undo_52 : decode cX8_undo 52 = .ok (.iastore, 1) := by decide +kernel
theorem dX8_undo_53 : decode cX8_undo 53 = .ok (.iinc 1 1, 3) := by decide +kernel
theorem dX8_undo_56 : decode cX8_undo 56 = .ok (.goto (-31), 3) := by decide +kernel
theorem dX8_undo_59 : decode cX8_undo 59 = .ok (.aload_n 0, 1) := by decide +kernel
theorem dX8_undo_60 : decode cX8_undo 60 = .ok (.aload_n 0, 1) := by decide +kernel
theorem dX8_undo_61 : decode cX8_undo 61 = .ok (.getfield 35, 3) := by decide +kernel
theorem dX8_undo_64 : decode cX8_undo 64 = .ok (.invokevirtual 65, 3) := by decide +kernel
theorem dX8_undo_67 : decode cX8_undo 67 = .ok (.ireturn, 1) := by decide +kernel
theorem dX8_hashSteps_0 : decode cX8_hashSteps 0 = .ok (.lload_n 1, 1) := by decide +kernel
theorem dX8_hashSteps_1 : decode cX8_hashSteps 1 = .ok (.lstore_n 3, 1) := by decide +kernel
theorem dX8_hashSteps_2 : decode cX8_hashSteps 2 = .ok (.iconst 0, 1) := by decide +kernel
theorem dX8_hashSteps_3 : decode cX8_hashSteps 3 = .ok (.istore 5, 2) := by decide +kernel
theorem dX8_hashSteps_5 : decode cX8_hashSteps 5 = .ok (.iload 5, 2) := by decide +kernel
theorem dX8_hashSteps_7 : decode cX8_hashSteps 7 = .ok (.aload_n 0, 1) := by decide +kernel
theorem dX8_hashSteps_8 : decode cX8_hashSteps 8 = .ok (.getfield 7, 3) := by decide +kernel
theorem dX8_hashSteps_11 : decode cX8_hashSteps 11 = .ok (.iconst 0, 1) := by decide +kernel
theorem dX8_hashSteps_12 : decode cX8_hashSteps 12 = .ok (.iaload, 1) := by decide +kernel
theorem dX8_hashSteps_13 : decode cX8_hashSteps 13 = .ok (.if_icmp .ge 89, 3) := by decide +kernel
theorem dX8_hashSteps_16 : decode cX8_hashSteps 16 = .ok (.ldc2_w 191, 3) := by decide +kernel
theorem dX8_hashSteps_19 : decode cX8_hashSteps 19 = .ok (.lload_n 3, 1) := by decide +kernel
theorem dX8_hashSteps_20 : decode cX8_hashSteps 20 = .ok (.lmul, 1) := by decide +kernel
theorem dX8_hashSteps_21 : decode cX8_hashSteps 21 = .ok (.aload_n 0, 1) := by decide +kernel
theorem dX8_hashSteps_22 : decode cX8_hashSteps 22 = .ok (.getfield 7, 3) := by decide +kernel
theorem dX8_hashSteps_25 : decode cX8_hashSteps 25 = .ok (.sipush 143, 3) := by decide +kernel
theorem dX8_hashSteps_28 : decode cX8_hashSteps 28 = .ok (.iload 5, 2) := by decide +kernel
theorem dX8_hashSteps_30 : decode cX8_hashSteps 30 = .ok (.iadd, 1) := by decide +kernel
theorem dX8_hashSteps_31 : decode cX8_hashSteps 31 = .ok (.iaload, 1) := by decide +kernel
theorem dX8_hashSteps_32 : decode cX8_hashSteps 32 = .ok (.i2l, 1) := by decide +kernel
theorem dX8_hashSteps_33 : decode cX8_hashSteps 33 = .ok (.ladd, 1) := by decide +kernel
theorem dX8_hashSteps_34 : decode cX8_hashSteps 34 = .ok (.lstore_n 3, 1) := by decide +kernel
theorem dX8_hashSteps_35 : decode cX8_hashSteps 35 = .ok (.iconst 0, 1) := by decide +kernel
theorem dX8_hashSteps_36 : decode cX8_hashSteps 36 = .ok (.istore 6, 2) := by decide +kernel
theorem dX8_hashSteps_38 : decode cX8_hashSteps 38 = .ok (.iload 6, 2) := by decide +kernel
theorem dX8_hashSteps_40 : decode cX8_hashSteps 40 = .ok (.iconst 5, 1) := by decide +kernel
theorem dX8_hashSteps_41 : decode cX8_hashSteps 41 = .ok (.if_icmp .ge 55, 3) := by decide +kernel
theorem dX8_hashSteps_44 : decode cX8_hashSteps 44 = .ok (.ldc2_w 191, 3) := by decide +kernel
theorem dX8_hashSteps_47 : decode cX8_hashSteps 47 = .ok (.ldc2_w 191, 3) := by decide +kernel
theorem dX8_hashSteps_50 : decode cX8_hashSteps 50 = .ok (.lload_n 3, 1) := by decide +kernel
theorem dX8_hashSteps_51 : decode cX8_hashSteps 51 = .ok (.lmul, 1) := by decide +kernel
theorem dX8_hashSteps_52 : decode cX8_hashSteps 52 = .ok (.aload_n 0, 1) := by decide +kernel
theorem dX8_hashSteps_53 : decode cX8_hashSteps 53 = .ok (.iload 6, 2) := by decide +kernel
theorem dX8_hashSteps_55 : decode cX8_hashSteps 55 = .ok (.iload 5, 2) := by decide +kernel
theorem dX8_hashSteps_57 : decode cX8_hashSteps 57 = .ok (.invokevirtual 44, 3) := by decide +kernel
theorem dX8_hashSteps_60 : decode cX8_hashSteps 60 = .ok (.ifCond .eq 7, 3) := by decide +kernel
theorem dX8_hashSteps_63 : decode cX8_hashSteps 63 = .ok (.iconst 1, 1) := by decide +kernel
theorem dX8_hashSteps_64 : decode cX8_hashSteps 64 = .ok (.goto 4, 3) := by decide +kernel
theorem dX8_hashSteps_67 : decode cX8_hashSteps 67 = .ok (.iconst 0, 1) := by decide +kernel
theorem dX8_hashSteps_68 : decode cX8_hashSteps 68 = .ok (.i2l, 1) := by decide +kernel
theorem dX8_hashSteps_69 : decode cX8_hashSteps 69 = .ok (.ladd, 1) := by decide +kernel
theorem dX8_hashSteps_70 : decode cX8_hashSteps 70 = .ok (.lmul, 1) := by decide +kernel
theorem dX8_hashSteps_71 : decode cX8_hashSteps 71 = .ok (.aload_n 0, 1) := by decide +kernel
theorem dX8_hashSteps_72 : decode cX8_hashSteps 72 = .ok (.getfield 7, 3) := by decide +kernel
theorem dX8_hashSteps_75 : decode cX8_hashSteps 75 = .ok (.bipush 63, 2) := by decide +kernel
theorem dX8_hashSteps_77 : decode cX8_hashSteps 77 = .ok (.bipush 16, 2) := by decide +kernel
theorem dX8_hashSteps_79 : decode cX8_hashSteps 79 = .ok (.iload 6, 2) := by decide +kernel
theorem dX8_hashSteps_81 : decode cX8_hashSteps 81 = .ok (.imul, 1) := by decide +kernel
theorem dX8_hashSteps_82 : decode cX8_hashSteps 82 = .ok (.iadd, 1) := by decide +kernel
theorem dX8_hashSteps_83 : decode cX8_hashSteps 83 = .ok (.iload 5, 2) := by decide +kernel
theorem dX8_hashSteps_85 : decode cX8_hashSteps 85 = .ok (.iadd, 1) := by decide +kernel
theorem dX8_hashSteps_86 : decode cX8_hashSteps 86 = .ok (.iaload, 1) := by decide +kernel
theorem dX8_hashSteps_87 : decode cX8_hashSteps 87 = .ok (.i2l, 1) := by decide +kernel
theorem dX8_hashSteps_88 : decode cX8_hashSteps 88 = .ok (.ladd, 1) := by decide +kernel
theorem dX8_hashSteps_89 : decode cX8_hashSteps 89 = .ok (.lstore_n 3, 1) := by decide +kernel
theorem dX8_hashSteps_90 : decode cX8_hashSteps 90 = .ok (.iinc 6 1, 3) := by decide +kernel
theorem dX8_hashSteps_93 : decode cX8_hashSteps 93 = .ok (.goto (-55), 3) := by decide +kernel
theorem dX8_hashSteps_96 : decode cX8_hashSteps 96 = .ok (.iinc 5 1, 3) := by decide +kernel
theorem dX8_hashSteps_99 : decode cX8_hashSteps 99 = .ok (.goto (-94), 3) := by decide +kernel
theorem dX8_hashSteps_102 : decode cX8_hashSteps 102 = .ok (.lload_n 3, 1) := by decide +kernel
theorem dX8_hashSteps_103 : decode cX8_hashSteps 103 = .ok (.lreturn, 1) := by decide +kernel
theorem dX8_digest_0 : decode cX8_digest 0 = .ok (.aload_n 0, 1) := by decide +kernel
theorem dX8_digest_1 : decode cX8_digest 1 = .ok (.iconst 0, 1) := by decide +kernel
theorem dX8_digest_2 : decode cX8_digest 2 = .ok (.putfield 31, 3) := by decide +kernel
theorem dX8_digest_5 : decode cX8_digest 5 = .ok (.ldc2_w 193, 3) := by decide +kernel
theorem dX8_digest_8 : decode cX8_digest 8 = .ok (.aload_n 0, 1) := by decide +kernel
theorem dX8_digest_9 : decode cX8_digest 9 = .ok (.getfield 157, 3) := by decide +kernel
theorem dX8_digest_12 : decode cX8_digest 12 = .ok (.i2l, 1) := by decide +kernel
theorem dX8_digest_13 : decode cX8_digest 13 = .ok (.ladd, 1) := by decide +kernel
theorem dX8_digest_14 : decode cX8_digest 14 = .ok (.lstore_n 1, 1) := by decide +kernel
theorem dX8_digest_15 : decode cX8_digest 15 = .ok (.iconst 0, 1) := by decide +kernel
theorem dX8_digest_16 : decode cX8_digest 16 = .ok (.istore_n 3, 1) := by decide +kernel
theorem dX8_digest_17 : decode cX8_digest 17 = .ok (.iload_n 3, 1) := by decide +kernel
theorem dX8_digest_18 : decode cX8_digest 18 = .ok (.bipush 16, 2) := by decide +kernel
theorem dX8_digest_20 : decode cX8_digest 20 = .ok (.if_icmp .ge 23, 3) := by decide +kernel
theorem dX8_digest_23 : decode cX8_digest 23 = .ok (.ldc2_w 191, 3) := by decide +kernel
theorem dX8_digest_26 : decode cX8_digest 26 = .ok (.lload_n 1, 1) := by decide +kernel
theorem dX8_digest_27 : decode cX8_digest 27 = .ok (.lmul, 1) := by decide +kernel
theorem dX8_digest_28 : decode cX8_digest 28 = .ok (.aload_n 0, 1) := by decide +kernel
theorem dX8_digest_29 : decode cX8_digest 29 = .ok (.getfield 7, 3) := by decide +kernel
theorem dX8_digest_32 : decode cX8_digest 32 = .ok (.iload_n 3, 1) := by decide +kernel
theorem dX8_digest_33 : decode cX8_digest 33 = .ok (.iaload, 1) := by decide +kernel
theorem dX8_digest_34 : decode cX8_digest 34 = .ok (.i2l, 1) := by decide +kernel
theorem dX8_digest_35 : decode cX8_digest 35 = .ok (.ladd, 1) := by decide +kernel
theorem dX8_digest_36 : decode cX8_digest 36 = .ok (.lstore_n 1, 1) := by decide +kernel
theorem dX8_digest_37 : decode cX8_digest 37 = .ok (.iinc 3 1, 3) := by decide +kernel
theorem dX8_digest_40 : decode cX8_digest 40 = .ok (.goto (-23), 3) := by decide +kernel
theorem dX8_digest_43 : decode cX8_digest 43 = .ok (.iconst 0, 1) := by decide +kernel
theorem dX8_digest_44 : decode cX8_digest 44 = .ok (.istore_n 3, 1) := by decide +kernel
theorem dX8_digest_45 : decode cX8_digest 45 = .ok (.iload_n 3, 1) := by decide +kernel
theorem dX8_digest_46 : decode cX8_digest 46 = .ok (.bipush 40, 2) := by decide +kernel
theorem dX8_digest_48 : decode cX8_digest 48 = .ok (.if_icmp .ge 29, 3) := by decide +kernel
theorem dX8_digest_51 : decode cX8_digest 51 = .ok (.ldc2_w 191, 3) := by decide +kernel
theorem dX8_digest_54 : decode cX8_digest 54 = .ok (.lload_n 1, 1) := by decide +kernel
theorem dX8_digest_55 : decode cX8_digest 55 = .ok (.lmul, 1) := by decide +kernel
theorem dX8_digest_56 : decode cX8_digest 56 = .ok (.aload_n 0, 1) := by decide +kernel
theorem dX8_digest_57 : decode cX8_digest 57 = .ok (.iload_n 3, 1) := by decide +kernel
theorem dX8_digest_58 : decode cX8_digest 58 = .ok (.bipush 8, 2) := by decide +kernel
theorem dX8_digest_60 : decode cX8_digest 60 = .ok (.idiv, 1) := by decide +kernel
theorem dX8_digest_61 : decode cX8_digest 61 = .ok (.iload_n 3, 1) := by decide +kernel
theorem dX8_digest_62 : decode cX8_digest 62 = .ok (.bipush 8, 2) := by decide +kernel
theorem dX8_digest_64 : decode cX8_digest 64 = .ok (.irem, 1) := by decide +kernel
theorem dX8_digest_65 : decode cX8_digest 65 = .ok (.invokevirtual 123, 3) := by decide +kernel
theorem dX8_digest_68 : decode cX8_digest 68 = .ok (.i2l, 1) := by decide +kernel
theorem dX8_digest_69 : decode cX8_digest 69 = .ok (.ladd, 1) := by decide +kernel
theorem dX8_digest_70 : decode cX8_digest 70 = .ok (.lstore_n 1, 1) := by decide +kernel
theorem dX8_digest_71 : decode cX8_digest 71 = .ok (.iinc 3 1, 3) := by decide +kernel
theorem dX8_digest_74 : decode cX8_digest 74 = .ok (.goto (-29), 3) := by decide +kernel
theorem dX8_digest_77 : decode cX8_digest 77 = .ok (.iconst 0, 1) := by decide +kernel
theorem dX8_digest_78 : decode cX8_digest 78 = .ok (.istore_n 3, 1) := by decide +kernel
theorem dX8_digest_79 : decode cX8_digest 79 = .ok (.iload_n 3, 1) := by decide +kernel
theorem dX8_digest_80 : decode cX8_digest 80 = .ok (.iconst 4, 1) := by decide +kernel
theorem dX8_digest_81 : decode cX8_digest 81 = .ok (.aload_n 0, 1) := by decide +kernel
theorem dX8_digest_82 : decode cX8_digest 82 = .ok (.getfield 7, 3) := by decide +kernel
theorem dX8_digest_85 : decode cX8_digest 85 = .ok (.bipush 8, 2) := by decide +kernel
theorem dX8_digest_87 : decode cX8_digest 87 = .ok (.iaload, 1) := by decide +kernel
theorem dX8_digest_88 : decode cX8_digest 88 = .ok (.imul, 1) := by decide +kernel
theorem dX8_digest_89 : decode cX8_digest 89 = .ok (.if_icmp .ge 27, 3) := by decide +kernel
theorem dX8_digest_92 : decode cX8_digest 92 = .ok (.ldc2_w 191, 3) := by decide +kernel
theorem dX8_digest_95 : decode cX8_digest 95 = .ok (.lload_n 1, 1) := by decide +kernel
theorem dX8_digest_96 : decode cX8_digest 96 = .ok (.lmul, 1) := by decide +kernel
theorem dX8_digest_97 : decode cX8_digest 97 = .ok (.aload_n 0, 1) := by decide +kernel
theorem dX8_digest_98 : decode cX8_digest 98 = .ok (.iload_n 3, 1) := by decide +kernel
theorem dX8_digest_99 : decode cX8_digest 99 = .ok (.iconst 4, 1) := by decide +kernel
theorem dX8_digest_100 : decode cX8_digest 100 = .ok (.idiv, 1) := by decide +kernel
theorem dX8_digest_101 : decode cX8_digest 101 = .ok (.iload_n 3, 1) := by decide +kernel
theorem dX8_digest_102 : decode cX8_digest 102 = .ok (.iconst 4, 1) := by decide +kernel
theorem dX8_digest_103 : decode cX8_digest 103 = .ok (.irem, 1) := by decide +kernel
theorem dX8_digest_104 : decode cX8_digest 104 = .ok (.invokevirtual 129, 3) := by decide +kernel
theorem dX8_digest_107 : decode cX8_digest 107 = .ok (.i2l, 1) := by decide +kernel
theorem dX8_digest_108 : decode cX8_digest 108 = .ok (.ladd, 1) := by decide +kernel
theorem dX8_digest_109 : decode cX8_digest 109 = .ok (.lstore_n 1, 1) := by decide +kernel
theorem dX8_digest_110 : decode cX8_digest 110 = .ok (.iinc 3 1, 3) := by decide +kernel
theorem dX8_digest_113 : decode cX8_digest 113 = .ok (.goto (-34), 3) := by decide +kernel
theorem dX8_digest_116 : decode cX8_digest 116 = .ok (.ldc2_w 191, 3) := by decide +kernel
theorem dX8_digest_119 : decode cX8_digest 119 = .ok (.ldc2_w 191, 3) := by decide +kernel
theorem dX8_digest_122 : decode cX8_digest 122 = .ok (.aload_n 0, 1) := by decide +kernel
theorem dX8_digest_123 : decode cX8_digest 123 = .ok (.lload_n 1, 1) := by decide +kernel
theorem dX8_digest_124 : decode cX8_digest 124 = .ok (.invokevirtual 195, 3) := by decide +kernel
theorem dX8_digest_127 : decode cX8_digest 127 = .ok (.lmul, 1) := by decide +kernel
theorem dX8_digest_128 : decode cX8_digest 128 = .ok (.aload_n 0, 1) := by decide +kernel
theorem dX8_digest_129 : decode cX8_digest 129 = .ok (.invokevirtual 143, 3) := by decide +kernel
theorem dX8_digest_132 : decode cX8_digest 132 = .ok (.i2l, 1) := by decide +kernel
theorem dX8_digest_133 : decode cX8_digest 133 = .ok (.ladd, 1) := by decide +kernel
theorem dX8_digest_134 : decode cX8_digest 134 = .ok (.lmul, 1) := by decide +kernel
theorem dX8_digest_135 : decode cX8_digest 135 = .ok (.aload_n 0, 1) := by decide +kernel
theorem dX8_digest_136 : decode cX8_digest 136 = .ok (.getfield 35, 3) := by decide +kernel
theorem dX8_digest_139 : decode cX8_digest 139 = .ok (.i2l, 1) := by decide +kernel
theorem dX8_digest_140 : decode cX8_digest 140 = .ok (.ladd, 1) := by decide +kernel
theorem dX8_digest_141 : decode cX8_digest 141 = .ok (.lreturn, 1) := by decide +kernel
theorem dJ6_bitCount_0f7a4_0 : decode cJ6_bitCount_0f7a4 0 = .ok (.iload_n 0, 1) := by decide +kernel
theorem dJ6_bitCount_0f7a4_1 : decode cJ6_bitCount_0f7a4 1 = .ok (.iload_n 0, 1) := by decide +kernel
theorem dJ6_bitCount_0f7a4_2 : decode cJ6_bitCount_0f7a4 2 = .ok (.iconst 1, 1) := by decide +kernel
theorem dJ6_bitCount_0f7a4_3 : decode cJ6_bitCount_0f7a4 3 = .ok (.iushr, 1) := by decide +kernel
theorem dJ6_bitCount_0f7a4_4 : decode cJ6_bitCount_0f7a4 4 = .ok (.ldc_w 265, 3) := by decide +kernel
theorem dJ6_bitCount_0f7a4_7 : decode cJ6_bitCount_0f7a4 7 = .ok (.iand, 1) := by decide +kernel
theorem dJ6_bitCount_0f7a4_8 : decode cJ6_bitCount_0f7a4 8 = .ok (.isub, 1) := by decide +kernel
theorem dJ6_bitCount_0f7a4_9 : decode cJ6_bitCount_0f7a4 9 = .ok (.istore_n 0, 1) := by decide +kernel
theorem dJ6_bitCount_0f7a4_10 : decode cJ6_bitCount_0f7a4 10 = .ok (.iload_n 0, 1) := by decide +kernel
theorem dJ6_bitCount_0f7a4_11 : decode cJ6_bitCount_0f7a4 11 = .ok (.ldc_w 266, 3) := by decide +kernel
theorem dJ6_bitCount_0f7a4_14 : decode cJ6_bitCount_0f7a4 14 = .ok (.iand, 1) := by decide +kernel
theorem dJ6_bitCount_0f7a4_15 : decode cJ6_bitCount_0f7a4 15 = .ok (.iload_n 0, 1) := by decide +kernel
theorem dJ6_bitCount_0f7a4_16 : decode cJ6_bitCount_0f7a4 16 = .ok (.iconst 2, 1) := by decide +kernel
theorem dJ6_bitCount_0f7a4_17 : decode cJ6_bitCount_0f7a4 17 = .ok (.iushr, 1) := by decide +kernel
theorem dJ6_bitCount_0f7a4_18 : decode cJ6_bitCount_0f7a4 18 = .ok (.ldc_w 266, 3) := by decide +kernel
theorem dJ6_bitCount_0f7a4_21 : decode cJ6_bitCount_0f7a4 21 = .ok (.iand, 1) := by decide +kernel
theorem dJ6_bitCount_0f7a4_22 : decode cJ6_bitCount_0f7a4 22 = .ok (.iadd, 1) := by decide +kernel
theorem dJ6_bitCount_0f7a4_23 : decode cJ6_bitCount_0f7a4 23 = .ok (.istore_n 0, 1) := by decide +kernel
theorem dJ6_bitCount_0f7a4_24 : decode cJ6_bitCount_0f7a4 24 = .ok (.iload_n 0, 1) := by decide +kernel
theorem dJ6_bitCount_0f7a4_25 : decode cJ6_bitCount_0f7a4 25 = .ok (.iload_n 0, 1) := by decide +kernel
theorem dJ6_bitCount_0f7a4_26 : decode cJ6_bitCount_0f7a4 26 = .ok (.iconst 4, 1) := by decide +kernel
theorem dJ6_bitCount_0f7a4_27 : decode cJ6_bitCount_0f7a4 27 = .ok (.iushr, 1) := by decide +kernel
theorem dJ6_bitCount_0f7a4_28 : decode cJ6_bitCount_0f7a4 28 = .ok (.iadd, 1) := by decide +kernel
theorem dJ6_bitCount_0f7a4_29 : decode cJ6_bitCount_0f7a4 29 = .ok (.ldc_w 267, 3) := by decide +kernel
theorem dJ6_bitCount_0f7a4_32 : decode cJ6_bitCount_0f7a4 32 = .ok (.iand, 1) := by decide +kernel
theorem dJ6_bitCount_0f7a4_33 : decode cJ6_bitCount_0f7a4 33 = .ok (.istore_n 0, 1) := by decide +kernel
theorem dJ6_bitCount_0f7a4_34 : decode cJ6_bitCount_0f7a4 34 = .ok (.iload_n 0, 1) := by decide +kernel
theorem dJ6_bitCount_0f7a4_35 : decode cJ6_bitCount_0f7a4 35 = .ok (.iload_n 0, 1) := by decide +kernel
theorem dJ6_bitCount_0f7a4_36 : decode cJ6_bitCount_0f7a4 36 = .ok (.bipush 8, 2) := by decide +kernel
theorem dJ6_bitCount_0f7a4_38 : decode cJ6_bitCount_0f7a4 38 = .ok (.iushr, 1) := by decide +kernel
theorem dJ6_bitCount_0f7a4_39 : decode cJ6_bitCount_0f7a4 39 = .ok (.iadd, 1) := by decide +kernel
theorem dJ6_bitCount_0f7a4_40 : decode cJ6_bitCount_0f7a4 40 = .ok (.istore_n 0, 1) := by decide +kernel
theorem dJ6_bitCount_0f7a4_41 : decode cJ6_bitCount_0f7a4 41 = .ok (.iload_n 0, 1) := by decide +kernel
theorem dJ6_bitCount_0f7a4_42 : decode cJ6_bitCount_0f7a4 42 = .ok (.iload_n 0, 1) := by decide +kernel
theorem dJ6_bitCount_0f7a4_43 : decode cJ6_bitCount_0f7a4 43 = .ok (.bipush 16, 2) := by decide +kernel
theorem dJ6_bitCount_0f7a4_45 : decode cJ6_bitCount_0f7a4 45 = .ok (.iushr, 1) := by decide +kernel
theorem dJ6_bitCount_0f7a4_46 : decode cJ6_bitCount_0f7a4 46 = .ok (.iadd, 1) := by decide +kernel
theorem dJ6_bitCount_0f7a4_47 : decode cJ6_bitCount_0f7a4 47 = .ok (.istore_n 0, 1) := by decide +kernel
theorem dJ6_bitCount_0f7a4_48 : decode cJ6_bitCount_0f7a4 48 = .ok (.iload_n 0, 1) := by decide +kernel
theorem dJ6_bitCount_0f7a4_49 : decode cJ6_bitCount_0f7a4 49 = .ok (.bipush 63, 2) := by decide +kernel
theorem dJ6_bitCount_0f7a4_51 : decode cJ6_bitCount_0f7a4 51 = .ok (.iand, 1) := by decide +kernel
theorem dJ6_bitCount_0f7a4_52 : decode cJ6_bitCount_0f7a4 52 = .ok (.ireturn, 1) := by decide +kernel
theorem dJ9_max_7cf53_0 : decode cJ9_max_7cf53 0 = .ok (.iload_n 0, 1) := by decide +kernel
theorem dJ9_max_7cf53_1 : decode cJ9_max_7cf53 1 = .ok (.iload_n 1, 1) := by decide +kernel
theorem dJ9_max_7cf53_2 : decode cJ9_max_7cf53 2 = .ok (.if_icmp .lt 7, 3) := by decide +kernel
theorem dJ9_max_7cf53_5 : decode cJ9_max_7cf53 5 = .ok (.iload_n 0, 1) := by decide +kernel
theorem dJ9_max_7cf53_6 : decode cJ9_max_7cf53 6 = .ok (.goto 4, 3) := by decide +kernel
theorem dJ9_max_7cf53_9 : decode cJ9_max_7cf53 9 = .ok (.iload_n 1, 1) := by decide +kernel
theorem dJ9_max_7cf53_10 : decode cJ9_max_7cf53 10 = .ok (.ireturn, 1) := by decide +kernel
theorem dJ9_min_7cf53_0 : decode cJ9_min_7cf53 0 = .ok (.iload_n 0, 1) := by decide +kernel
theorem dJ9_min_7cf53_1 : decode cJ9_min_7cf53 1 = .ok (.iload_n 1, 1) := by decide +kernel
theorem dJ9_min_7cf53_2 : decode cJ9_min_7cf53 2 = .ok (.if_icmp .gt 7, 3) := by decide +kernel
theorem dJ9_min_7cf53_5 : decode cJ9_min_7cf53 5 = .ok (.iload_n 0, 1) := by decide +kernel
theorem dJ9_min_7cf53_6 : decode cJ9_min_7cf53 6 = .ok (.goto 4, 3) := by decide +kernel
theorem dJ9_min_7cf53_9 : decode cJ9_min_7cf53 9 = .ok (.iload_n 1, 1) := by decide +kernel
theorem dJ9_min_7cf53_10 : decode cJ9_min_7cf53 10 = .ok (.ireturn, 1) := by decide +kernel
theorem dJ7_fill_53178_0 : decode cJ7_fill_53178 0 = .ok (.iconst 0, 1) := by decide +kernel
theorem dJ7_fill_53178_1 : decode cJ7_fill_53178 1 = .ok (.istore_n 2, 1) := by decide +kernel
theorem dJ7_fill_53178_2 : decode cJ7_fill_53178 2 = .ok (.aload_n 0, 1) := by decide +kernel
theorem dJ7_fill_53178_3 : decode cJ7_fill_53178 3 = .ok (.arraylength, 1) := by decide +kernel
theorem dJ7_fill_53178_4 : decode cJ7_fill_53178 4 = .ok (.istore_n 3, 1) := by decide +kernel
theorem dJ7_fill_53178_5 : decode cJ7_fill_53178 5 = .ok (.iload_n 2, 1) := by decide +kernel
theorem dJ7_fill_53178_6 : decode cJ7_fill_53178 6 = .ok (.iload_n 3, 1) := by decide +kernel
theorem dJ7_fill_53178_7 : decode cJ7_fill_53178 7 = .ok (.if_icmp .ge 13, 3) := by decide +kernel
theorem dJ7_fill_53178_10 : decode cJ7_fill_53178 10 = .ok (.aload_n 0, 1) := by decide +kernel
theorem dJ7_fill_53178_11 : decode cJ7_fill_53178 11 = .ok (.iload_n 2, 1) := by decide +kernel
theorem dJ7_fill_53178_12 : decode cJ7_fill_53178 12 = .ok (.iload_n 1, 1) := by decide +kernel
theorem dJ7_fill_53178_13 : decode cJ7_fill_53178 13 = .ok (.iastore, 1) := by decide +kernel
theorem dJ7_fill_53178_14 : decode cJ7_fill_53178 14 = .ok (.iinc 2 1, 3) := by decide +kernel
theorem dJ7_fill_53178_17 : decode cJ7_fill_53178 17 = .ok (.goto (-12), 3) := by decide +kernel
theorem dJ7_fill_53178_20 : decode cJ7_fill_53178 20 = .ok (.return_, 1) := by decide +kernel
theorem dL_setCam_0 : decode cL_setCam 0 = .ok (.aload 4, 2) := by decide +kernel
theorem dL_setCam_2 : decode cL_setCam 2 = .ok (.iconst 0, 1) := by decide +kernel
theorem dL_setCam_3 : decode cL_setCam 3 = .ok (.aload_n 0, 1) := by decide +kernel
theorem dL_setCam_4 : decode cL_setCam 4 = .ok (.iload_n 1, 1) := by decide +kernel
theorem dL_setCam_5 : decode cL_setCam 5 = .ok (.iload_n 2, 1) := by decide +kernel
theorem dL_setCam_6 : decode cL_setCam 6 = .ok (.iload_n 3, 1) := by decide +kernel
theorem dL_setCam_7 : decode cL_setCam 7 = .ok (.invokevirtual 7, 3) := by decide +kernel
theorem dL_setCam_10 : decode cL_setCam 10 = .ok (.i2l, 1) := by decide +kernel
theorem dL_setCam_11 : decode cL_setCam 11 = .ok (.lastore, 1) := by decide +kernel
theorem dL_setCam_12 : decode cL_setCam 12 = .ok (.goto 7, 3) := by decide +kernel
theorem dL_setCam_15 : decode cL_setCam 15 = .ok (.astore 5, 2) := by decide +kernel
theorem dL_setCam_17 : decode cL_setCam 17 = .ok (.iconst 1, 1) := by decide +kernel
theorem dL_setCam_18 : decode cL_setCam 18 = .ok (.ireturn, 1) := by decide +kernel
theorem dL_setCam_19 : decode cL_setCam 19 = .ok (.iconst 0, 1) := by decide +kernel
theorem dL_setCam_20 : decode cL_setCam 20 = .ok (.ireturn, 1) := by decide +kernel
theorem dL_setPawl_0 : decode cL_setPawl 0 = .ok (.aload_n 3, 1) := by decide +kernel
theorem dL_setPawl_1 : decode cL_setPawl 1 = .ok (.iconst 0, 1) := by decide +kernel
theorem dL_setPawl_2 : decode cL_setPawl 2 = .ok (.aload_n 0, 1) := by decide +kernel
theorem dL_setPawl_3 : decode cL_setPawl 3 = .ok (.iload_n 1, 1) := by decide +kernel
theorem dL_setPawl_4 : decode cL_setPawl 4 = .ok (.iload_n 2, 1) := by decide +kernel
theorem dL_setPawl_5 : decode cL_setPawl 5 = .ok (.invokevirtual 15, 3) := by decide +kernel
theorem dL_setPawl_8 : decode cL_setPawl 8 = .ok (.i2l, 1) := by decide +kernel
theorem dL_setPawl_9 : decode cL_setPawl 9 = .ok (.lastore, 1) := by decide +kernel
theorem dL_setPawl_10 : decode cL_setPawl 10 = .ok (.goto 7, 3) := by decide +kernel
theorem dL_setPawl_13 : decode cL_setPawl 13 = .ok (.astore 4, 2) := by decide +kernel
theorem dL_setPawl_15 : decode cL_setPawl 15 = .ok (.iconst 1, 1) := by decide +kernel
theorem dL_setPawl_16 : decode cL_setPawl 16 = .ok (.ireturn, 1) := by decide +kernel
theorem dL_setPawl_17 : decode cL_setPawl 17 = .ok (.iconst 0, 1) := by decide +kernel
theorem dL_setPawl_18 : decode cL_setPawl 18 = .ok (.ireturn, 1) := by decide +kernel
theorem dL_setCylinder_0 : decode cL_setCylinder 0 = .ok (.aload 5, 2) := by decide +kernel
theorem dL_setCylinder_2 : decode cL_setCylinder 2 = .ok (.iconst 0, 1) := by decide +kernel
theorem dL_setCylinder_3 : decode cL_setCylinder 3 = .ok (.aload_n 0, 1) := by decide +kernel
theorem dL_setCylinder_4 : decode cL_setCylinder 4 = .ok (.iload_n 1, 1) := by decide +kernel
theorem dL_setCylinder_5 : decode cL_setCylinder 5 = .ok (.iload_n 2, 1) := by decide +kernel
theorem dL_setCylinder_6 : decode cL_setCylinder 6 = .ok (.iload_n 3, 1) := by decide +kernel
theorem dL_setCylinder_7 : decode cL_setCylinder 7 = .ok (.iload 4, 2) := by decide +kernel
theorem dL_setCylinder_9 : decode cL_setCylinder 9 = .ok (.invokevirtual 21, 3) := by decide +kernel
theorem dL_setCylinder_12 : decode cL_setCylinder 12 = .ok (.i2l, 1) := by decide +kernel
theorem dL_setCylinder_13 : decode cL_setCylinder 13 = .ok (.lastore, 1) := by decide +kernel
theorem dL_setCylinder_14 : decode cL_setCylinder 14 = .ok (.goto 11, 3) := by decide +kernel
theorem dL_setCylinder_17 : decode cL_setCylinder 17 = .ok (.astore 6, 2) := by decide +kernel
theorem dL_setCylinder_19 : decode cL_setCylinder 19 = .ok (.iconst 1, 1) := by decide +kernel
theorem dL_setCylinder_20 : decode cL_setCylinder 20 = .ok (.ireturn, 1) := by decide +kernel
theorem dL_setCylinder_21 : decode cL_setCylinder 21 = .ok (.astore 6, 2) := by decide +kernel
theorem dL_setCylinder_23 : decode cL_setCylinder 23 = .ok (.iconst 2, 1) := by decide +kernel
theorem dL_setCylinder_24 : decode cL_setCylinder 24 = .ok (.ireturn, 1) := by decide +kernel
theorem dL_setCylinder_25 : decode cL_setCylinder 25 = .ok (.iconst 0, 1) := by decide +kernel
theorem dL_setCylinder_26 : decode cL_setCylinder 26 = .ok (.ireturn, 1) := by decide +kernel
theorem dL_setAir_0 : decode cL_setAir 0 = .ok (.aload_n 3, 1) := by decide +kernel
theorem dL_setAir_1 : decode cL_setAir 1 = .ok (.iconst 0, 1) := by decide +kernel
theorem dL_setAir_2 : decode cL_setAir 2 = .ok (.aload_n 0, 1) := by decide +kernel
theorem dL_setAir_3 : decode cL_setAir 3 = .ok (.iload_n 1, 1) := by decide +kernel
theorem dL_setAir_4 : decode cL_setAir 4 = .ok (.iload_n 2, 1) := by decide +kernel
theorem dL_setAir_5 : decode cL_setAir 5 = .ok (.invokevirtual 25, 3) := by decide +kernel
theorem dL_setAir_8 : decode cL_setAir 8 = .ok (.i2l, 1) := by decide +kernel
theorem dL_setAir_9 : decode cL_setAir 9 = .ok (.lastore, 1) := by decide +kernel
theorem dL_setAir_10 : decode cL_setAir 10 = .ok (.goto 7, 3) := by decide +kernel
theorem dL_setAir_13 : decode cL_setAir 13 = .ok (.astore 4, 2) := by decide +kernel
theorem dL_setAir_15 : decode cL_setAir 15 = .ok (.iconst 1, 1) := by decide +kernel
theorem dL_setAir_16 : decode cL_setAir 16 = .ok (.ireturn, 1) := by decide +kernel
theorem dL_setAir_17 : decode cL_setAir 17 = .ok (.iconst 0, 1) := by decide +kernel
theorem dL_setAir_18 : decode cL_setAir 18 = .ok (.ireturn, 1) := by decide +kernel
theorem dL_addGuard_0 : decode cL_addGuard 0 = .ok (.aload 4, 2) := by decide +kernel
theorem dL_addGuard_2 : decode cL_addGuard 2 = .ok (.iconst 0, 1) := by decide +kernel
theorem dL_addGuard_3 : decode cL_addGuard 3 = .ok (.aload_n 0, 1) := by decide +kernel
theorem dL_addGuard_4 : decode cL_addGuard 4 = .ok (.iload_n 1, 1) := by decide +kernel
theorem dL_addGuard_5 : decode cL_addGuard 5 = .ok (.iload_n 2, 1) := by decide +kernel
theorem dL_addGuard_6 : decode cL_addGuard 6 = .ok (.iload_n 3, 1) := by decide +kernel
theorem dL_addGuard_7 : decode cL_addGuard 7 = .ok (.invokevirtual 28, 3) := by decide +kernel
theorem dL_addGuard_10 : decode cL_addGuard 10 = .ok (.i2l, 1) := by decide +kernel
theorem dL_addGuard_11 : decode cL_addGuard 11 = .ok (.lastore, 1) := by decide +kernel
theorem dL_addGuard_12 : decode cL_addGuard 12 = .ok (.goto 15, 3) := by decide +kernel
theorem dL_addGuard_15 : decode cL_addGuard 15 = .ok (.astore 5, 2) := by decide +kernel
theorem dL_addGuard_17 : decode cL_addGuard 17 = .ok (.iconst 1, 1) := by decide +kernel
theorem dL_addGuard_18 : decode cL_addGuard 18 = .ok (.ireturn, 1) := by decide +kernel
theorem dL_addGuard_19 : decode cL_addGuard 19 = .ok (.astore 5, 2) := by decide +kernel
theorem dL_addGuard_21 : decode cL_addGuard 21 = .ok (.iconst 2, 1) := by decide +kernel
theorem dL_addGuard_22 : decode cL_addGuard 22 = .ok (.ireturn, 1) := by decide +kernel
theorem dL_addGuard_23 : decode cL_addGuard 23 = .ok (.astore 5, 2) := by decide +kernel
theorem dL_addGuard_25 : decode cL_addGuard 25 = .ok (.iconst 3, 1) := by decide +kernel
theorem dL_addGuard_26 : decode cL_addGuard 26 = .ok (.ireturn, 1) := by decide +kernel
theorem dL_addGuard_27 : decode cL_addGuard 27 = .ok (.iconst 0, 1) := by decide +kernel
theorem dL_addGuard_28 : decode cL_addGuard 28 = .ok (.ireturn, 1) := by decide +kernel
theorem dL_removeGuard_0 : decode cL_removeGuard 0 = .ok (.aload_n 2, 1) := by decide +kernel
theorem dL_removeGuard_1 : decode cL_removeGuard 1 = .ok (.iconst 0, 1) := by decide +kernel
theorem dL_removeGuard_2 : decode cL_removeGuard 2 = .ok (.aload_n 0, 1) := by decide +kernel
theorem dL_removeGuard_3 : decode cL_removeGuard 3 = .ok (.iload_n 1, 1) := by decide +kernel
theorem dL_removeGuard_4 : decode cL_removeGuard 4 = .ok (.invokevirtual 34, 3) := by decide +kernel
theorem dL_removeGuard_7 : decode cL_removeGuard 7 = .ok (.i2l, 1) := by decide +kernel
theorem dL_removeGuard_8 : decode cL_removeGuard 8 = .ok (.lastore, 1) := by decide +kernel
theorem dL_removeGuard_9 : decode cL_removeGuard 9 = .ok (.goto 6, 3) := by decide +kernel
theorem dL_removeGuard_12 : decode cL_removeGuard 12 = .ok (.astore_n 3, 1) := by decide +kernel
theorem dL_removeGuard_13 : decode cL_removeGuard 13 = .ok (.iconst 1, 1) := by decide +kernel
theorem dL_removeGuard_14 : decode cL_removeGuard 14 = .ok (.ireturn, 1) := by decide +kernel
theorem dL_removeGuard_15 : decode cL_removeGuard 15 = .ok (.iconst 0, 1) := by decide +kernel
theorem dL_removeGuard_16 : decode cL_removeGuard 16 = .ok (.ireturn, 1) := by decide +kernel
theorem dL_turn_0 : decode cL_turn 0 = .ok (.aload_n 2, 1) := by decide +kernel
theorem dL_turn_1 : decode cL_turn 1 = .ok (.iconst 0, 1) := by decide +kernel
theorem dL_turn_2 : decode cL_turn 2 = .ok (.aload_n 0, 1) := by decide +kernel
theorem dL_turn_3 : decode cL_turn 3 = .ok (.iload_n 1, 1) := by decide +kernel
theorem dL_turn_4 : decode cL_turn 4 = .ok (.invokevirtual 38, 3) := by decide +kernel
theorem dL_turn_7 : decode cL_turn 7 = .ok (.i2l, 1) := by decide +kernel
theorem dL_turn_8 : decode cL_turn 8 = .ok (.lastore, 1) := by decide +kernel
theorem dL_turn_9 : decode cL_turn 9 = .ok (.goto 6, 3) := by decide +kernel
theorem dL_turn_12 : decode cL_turn 12 = .ok (.astore_n 3, 1) := by decide +kernel
theorem dL_turn_13 : decode cL_turn 13 = .ok (.iconst 1, 1) := by decide +kernel
theorem dL_turn_14 : decode cL_turn 14 = .ok (.ireturn, 1) := by decide +kernel
theorem dL_turn_15 : decode cL_turn 15 = .ok (.iconst 0, 1) := by decide +kernel
theorem dL_turn_16 : decode cL_turn 16 = .ok (.ireturn, 1) := by decide +kernel
theorem dL_run_0 : decode cL_run 0 = .ok (.aload_n 2, 1) := by decide +kernel
theorem dL_run_1 : decode cL_run 1 = .ok (.iconst 0, 1) := by decide +kernel
theorem dL_run_2 : decode cL_run 2 = .ok (.aload_n 0, 1) := by decide +kernel
theorem dL_run_3 : decode cL_run 3 = .ok (.iload_n 1, 1) := by decide +kernel
theorem dL_run_4 : decode cL_run 4 = .ok (.invokevirtual 41, 3) := by decide +kernel
theorem dL_run_7 : decode cL_run 7 = .ok (.i2l, 1) := by decide +kernel
theorem dL_run_8 : decode cL_run 8 = .ok (.lastore, 1) := by decide +kernel
theorem dL_run_9 : decode cL_run 9 = .ok (.goto 9, 3) := by decide +kernel
theorem dL_run_12 : decode cL_run 12 = .ok (.astore_n 3, 1) := by decide +kernel
theorem dL_run_13 : decode cL_run 13 = .ok (.iconst 1, 1) := by decide +kernel
theorem dL_run_14 : decode cL_run 14 = .ok (.ireturn, 1) := by decide +kernel
theorem dL_run_15 : decode cL_run 15 = .ok (.astore_n 3, 1) := by decide +kernel
theorem dL_run_16 : decode cL_run 16 = .ok (.iconst 2, 1) := by decide +kernel
theorem dL_run_17 : decode cL_run 17 = .ok (.ireturn, 1) := by decide +kernel
theorem dL_run_18 : decode cL_run 18 = .ok (.iconst 0, 1) := by decide +kernel
theorem dL_run_19 : decode cL_run 19 = .ok (.ireturn, 1) := by decide +kernel
theorem dL_cam_0 : decode cL_cam 0 = .ok (.aload_n 3, 1) := by decide +kernel
theorem dL_cam_1 : decode cL_cam 1 = .ok (.iconst 0, 1) := by decide +kernel
theorem dL_cam_2 : decode cL_cam 2 = .ok (.aload_n 0, 1) := by decide +kernel
theorem dL_cam_3 : decode cL_cam 3 = .ok (.iload_n 1, 1) := by decide +kernel
theorem dL_cam_4 : decode cL_cam 4 = .ok (.iload_n 2, 1) := by decide +kernel
theorem dL_cam_5 : decode cL_cam 5 = .ok (.invokevirtual 44, 3) := by decide +kernel
theorem dL_cam_8 : decode cL_cam 8 = .ok (.ifCond .eq 7, 3) := by decide +kernel
theorem dL_cam_11 : decode cL_cam 11 = .ok (.lconst 1, 1) := by decide +kernel
theorem dL_cam_12 : decode cL_cam 12 = .ok (.goto 4, 3) := by decide +kernel
theorem dL_cam_15 : decode cL_cam 15 = .ok (.lconst 0, 1) := by decide +kernel
theorem dL_cam_16 : decode cL_cam 16 = .ok (.lastore, 1) := by decide +kernel
theorem dL_cam_17 : decode cL_cam 17 = .ok (.goto 7, 3) := by decide +kernel
theorem dL_cam_20 : decode cL_cam 20 = .ok (.astore 4, 2) := by decide +kernel
theorem dL_cam_22 : decode cL_cam 22 = .ok (.iconst 1, 1) := by decide +kernel
theorem dL_cam_23 : decode cL_cam 23 = .ok (.ireturn, 1) := by decide +kernel
theorem dL_cam_24 : decode cL_cam 24 = .ok (.iconst 0, 1) := by decide +kernel
theorem dL_cam_25 : decode cL_cam 25 = .ok (.ireturn, 1) := by decide +kernel
theorem dL_cylinder_0 : decode cL_cylinder 0 = .ok (.aload_n 3, 1) := by decide +kernel
theorem dL_cylinder_1 : decode cL_cylinder 1 = .ok (.iconst 0, 1) := by decide +kernel
theorem dL_cylinder_2 : decode cL_cylinder 2 = .ok (.aload_n 0, 1) := by decide +kernel
theorem dL_cylinder_3 : decode cL_cylinder 3 = .ok (.iload_n 1, 1) := by decide +kernel
theorem dL_cylinder_4 : decode cL_cylinder 4 = .ok (.iload_n 2, 1) := by decide +kernel
theorem dL_cylinder_5 : decode cL_cylinder 5 = .ok (.invokevirtual 48, 3) := by decide +kernel
theorem dL_cylinder_8 : decode cL_cylinder 8 = .ok (.i2l, 1) := by decide +kernel
theorem dL_cylinder_9 : decode cL_cylinder 9 = .ok (.lastore, 1) := by decide +kernel
theorem dL_cylinder_10 : decode cL_cylinder 10 = .ok (.goto 11, 3) := by decide +kernel
theorem dL_cylinder_13 : decode cL_cylinder 13 = .ok (.astore 4, 2) := by decide +kernel
theorem dL_cylinder_15 : decode cL_cylinder 15 = .ok (.iconst 1, 1) := by decide +kernel
theorem dL_cylinder_16 : decode cL_cylinder 16 = .ok (.ireturn, 1) := by decide +kernel
theorem dL_cylinder_17 : decode cL_cylinder 17 = .ok (.astore 4, 2) := by decide +kernel
theorem dL_cylinder_19 : decode cL_cylinder 19 = .ok (.iconst 2, 1) := by decide +kernel
theorem dL_cylinder_20 : decode cL_cylinder 20 = .ok (.ireturn, 1) := by decide +kernel
theorem dL_cylinder_21 : decode cL_cylinder 21 = .ok (.iconst 0, 1) := by decide +kernel
theorem dL_cylinder_22 : decode cL_cylinder 22 = .ok (.ireturn, 1) := by decide +kernel
theorem dL_guard_0 : decode cL_guard 0 = .ok (.aload_n 3, 1) := by decide +kernel
theorem dL_guard_1 : decode cL_guard 1 = .ok (.iconst 0, 1) := by decide +kernel
theorem dL_guard_2 : decode cL_guard 2 = .ok (.aload_n 0, 1) := by decide +kernel
theorem dL_guard_3 : decode cL_guard 3 = .ok (.iload_n 1, 1) := by decide +kernel
theorem dL_guard_4 : decode cL_guard 4 = .ok (.iload_n 2, 1) := by decide +kernel
theorem dL_guard_5 : decode cL_guard 5 = .ok (.invokevirtual 51, 3) := by decide +kernel
theorem dL_guard_8 : decode cL_guard 8 = .ok (.i2l, 1) := by decide +kernel
theorem dL_guard_9 : decode cL_guard 9 = .ok (.lastore, 1) := by decide +kernel
theorem dL_guard_10 : decode cL_guard 10 = .ok (.goto 11, 3) := by decide +kernel
theorem dL_guard_13 : decode cL_guard 13 = .ok (.astore 4, 2) := by decide +kernel
theorem dL_guard_15 : decode cL_guard 15 = .ok (.iconst 1, 1) := by decide +kernel
theorem dL_guard_16 : decode cL_guard 16 = .ok (.ireturn, 1) := by decide +kernel
theorem dL_guard_17 : decode cL_guard 17 = .ok (.astore 4, 2) := by decide +kernel
theorem dL_guard_19 : decode cL_guard 19 = .ok (.iconst 2, 1) := by decide +kernel
theorem dL_guard_20 : decode cL_guard 20 = .ok (.ireturn, 1) := by decide +kernel
theorem dL_guard_21 : decode cL_guard 21 = .ok (.iconst 0, 1) := by decide +kernel
theorem dL_guard_22 : decode cL_guard 22 = .ok (.ireturn, 1) := by decide +kernel
theorem dL_value_0 : decode cL_value 0 = .ok (.aload_n 2, 1) := by decide +kernel
theorem dL_value_1 : decode cL_value 1 = .ok (.iconst 0, 1) := by decide +kernel
theorem dL_value_2 : decode cL_value 2 = .ok (.aload_n 0, 1) := by decide +kernel
theorem dL_value_3 : decode cL_value 3 = .ok (.iload_n 1, 1) := by decide +kernel
theorem dL_value_4 : decode cL_value 4 = .ok (.invokevirtual 54, 3) := by decide +kernel
theorem dL_value_7 : decode cL_value 7 = .ok (.i2l, 1) := by decide +kernel
theorem dL_value_8 : decode cL_value 8 = .ok (.lastore, 1) := by decide +kernel
theorem dL_value_9 : decode cL_value 9 = .ok (.goto 6, 3) := by decide +kernel
theorem dL_value_12 : decode cL_value 12 = .ok (.astore_n 3, 1) := by decide +kernel
theorem dL_value_13 : decode cL_value 13 = .ok (.iconst 1, 1) := by decide +kernel
theorem dL_value_14 : decode cL_value 14 = .ok (.ireturn, 1) := by decide +kernel
theorem dL_value_15 : decode cL_value 15 = .ok (.iconst 0, 1) := by decide +kernel
theorem dL_value_16 : decode cL_value 16 = .ok (.ireturn, 1) := by decide +kernel
theorem dL_chart_0 : decode cL_chart 0 = .ok (.aload_n 3, 1) := by decide +kernel
theorem dL_chart_1 : decode cL_chart 1 = .ok (.iconst 0, 1) := by decide +kernel
theorem dL_chart_2 : decode cL_chart 2 = .ok (.aload_n 0, 1) := by decide +kernel
theorem dL_chart_3 : decode cL_chart 3 = .ok (.iload_n 1, 1) := by decide +kernel
theorem dL_chart_4 : decode cL_chart 4 = .ok (.iload_n 2, 1) := by decide +kernel
theorem dL_chart_5 : decode cL_chart 5 = .ok (.invokevirtual 57, 3) := by decide +kernel
theorem dL_chart_8 : decode cL_chart 8 = .ok (.i2l, 1) := by decide +kernel
theorem dL_chart_9 : decode cL_chart 9 = .ok (.lastore, 1) := by decide +kernel
theorem dL_chart_10 : decode cL_chart 10 = .ok (.goto 7, 3) := by decide +kernel
theorem dL_chart_13 : decode cL_chart 13 = .ok (.astore 4, 2) := by decide +kernel
theorem dL_chart_15 : decode cL_chart 15 = .ok (.iconst 1, 1) := by decide +kernel
theorem dL_chart_16 : decode cL_chart 16 = .ok (.ireturn, 1) := by decide +kernel
theorem dL_chart_17 : decode cL_chart 17 = .ok (.iconst 0, 1) := by decide +kernel
theorem dL_chart_18 : decode cL_chart 18 = .ok (.ireturn, 1) := by decide +kernel
theorem dL_skips_0 : decode cL_skips 0 = .ok (.aload_n 2, 1) := by decide +kernel
theorem dL_skips_1 : decode cL_skips 1 = .ok (.iconst 0, 1) := by decide +kernel
theorem dL_skips_2 : decode cL_skips 2 = .ok (.aload_n 0, 1) := by decide +kernel
theorem dL_skips_3 : decode cL_skips 3 = .ok (.iload_n 1, 1) := by decide +kernel
theorem dL_skips_4 : decode cL_skips 4 = .ok (.invokevirtual 60, 3) := by decide +kernel
theorem dL_skips_7 : decode cL_skips 7 = .ok (.i2l, 1) := by decide +kernel
theorem dL_skips_8 : decode cL_skips 8 = .ok (.lastore, 1) := by decide +kernel
theorem dL_skips_9 : decode cL_skips 9 = .ok (.goto 6, 3) := by decide +kernel
theorem dL_skips_12 : decode cL_skips 12 = .ok (.astore_n 3, 1) := by decide +kernel
theorem dL_skips_13 : decode cL_skips 13 = .ok (.iconst 1, 1) := by decide +kernel
theorem dL_skips_14 : decode cL_skips 14 = .ok (.ireturn, 1) := by decide +kernel
theorem dL_skips_15 : decode cL_skips 15 = .ok (.iconst 0, 1) := by decide +kernel
theorem dL_skips_16 : decode cL_skips 16 = .ok (.ireturn, 1) := by decide +kernel
theorem dL_ticksToOut_0 : decode cL_ticksToOut 0 = .ok (.aload_n 2, 1) := by decide +kernel
theorem dL_ticksToOut_1 : decode cL_ticksToOut 1 = .ok (.iconst 0, 1) := by decide +kernel
theorem dL_ticksToOut_2 : decode cL_ticksToOut 2 = .ok (.aload_n 0, 1) := by decide +kernel
theorem dL_ticksToOut_3 : decode cL_ticksToOut 3 = .ok (.iload_n 1, 1) := by decide +kernel
theorem dL_ticksToOut_4 : decode cL_ticksToOut 4 = .ok (.invokevirtual 63, 3) := by decide +kernel
theorem dL_ticksToOut_7 : decode cL_ticksToOut 7 = .ok (.i2l, 1) := by decide +kernel
theorem dL_ticksToOut_8 : decode cL_ticksToOut 8 = .ok (.lastore, 1) := by decide +kernel
theorem dL_ticksToOut_9 : decode cL_ticksToOut 9 = .ok (.goto 6, 3) := by decide +kernel
theorem dL_ticksToOut_12 : decode cL_ticksToOut 12 = .ok (.astore_n 3, 1) := by decide +kernel
theorem dL_ticksToOut_13 : decode cL_ticksToOut 13 = .ok (.iconst 1, 1) := by decide +kernel
theorem dL_ticksToOut_14 : decode cL_ticksToOut 14 = .ok (.ireturn, 1) := by decide +kernel
theorem dL_ticksToOut_15 : decode cL_ticksToOut 15 = .ok (.iconst 0, 1) := by decide +kernel
theorem dL_ticksToOut_16 : decode cL_ticksToOut 16 = .ok (.ireturn, 1) := by decide +kernel
theorem dL_leastCompressor_0 : decode cL_leastCompressor 0 = .ok (.aload_n 2, 1) := by decide +kernel
theorem dL_leastCompressor_1 : decode cL_leastCompressor 1 = .ok (.iconst 0, 1) := by decide +kernel
theorem dL_leastCompressor_2 : decode cL_leastCompressor 2 = .ok (.aload_n 0, 1) := by decide +kernel
theorem dL_leastCompressor_3 : decode cL_leastCompressor 3 = .ok (.iload_n 1, 1) := by decide +kernel
theorem dL_leastCompressor_4 : decode cL_leastCompressor 4 = .ok (.invokevirtual 66, 3) := by decide +kernel
theorem dL_leastCompressor_7 : decode cL_leastCompressor 7 = .ok (.i2l, 1) := by decide +kernel
theorem dL_leastCompressor_8 : decode cL_leastCompressor 8 = .ok (.lastore, 1) := by decide +kernel
theorem dL_leastCompressor_9 : decode cL_leastCompressor 9 = .ok (.goto 6, 3) := by decide +kernel
theorem dL_leastCompressor_12 : decode cL_leastCompressor 12 = .ok (.astore_n 3, 1) := by decide +kernel
theorem dL_leastCompressor_13 : decode cL_leastCompressor 13 = .ok (.iconst 1, 1) := by decide +kernel
theorem dL_leastCompressor_14 : decode cL_leastCompressor 14 = .ok (.ireturn, 1) := by decide +kernel
theorem dL_leastCompressor_15 : decode cL_leastCompressor 15 = .ok (.iconst 0, 1) := by decide +kernel
theorem dL_leastCompressor_16 : decode cL_leastCompressor 16 = .ok (.ireturn, 1) := by decide +kernel
theorem dL_append_0 : decode cL_append 0 = .ok (.aload_n 2, 1) := by decide +kernel
theorem dL_append_1 : decode cL_append 1 = .ok (.iconst 0, 1) := by decide +kernel
theorem dL_append_2 : decode cL_append 2 = .ok (.aload_n 0, 1) := by decide +kernel
theorem dL_append_3 : decode cL_append 3 = .ok (.iload_n 1, 1) := by decide +kernel
theorem dL_append_4 : decode cL_append 4 = .ok (.invokevirtual 69, 3) := by decide +kernel
theorem dL_append_7 : decode cL_append 7 = .ok (.i2l, 1) := by decide +kernel
theorem dL_append_8 : decode cL_append 8 = .ok (.lastore, 1) := by decide +kernel
theorem dL_append_9 : decode cL_append 9 = .ok (.goto 9, 3) := by decide +kernel
theorem dL_append_12 : decode cL_append 12 = .ok (.astore_n 3, 1) := by decide +kernel
theorem dL_append_13 : decode cL_append 13 = .ok (.iconst 1, 1) := by decide +kernel
theorem dL_append_14 : decode cL_append 14 = .ok (.ireturn, 1) := by decide +kernel
theorem dL_append_15 : decode cL_append 15 = .ok (.astore_n 3, 1) := by decide +kernel
theorem dL_append_16 : decode cL_append 16 = .ok (.iconst 2, 1) := by decide +kernel
theorem dL_append_17 : decode cL_append 17 = .ok (.ireturn, 1) := by decide +kernel
theorem dL_append_18 : decode cL_append 18 = .ok (.iconst 0, 1) := by decide +kernel
theorem dL_append_19 : decode cL_append 19 = .ok (.ireturn, 1) := by decide +kernel
theorem dL_undo_0 : decode cL_undo 0 = .ok (.aload_n 1, 1) := by decide +kernel
theorem dL_undo_1 : decode cL_undo 1 = .ok (.iconst 0, 1) := by decide +kernel
theorem dL_undo_2 : decode cL_undo 2 = .ok (.aload_n 0, 1) := by decide +kernel
theorem dL_undo_3 : decode cL_undo 3 = .ok (.invokevirtual 72, 3) := by decide +kernel
theorem dL_undo_6 : decode cL_undo 6 = .ok (.i2l, 1) := by decide +kernel
theorem dL_undo_7 : decode cL_undo 7 = .ok (.lastore, 1) := by decide +kernel
theorem dL_undo_8 : decode cL_undo 8 = .ok (.goto 6, 3) := by decide +kernel
theorem dL_undo_11 : decode cL_undo 11 = .ok (.astore_n 2, 1) := by decide +kernel
theorem dL_undo_12 : decode cL_undo 12 = .ok (.iconst 1, 1) := by decide +kernel
theorem dL_undo_13 : decode cL_undo 13 = .ok (.ireturn, 1) := by decide +kernel
theorem dL_undo_14 : decode cL_undo 14 = .ok (.iconst 0, 1) := by decide +kernel
theorem dL_undo_15 : decode cL_undo 15 = .ok (.ireturn, 1) := by decide +kernel
theorem dL_law_0 : decode cL_law 0 = .ok (.new 8, 3) := by decide +kernel
theorem dL_law_3 : decode cL_law 3 = .ok (.dup, 1) := by decide +kernel
theorem dL_law_4 : decode cL_law 4 = .ok (.invokespecial 76, 3) := by decide +kernel
theorem dL_law_7 : decode cL_law 7 = .ok (.astore_n 1, 1) := by decide +kernel
theorem dL_law_8 : decode cL_law 8 = .ok (.new 77, 3) := by decide +kernel
theorem dL_law_11 : decode cL_law 11 = .ok (.dup, 1) := by decide +kernel
theorem dL_law_12 : decode cL_law 12 = .ok (.invokespecial 79, 3) := by decide +kernel
theorem dL_law_15 : decode cL_law 15 = .ok (.astore_n 2, 1) := by decide +kernel
theorem dL_law_16 : decode cL_law 16 = .ok (.iconst 1, 1) := by decide +kernel
theorem dL_law_17 : decode cL_law 17 = .ok (.newarray .long, 2) := by decide +kernel
theorem dL_law_19 : decode cL_law 19 = .ok (.astore_n 3, 1) := by decide +kernel
theorem dL_law_20 : decode cL_law 20 = .ok (.iconst 0, 1) := by decide +kernel
theorem dL_law_21 : decode cL_law 21 = .ok (.istore 4, 2) := by decide +kernel
theorem dL_law_23 : decode cL_law 23 = .ok (.iload 4, 2) := by decide +kernel
theorem dL_law_25 : decode cL_law 25 = .ok (.aload_n 0, 1) := by decide +kernel
theorem dL_law_26 : decode cL_law 26 = .ok (.arraylength, 1) := by decide +kernel
theorem dL_law_27 : decode cL_law 27 = .ok (.iconst 5, 1) := by decide +kernel
theorem dL_law_28 : decode cL_law 28 = .ok (.isub, 1) := by decide +kernel
theorem dL_law_29 : decode cL_law 29 = .ok (.if_icmp .gt 1424, 3) := by decide +kernel
theorem dL_law_32 : decode cL_law 32 = .ok (.aload_n 0, 1) := by decide +kernel
theorem dL_law_33 : decode cL_law 33 = .ok (.iload 4, 2) := by decide +kernel
theorem dL_law_35 : decode cL_law 35 = .ok (.iaload, 1) := by decide +kernel
theorem dL_law_36 : decode cL_law 36 = .ok (.bipush 31, 2) := by decide +kernel
theorem dL_law_38 : decode cL_law 38 = .ok (.iand, 1) := by decide +kernel
theorem dL_law_39 : decode cL_law 39 = .ok (.tableswitch 1408 0 24 #[113, 209, 277, 369, 437, 517, 573, 629, 685, 760, 828, 896, 952, 1020, 1076, 1132, 1145, 1201, 1214, 1227, 1268, 1324, 1337, 1350, 1394], 113) := by decide +kernel
theorem dL_law_152 : decode cL_law 152 = .ok (.aload_n 1, 1) := by decide +kernel
theorem dL_law_153 : decode cL_law 153 = .ok (.aload_n 0, 1) := by decide +kernel
theorem dL_law_154 : decode cL_law 154 = .ok (.iload 4, 2) := by decide +kernel
theorem dL_law_156 : decode cL_law 156 = .ok (.iconst 1, 1) := by decide +kernel
theorem dL_law_157 : decode cL_law 157 = .ok (.iadd, 1) := by decide +kernel
theorem dL_law_158 : decode cL_law 158 = .ok (.iaload, 1) := by decide +kernel
theorem dL_law_159 : decode cL_law 159 = .ok (.aload_n 0, 1) := by decide +kernel
theorem dL_law_160 : decode cL_law 160 = .ok (.iload 4, 2) := by decide +kernel
theorem dL_law_162 : decode cL_law 162 = .ok (.iconst 2, 1) := by decide +kernel
theorem dL_law_163 : decode cL_law 163 = .ok (.iadd, 1) := by decide +kernel
theorem dL_law_164 : decode cL_law 164 = .ok (.iaload, 1) := by decide +kernel
theorem dL_law_165 : decode cL_law 165 = .ok (.aload_n 0, 1) := by decide +kernel
theorem dL_law_166 : decode cL_law 166 = .ok (.iload 4, 2) := by decide +kernel
theorem dL_law_168 : decode cL_law 168 = .ok (.iconst 3, 1) := by decide +kernel
theorem dL_law_169 : decode cL_law 169 = .ok (.iadd, 1) := by decide +kernel
theorem dL_law_170 : decode cL_law 170 = .ok (.iaload, 1) := by decide +kernel
theorem dL_law_171 : decode cL_law 171 = .ok (.ifCond .eq 7, 3) := by decide +kernel
theorem dL_law_174 : decode cL_law 174 = .ok (.iconst 1, 1) := by decide +kernel
theorem dL_law_175 : decode cL_law 175 = .ok (.goto 4, 3) := by decide +kernel
theorem dL_law_178 : decode cL_law 178 = .ok (.iconst 0, 1) := by decide +kernel
theorem dL_law_179 : decode cL_law 179 = .ok (.aload_n 3, 1) := by decide +kernel
theorem dL_law_180 : decode cL_law 180 = .ok (.invokestatic 80, 3) := by decide +kernel
theorem dL_law_183 : decode cL_law 183 = .ok (.istore 5, 2) := by decide +kernel
theorem dL_law_185 : decode cL_law 185 = .ok (.aload_n 2, 1) := by decide +kernel
theorem dL_law_186 : decode cL_law 186 = .ok (.aload_n 0, 1) := by decide +kernel
theorem dL_law_187 : decode cL_law 187 = .ok (.iload 4, 2) := by decide +kernel
theorem dL_law_189 : decode cL_law 189 = .ok (.iconst 1, 1) := by decide +kernel
theorem dL_law_190 : decode cL_law 190 = .ok (.iadd, 1) := by decide +kernel
theorem dL_law_191 : decode cL_law 191 = .ok (.iaload, 1) := by decide +kernel
theorem dL_law_192 : decode cL_law 192 = .ok (.aload_n 0, 1) := by decide +kernel
theorem dL_law_193 : decode cL_law 193 = .ok (.iload 4, 2) := by decide +kernel
theorem dL_law_195 : decode cL_law 195 = .ok (.iconst 2, 1) := by decide +kernel
theorem dL_law_196 : decode cL_law 196 = .ok (.iadd, 1) := by decide +kernel
theorem dL_law_197 : decode cL_law 197 = .ok (.iaload, 1) := by decide +kernel
theorem dL_law_198 : decode cL_law 198 = .ok (.aload_n 0, 1) := by decide +kernel
theorem dL_law_199 : decode cL_law 199 = .ok (.iload 4, 2) := by decide +kernel
theorem dL_law_201 : decode cL_law 201 = .ok (.iconst 3, 1) := by decide +kernel
theorem dL_law_202 : decode cL_law 202 = .ok (.iadd, 1) := by decide +kernel
theorem dL_law_203 : decode cL_law 203 = .ok (.iaload, 1) := by decide +kernel
theorem dL_law_204 : decode cL_law 204 = .ok (.ifCond .eq 7, 3) := by decide +kernel
theorem dL_law_207 : decode cL_law 207 = .ok (.iconst 1, 1) := by decide +kernel
theorem dL_law_208 : decode cL_law 208 = .ok (.goto 4, 3) := by decide +kernel
theorem dL_law_211 : decode cL_law 211 = .ok (.iconst 0, 1) := by decide +kernel
theorem dL_law_212 : decode cL_law 212 = .ok (.invokevirtual 85, 3) := by decide +kernel
theorem dL_law_215 : decode cL_law 215 = .ok (.istore 6, 2) := by decide +kernel
theorem dL_law_217 : decode cL_law 217 = .ok (.aload_n 2, 1) := by decide +kernel
theorem dL_law_218 : decode cL_law 218 = .ok (.invokevirtual 86, 3) := by decide +kernel
theorem dL_law_221 : decode cL_law 221 = .ok (.iload 5, 2) := by decide +kernel
theorem dL_law_223 : decode cL_law 223 = .ok (.if_icmp .eq 5, 3) := by decide +kernel
theorem dL_law_226 : decode cL_law 226 = .ok (.iconst 0, 1) := by decide +kernel
theorem dL_law_227 : decode cL_law 227 = .ok (.ireturn, 1) := by decide +kernel
theorem dL_law_228 : decode cL_law 228 = .ok (.iload 5, 2) := by decide +kernel
theorem dL_law_230 : decode cL_law 230 = .ok (.ifCond .ne 15, 3) := by decide +kernel
theorem dL_law_233 : decode cL_law 233 = .ok (.aload_n 3, 1) := by decide +kernel
theorem dL_law_234 : decode cL_law 234 = .ok (.iconst 0, 1) := by decide +kernel
theorem dL_law_235 : decode cL_law 235 = .ok (.laload, 1) := by decide +kernel
theorem dL_law_236 : decode cL_law 236 = .ok (.iload 6, 2) := by decide +kernel
theorem dL_law_238 : decode cL_law 238 = .ok (.i2l, 1) := by decide +kernel
theorem dL_law_239 : decode cL_law 239 = .ok (.lcmp, 1) := by decide +kernel
theorem dL_law_240 : decode cL_law 240 = .ok (.ifCond .eq 5, 3) := by decide +kernel
theorem dL_law_243 : decode cL_law 243 = .ok (.iconst 0, 1) := by decide +kernel
theorem dL_law_244 : decode cL_law 244 = .ok (.ireturn, 1) := by decide +kernel
theorem dL_law_245 : decode cL_law 245 = .ok (.goto 1202, 3) := by decide +kernel
theorem dL_law_248 : decode cL_law 248 = .ok (.aload_n 1, 1) := by decide +kernel
theorem dL_law_249 : decode cL_law 249 = .ok (.aload_n 0, 1) := by decide +kernel
theorem dL_law_250 : decode cL_law 250 = .ok (.iload 4, 2) := by decide +kernel
theorem dL_law_252 : decode cL_law 252 = .ok (.iconst 1, 1) := by decide +kernel
theorem dL_law_253 : decode cL_law 253 = .ok (.iadd, 1) := by decide +kernel
theorem dL_law_254 : decode cL_law 254 = .ok (.iaload, 1) := by decide +kernel
theorem dL_law_255 : decode cL_law 255 = .ok (.aload_n 0, 1) := by decide +kernel
theorem dL_law_256 : decode cL_law 256 = .ok (.iload 4, 2) := by decide +kernel
theorem dL_law_258 : decode cL_law 258 = .ok (.iconst 2, 1) := by decide +kernel
theorem dL_law_259 : decode cL_law 259 = .ok (.iadd, 1) := by decide +kernel
theorem dL_law_260 : decode cL_law 260 = .ok (.iaload, 1) := by decide +kernel
theorem dL_law_261 : decode cL_law 261 = .ok (.aload_n 3, 1) := by decide +kernel
theorem dL_law_262 : decode cL_law 262 = .ok (.invokestatic 89, 3) := by decide +kernel
theorem dL_law_265 : decode cL_law 265 = .ok (.istore 5, 2) := by decide +kernel
theorem dL_law_267 : decode cL_law 267 = .ok (.aload_n 2, 1) := by decide +kernel
theorem dL_law_268 : decode cL_law 268 = .ok (.aload_n 0, 1) := by decide +kernel
theorem dL_law_269 : decode cL_law 269 = .ok (.iload 4, 2) := by decide +kernel
theorem dL_law_271 : decode cL_law 271 = .ok (.iconst 1, 1) := by decide +kernel
theorem dL_law_272 : decode cL_law 272 = .ok (.iadd, 1) := by decide +kernel
theorem dL_law_273 : decode cL_law 273 = .ok (.iaload, 1) := by decide +kernel
theorem dL_law_274 : decode cL_law 274 = .ok (.aload_n 0, 1) := by decide +kernel
theorem dL_law_275 : decode cL_law 275 = .ok (.iload 4, 2) := by decide +kernel
theorem dL_law_277 : decode cL_law 277 = .ok (.iconst 2, 1) := by decide +kernel
theorem dL_law_278 : decode cL_law 278 = .ok (.iadd, 1) := by decide +kernel
theorem dL_law_279 : decode cL_law 279 = .ok (.iaload, 1) := by decide +kernel
theorem dL_law_280 : decode cL_law 280 = .ok (.invokevirtual 92, 3) := by decide +kernel
theorem dL_law_283 : decode cL_law 283 = .ok (.istore 6, 2) := by decide +kernel
theorem dL_law_285 : decode cL_law 285 = .ok (.aload_n 2, 1) := by decide +kernel
theorem dL_law_286 : decode cL_law 286 = .ok (.invokevirtual 86, 3) := by decide +kernel
theorem dL_law_289 : decode cL_law 289 = .ok (.iload 5, 2) := by decide +kernel
theorem dL_law_291 : decode cL_law 291 = .ok (.if_icmp .eq 5, 3) := by decide +kernel
theorem dL_law_294 : decode cL_law 294 = .ok (.iconst 0, 1) := by decide +kernel
theorem dL_law_295 : decode cL_law 295 = .ok (.ireturn, 1) := by decide +kernel
theorem dL_law_296 : decode cL_law 296 = .ok (.iload 5, 2) := by decide +kernel
theorem dL_law_298 : decode cL_law 298 = .ok (.ifCond .ne 15, 3) := by decide +kernel
theorem dL_law_301 : decode cL_law 301 = .ok (.aload_n 3, 1) := by decide +kernel
theorem dL_law_302 : decode cL_law 302 = .ok (.iconst 0, 1) := by decide +kernel
theorem dL_law_303 : decode cL_law 303 = .ok (.laload, 1) := by decide +kernel
theorem dL_law_304 : decode cL_law 304 = .ok (.iload 6, 2) := by decide +kernel
theorem dL_law_306 : decode cL_law 306 = .ok (.i2l, 1) := by decide +kernel
theorem dL_law_307 : decode cL_law 307 = .ok (.lcmp, 1) := by decide +kernel
theorem dL_law_308 : decode cL_law 308 = .ok (.ifCond .eq 5, 3) := by decide +kernel
theorem dL_law_311 : decode cL_law 311 = .ok (.iconst 0, 1) := by decide +kernel
theorem dL_law_312 : decode cL_law 312 = .ok (.ireturn, 1) := by decide +kernel
theorem dL_law_313 : decode cL_law 313 = .ok (.goto 1134, 3) := by decide +kernel
theorem dL_law_316 : decode cL_law 316 = .ok (.aload_n 1, 1) := by decide +kernel
theorem dL_law_317 : decode cL_law 317 = .ok (.aload_n 0, 1) := by decide +kernel
theorem dL_law_318 : decode cL_law 318 = .ok (.iload 4, 2) := by decide +kernel
theorem dL_law_320 : decode cL_law 320 = .ok (.iconst 1, 1) := by decide +kernel
theorem dL_law_321 : decode cL_law 321 = .ok (.iadd, 1) := by decide +kernel
theorem dL_law_322 : decode cL_law 322 = .ok (.iaload, 1) := by decide +kernel
theorem dL_law_323 : decode cL_law 323 = .ok (.aload_n 0, 1) := by decide +kernel
theorem dL_law_324 : decode cL_law 324 = .ok (.iload 4, 2) := by decide +kernel
theorem dL_law_326 : decode cL_law 326 = .ok (.iconst 2, 1) := by decide +kernel
theorem dL_law_327 : decode cL_law 327 = .ok (.iadd, 1) := by decide +kernel
theorem dL_law_328 : decode cL_law 328 = .ok (.iaload, 1) := by decide +kernel
theorem dL_law_329 : decode cL_law 329 = .ok (.aload_n 0, 1) := by decide +kernel
theorem dL_law_330 : decode cL_law 330 = .ok (.iload 4, 2) := by decide +kernel
theorem dL_law_332 : decode cL_law 332 = .ok (.iconst 3, 1) := by decide +kernel
theorem dL_law_333 : decode cL_law 333 = .ok (.iadd, 1) := by decide +kernel
theorem dL_law_334 : decode cL_law 334 = .ok (.iaload, 1) := by decide +kernel
theorem dL_law_335 : decode cL_law 335 = .ok (.aload_n 0, 1) := by decide +kernel
theorem dL_law_336 : decode cL_law 336 = .ok (.iload 4, 2) := by decide +kernel
theorem dL_law_338 : decode cL_law 338 = .ok (.iconst 4, 1) := by decide +kernel
theorem dL_law_339 : decode cL_law 339 = .ok (.iadd, 1) := by decide +kernel
theorem dL_law_340 : decode cL_law 340 = .ok (.iaload, 1) := by decide +kernel
theorem dL_law_341 : decode cL_law 341 = .ok (.aload_n 3, 1) := by decide +kernel
theorem dL_law_342 : decode cL_law 342 = .ok (.invokestatic 93, 3) := by decide +kernel
theorem dL_law_345 : decode cL_law 345 = .ok (.istore 5, 2) := by decide +kernel
theorem dL_law_347 : decode cL_law 347 = .ok (.aload_n 2, 1) := by decide +kernel
theorem dL_law_348 : decode cL_law 348 = .ok (.aload_n 0, 1) := by decide +kernel
theorem dL_law_349 : decode cL_law 349 = .ok (.iload 4, 2) := by decide +kernel
theorem dL_law_351 : decode cL_law 351 = .ok (.iconst 1, 1) := by decide +kernel
theorem dL_law_352 : decode cL_law 352 = .ok (.iadd, 1) := by decide +kernel
theorem dL_law_353 : decode cL_law 353 = .ok (.iaload, 1) := by decide +kernel
theorem dL_law_354 : decode cL_law 354 = .ok (.aload_n 0, 1) := by decide +kernel
theorem dL_law_355 : decode cL_law 355 = .ok (.iload 4, 2) := by decide +kernel
theorem dL_law_357 : decode cL_law 357 = .ok (.iconst 2, 1) := by decide +kernel
theorem dL_law_358 : decode cL_law 358 = .ok (.iadd, 1) := by decide +kernel
theorem dL_law_359 : decode cL_law 359 = .ok (.iaload, 1) := by decide +kernel
theorem dL_law_360 : decode cL_law 360 = .ok (.aload_n 0, 1) := by decide +kernel
theorem dL_law_361 : decode cL_law 361 = .ok (.iload 4, 2) := by decide +kernel
theorem dL_law_363 : decode cL_law 363 = .ok (.iconst 3, 1) := by decide +kernel
theorem dL_law_364 : decode cL_law 364 = .ok (.iadd, 1) := by decide +kernel
theorem dL_law_365 : decode cL_law 365 = .ok (.iaload, 1) := by decide +kernel
theorem dL_law_366 : decode cL_law 366 = .ok (.aload_n 0, 1) := by decide +kernel
theorem dL_law_367 : decode cL_law 367 = .ok (.iload 4, 2) := by decide +kernel
theorem dL_law_369 : decode cL_law 369 = .ok (.iconst 4, 1) := by decide +kernel
theorem dL_law_370 : decode cL_law 370 = .ok (.iadd, 1) := by decide +kernel
theorem dL_law_371 : decode cL_law 371 = .ok (.iaload, 1) := by decide +kernel
theorem dL_law_372 : decode cL_law 372 = .ok (.invokevirtual 96, 3) := by decide +kernel
theorem dL_law_375 : decode cL_law 375 = .ok (.istore 6, 2) := by decide +kernel
theorem dL_law_377 : decode cL_law 377 = .ok (.aload_n 2, 1) := by decide +kernel
theorem dL_law_378 : decode cL_law 378 = .ok (.invokevirtual 86, 3) := by decide +kernel
theorem dL_law_381 : decode cL_law 381 = .ok (.iload 5, 2) := by decide +kernel
theorem dL_law_383 : decode cL_law 383 = .ok (.if_icmp .eq 5, 3) := by decide +kernel
theorem dL_law_386 : decode cL_law 386 = .ok (.iconst 0, 1) := by decide +kernel
theorem dL_law_387 : decode cL_law 387 = .ok (.ireturn, 1) := by decide +kernel
theorem dL_law_388 : decode cL_law 388 = .ok (.iload 5, 2) := by decide +kernel
theorem dL_law_390 : decode cL_law 390 = .ok (.ifCond .ne 15, 3) := by decide +kernel
theorem dL_law_393 : decode cL_law 393 = .ok (.aload_n 3, 1) := by decide +kernel
theorem dL_law_394 : decode cL_law 394 = .ok (.iconst 0, 1) := by decide +kernel
theorem dL_law_395 : decode cL_law 395 = .ok (.laload, 1) := by decide +kernel
theorem dL_law_396 : decode cL_law 396 = .ok (.iload 6, 2) := by decide +kernel
theorem dL_law_398 : decode cL_law 398 = .ok (.i2l, 1) := by decide +kernel
theorem dL_law_399 : decode cL_law 399 = .ok (.lcmp, 1) := by decide +kernel
theorem dL_law_400 : decode cL_law 400 = .ok (.ifCond .eq 5, 3) := by decide +kernel
theorem dL_law_403 : decode cL_law 403 = .ok (.iconst 0, 1) := by decide +kernel
theorem dL_law_404 : decode cL_law 404 = .ok (.ireturn, 1) := by decide +kernel
theorem dL_law_405 : decode cL_law 405 = .ok (.goto 1042, 3) := by decide +kernel
theorem dL_law_408 : decode cL_law 408 = .ok (.aload_n 1, 1) := by decide +kernel
theorem dL_law_409 : decode cL_law 409 = .ok (.aload_n 0, 1) := by decide +kernel
theorem dL_law_410 : decode cL_law 410 = .ok (.iload 4, 2) := by decide +kernel
theorem dL_law_412 : decode cL_law 412 = .ok (.iconst 1, 1) := by decide +kernel
theorem dL_law_413 : decode cL_law 413 = .ok (.iadd, 1) := by decide +kernel
theorem dL_law_414 : decode cL_law 414 = .ok (.iaload, 1) := by decide +kernel
theorem dL_law_415 : decode cL_law 415 = .ok (.aload_n 0, 1) := by decide +kernel
theorem dL_law_416 : decode cL_law 416 = .ok (.iload 4, 2) := by decide +kernel
theorem dL_law_418 : decode cL_law 418 = .ok (.iconst 2, 1) := by decide +kernel
theorem dL_law_419 : decode cL_law 419 = .ok (.iadd, 1) := by decide +kernel
theorem dL_law_420 : decode cL_law 420 = .ok (.iaload, 1) := by decide +kernel
theorem dL_law_421 : decode cL_law 421 = .ok (.aload_n 3, 1) := by decide +kernel
theorem dL_law_422 : decode cL_law 422 = .ok (.invokestatic 97, 3) := by decide +kernel
theorem dL_law_425 : decode cL_law 425 = .ok (.istore 5, 2) := by decide +kernel
theorem dL_law_427 : decode cL_law 427 = .ok (.aload_n 2, 1) := by decide +kernel
theorem dL_law_428 : decode cL_law 428 = .ok (.aload_n 0, 1) := by decide +kernel
theorem dL_law_429 : decode cL_law 429 = .ok (.iload 4, 2) := by decide +kernel
theorem dL_law_431 : decode cL_law 431 = .ok (.iconst 1, 1) := by decide +kernel
theorem dL_law_432 : decode cL_law 432 = .ok (.iadd, 1) := by decide +kernel
theorem dL_law_433 : decode cL_law 433 = .ok (.iaload, 1) := by decide +kernel
theorem dL_law_434 : decode cL_law 434 = .ok (.aload_n 0, 1) := by decide +kernel
theorem dL_law_435 : decode cL_law 435 = .ok (.iload 4, 2) := by decide +kernel
theorem dL_law_437 : decode cL_law 437 = .ok (.iconst 2, 1) := by decide +kernel
theorem dL_law_438 : decode cL_law 438 = .ok (.iadd, 1) := by decide +kernel
theorem dL_law_439 : decode cL_law 439 = .ok (.iaload, 1) := by decide +kernel
theorem dL_law_440 : decode cL_law 440 = .ok (.invokevirtual 99, 3) := by decide +kernel
theorem dL_law_443 : decode cL_law 443 = .ok (.istore 6, 2) := by decide +kernel
theorem dL_law_445 : decode cL_law 445 = .ok (.aload_n 2, 1) := by decide +kernel
theorem dL_law_446 : decode cL_law 446 = .ok (.invokevirtual 86, 3) := by decide +kernel
theorem dL_law_449 : decode cL_law 449 = .ok (.iload 5, 2) := by decide +kernel
theorem dL_law_451 : decode cL_law 451 = .ok (.if_icmp .eq 5, 3) := by decide +kernel
theorem dL_law_454 : decode cL_law 454 = .ok (.iconst 0, 1) := by decide +kernel
theorem dL_law_455 : decode cL_law 455 = .ok (.ireturn, 1) := by decide +kernel
theorem dL_law_456 : decode cL_law 456 = .ok (.iload 5, 2) := by decide +kernel
theorem dL_law_458 : decode cL_law 458 = .ok (.ifCond .ne 15, 3) := by decide +kernel
theorem dL_law_461 : decode cL_law 461 = .ok (.aload_n 3, 1) := by decide +kernel
theorem dL_law_462 : decode cL_law 462 = .ok (.iconst 0, 1) := by decide +kernel
theorem dL_law_463 : decode cL_law 463 = .ok (.laload, 1) := by decide +kernel
theorem dL_law_464 : decode cL_law 464 = .ok (.iload 6, 2) := by decide +kernel
theorem dL_law_466 : decode cL_law 466 = .ok (.i2l, 1) := by decide +kernel
theorem dL_law_467 : decode cL_law 467 = .ok (.lcmp, 1) := by decide +kernel
theorem dL_law_468 : decode cL_law 468 = .ok (.ifCond .eq 5, 3) := by decide +kernel
theorem dL_law_471 : decode cL_law 471 = .ok (.iconst 0, 1) := by decide +kernel
theorem dL_law_472 : decode cL_law 472 = .ok (.ireturn, 1) := by decide +kernel
theorem dL_law_473 : decode cL_law 473 = .ok (.goto 974, 3) := by decide +kernel
theorem dL_law_476 : decode cL_law 476 = .ok (.aload_n 1, 1) := by decide +kernel
theorem dL_law_477 : decode cL_law 477 = .ok (.aload_n 0, 1) := by decide +kernel
theorem dL_law_478 : decode cL_law 478 = .ok (.iload 4, 2) := by decide +kernel
theorem dL_law_480 : decode cL_law 480 = .ok (.iconst 1, 1) := by decide +kernel
theorem dL_law_481 : decode cL_law 481 = .ok (.iadd, 1) := by decide +kernel
theorem dL_law_482 : decode cL_law 482 = .ok (.iaload, 1) := by decide +kernel
theorem dL_law_483 : decode cL_law 483 = .ok (.aload_n 0, 1) := by decide +kernel
theorem dL_law_484 : decode cL_law 484 = .ok (.iload 4, 2) := by decide +kernel
theorem dL_law_486 : decode cL_law 486 = .ok (.iconst 2, 1) := by decide +kernel
theorem dL_law_487 : decode cL_law 487 = .ok (.iadd, 1) := by decide +kernel
theorem dL_law_488 : decode cL_law 488 = .ok (.iaload, 1) := by decide +kernel
theorem dL_law_489 : decode cL_law 489 = .ok (.aload_n 0, 1) := by decide +kernel
theorem dL_law_490 : decode cL_law 490 = .ok (.iload 4, 2) := by decide +kernel
theorem dL_law_492 : decode cL_law 492 = .ok (.iconst 3, 1) := by decide +kernel
theorem dL_law_493 : decode cL_law 493 = .ok (.iadd, 1) := by decide +kernel
theorem dL_law_494 : decode cL_law 494 = .ok (.iaload, 1) := by decide +kernel
theorem dL_law_495 : decode cL_law 495 = .ok (.aload_n 3, 1) := by decide +kernel
theorem dL_law_496 : decode cL_law 496 = .ok (.invokestatic 100, 3) := by decide +kernel
theorem dL_law_499 : decode cL_law 499 = .ok (.istore 5, 2) := by decide +kernel
theorem dL_law_501 : decode cL_law 501 = .ok (.aload_n 2, 1) := by decide +kernel
theorem dL_law_502 : decode cL_law 502 = .ok (.aload_n 0, 1) := by decide +kernel
theorem dL_law_503 : decode cL_law 503 = .ok (.iload 4, 2) := by decide +kernel
theorem dL_law_505 : decode cL_law 505 = .ok (.iconst 1, 1) := by decide +kernel
theorem dL_law_506 : decode cL_law 506 = .ok (.iadd, 1) := by decide +kernel
theorem dL_law_507 : decode cL_law 507 = .ok (.iaload, 1) := by decide +kernel
theorem dL_law_508 : decode cL_law 508 = .ok (.aload_n 0, 1) := by decide +kernel
theorem dL_law_509 : decode cL_law 509 = .ok (.iload 4, 2) := by decide +kernel
theorem dL_law_511 : decode cL_law 511 = .ok (.iconst 2, 1) := by decide +kernel
theorem dL_law_512 : decode cL_law 512 = .ok (.iadd, 1) := by decide +kernel
theorem dL_law_513 : decode cL_law 513 = .ok (.iaload, 1) := by decide +kernel
theorem dL_law_514 : decode cL_law 514 = .ok (.aload_n 0, 1) := by decide +kernel
theorem dL_law_515 : decode cL_law 515 = .ok (.iload 4, 2) := by decide +kernel
theorem dL_law_517 : decode cL_law 517 = .ok (.iconst 3, 1) := by decide +kernel
theorem dL_law_518 : decode cL_law 518 = .ok (.iadd, 1) := by decide +kernel
theorem dL_law_519 : decode cL_law 519 = .ok (.iaload, 1) := by decide +kernel
theorem dL_law_520 : decode cL_law 520 = .ok (.invokevirtual 103, 3) := by decide +kernel
theorem dL_law_523 : decode cL_law 523 = .ok (.istore 6, 2) := by decide +kernel
theorem dL_law_525 : decode cL_law 525 = .ok (.aload_n 2, 1) := by decide +kernel
theorem dL_law_526 : decode cL_law 526 = .ok (.invokevirtual 86, 3) := by decide +kernel
theorem dL_law_529 : decode cL_law 529 = .ok (.iload 5, 2) := by decide +kernel
theorem dL_law_531 : decode cL_law 531 = .ok (.if_icmp .eq 5, 3) := by decide +kernel
theorem dL_law_534 : decode cL_law 534 = .ok (.iconst 0, 1) := by decide +kernel
theorem dL_law_535 : decode cL_law 535 = .ok (.ireturn, 1) := by decide +kernel
theorem dL_law_536 : decode cL_law 536 = .ok (.iload 5, 2) := by decide +kernel
theorem dL_law_538 : decode cL_law 538 = .ok (.ifCond .ne 15, 3) := by decide +kernel
theorem dL_law_541 : decode cL_law 541 = .ok (.aload_n 3, 1) := by decide +kernel
theorem dL_law_542 : decode cL_law 542 = .ok (.iconst 0, 1) := by decide +kernel
theorem dL_law_543 : decode cL_law 543 = .ok (.laload, 1) := by decide +kernel
theorem dL_law_544 : decode cL_law 544 = .ok (.iload 6, 2) := by decide +kernel
theorem dL_law_546 : decode cL_law 546 = .ok (.i2l, 1) := by decide +kernel
theorem dL_law_547 : decode cL_law 547 = .ok (.lcmp, 1) := by decide +kernel
theorem dL_law_548 : decode cL_law 548 = .ok (.ifCond .eq 5, 3) := by decide +kernel
theorem dL_law_551 : decode cL_law 551 = .ok (.iconst 0, 1) := by decide +kernel
theorem dL_law_552 : decode cL_law 552 = .ok (.ireturn, 1) := by decide +kernel
theorem dL_law_553 : decode cL_law 553 = .ok (.goto 894, 3) := by decide +kernel
theorem dL_law_556 : decode cL_law 556 = .ok (.aload_n 1, 1) := by decide +kernel
theorem dL_law_557 : decode cL_law 557 = .ok (.aload_n 0, 1) := by decide +kernel
theorem dL_law_558 : decode cL_law 558 = .ok (.iload 4, 2) := by decide +kernel
theorem dL_law_560 : decode cL_law 560 = .ok (.iconst 1, 1) := by decide +kernel
theorem dL_law_561 : decode cL_law 561 = .ok (.iadd, 1) := by decide +kernel
theorem dL_law_562 : decode cL_law 562 = .ok (.iaload, 1) := by decide +kernel
theorem dL_law_563 : decode cL_law 563 = .ok (.aload_n 3, 1) := by decide +kernel
theorem dL_law_564 : decode cL_law 564 = .ok (.invokestatic 104, 3) := by decide +kernel
theorem dL_law_567 : decode cL_law 567 = .ok (.istore 5, 2) := by decide +kernel
theorem dL_law_569 : decode cL_law 569 = .ok (.aload_n 2, 1) := by decide +kernel
theorem dL_law_570 : decode cL_law 570 = .ok (.aload_n 0, 1) := by decide +kernel
theorem dL_law_571 : decode cL_law 571 = .ok (.iload 4, 2) := by decide +kernel
theorem dL_law_573 : decode cL_law 573 = .ok (.iconst 1, 1) := by decide +kernel
theorem dL_law_574 : decode cL_law 574 = .ok (.iadd, 1) := by decide +kernel
theorem dL_law_575 : decode cL_law 575 = .ok (.iaload, 1) := by decide +kernel
theorem dL_law_576 : decode cL_law 576 = .ok (.invokevirtual 107, 3) := by decide +kernel
theorem dL_law_579 : decode cL_law 579 = .ok (.istore 6, 2) := by decide +kernel
theorem dL_law_581 : decode cL_law 581 = .ok (.aload_n 2, 1) := by decide +kernel
theorem dL_law_582 : decode cL_law 582 = .ok (.invokevirtual 86, 3) := by decide +kernel
theorem dL_law_585 : decode cL_law 585 = .ok (.iload 5, 2) := by decide +kernel
theorem dL_law_587 : decode cL_law 587 = .ok (.if_icmp .eq 5, 3) := by decide +kernel
theorem dL_law_590 : decode cL_law 590 = .ok (.iconst 0, 1) := by decide +kernel
theorem dL_law_591 : decode cL_law 591 = .ok (.ireturn, 1) := by decide +kernel
theorem dL_law_592 : decode cL_law 592 = .ok (.iload 5, 2) := by decide +kernel
theorem dL_law_594 : decode cL_law 594 = .ok (.ifCond .ne 15, 3) := by decide +kernel
theorem dL_law_597 : decode cL_law 597 = .ok (.aload_n 3, 1) := by decide +kernel
theorem dL_law_598 : decode cL_law 598 = .ok (.iconst 0, 1) := by decide +kernel
theorem dL_law_599 : decode cL_law 599 = .ok (.laload, 1) := by decide +kernel
theorem dL_law_600 : decode cL_law 600 = .ok (.iload 6, 2) := by decide +kernel
theorem dL_law_602 : decode cL_law 602 = .ok (.i2l, 1) := by decide +kernel
theorem dL_law_603 : decode cL_law 603 = .ok (.lcmp, 1) := by decide +kernel
theorem dL_law_604 : decode cL_law 604 = .ok (.ifCond .eq 5, 3) := by decide +kernel
theorem dL_law_607 : decode cL_law 607 = .ok (.iconst 0, 1) := by decide +kernel
theorem dL_law_608 : decode cL_law 608 = .ok (.ireturn, 1) := by decide +kernel
theorem dL_law_609 : decode cL_law 609 = .ok (.goto 838, 3) := by decide +kernel
theorem dL_law_612 : decode cL_law 612 = .ok (.aload_n 1, 1) := by decide +kernel
theorem dL_law_613 : decode cL_law 613 = .ok (.aload_n 0, 1) := by decide +kernel
theorem dL_law_614 : decode cL_law 614 = .ok (.iload 4, 2) := by decide +kernel
theorem dL_law_616 : decode cL_law 616 = .ok (.iconst 1, 1) := by decide +kernel
theorem dL_law_617 : decode cL_law 617 = .ok (.iadd, 1) := by decide +kernel
theorem dL_law_618 : decode cL_law 618 = .ok (.iaload, 1) := by decide +kernel
theorem dL_law_619 : decode cL_law 619 = .ok (.aload_n 3, 1) := by decide +kernel
theorem dL_law_620 : decode cL_law 620 = .ok (.invokestatic 108, 3) := by decide +kernel
theorem dL_law_623 : decode cL_law 623 = .ok (.istore 5, 2) := by decide +kernel
theorem dL_law_625 : decode cL_law 625 = .ok (.aload_n 2, 1) := by decide +kernel
theorem dL_law_626 : decode cL_law 626 = .ok (.aload_n 0, 1) := by decide +kernel
theorem dL_law_627 : decode cL_law 627 = .ok (.iload 4, 2) := by decide +kernel
theorem dL_law_629 : decode cL_law 629 = .ok (.iconst 1, 1) := by decide +kernel
theorem dL_law_630 : decode cL_law 630 = .ok (.iadd, 1) := by decide +kernel
theorem dL_law_631 : decode cL_law 631 = .ok (.iaload, 1) := by decide +kernel
theorem dL_law_632 : decode cL_law 632 = .ok (.invokevirtual 110, 3) := by decide +kernel
theorem dL_law_635 : decode cL_law 635 = .ok (.istore 6, 2) := by decide +kernel
theorem dL_law_637 : decode cL_law 637 = .ok (.aload_n 2, 1) := by decide +kernel
theorem dL_law_638 : decode cL_law 638 = .ok (.invokevirtual 86, 3) := by decide +kernel
theorem dL_law_641 : decode cL_law 641 = .ok (.iload 5, 2) := by decide +kernel
theorem dL_law_643 : decode cL_law 643 = .ok (.if_icmp .eq 5, 3) := by decide +kernel
theorem dL_law_646 : decode cL_law 646 = .ok (.iconst 0, 1) := by decide +kernel
theorem dL_law_647 : decode cL_law 647 = .ok (.ireturn, 1) := by decide +kernel
theorem dL_law_648 : decode cL_law 648 = .ok (.iload 5, 2) := by decide +kernel
theorem dL_law_650 : decode cL_law 650 = .ok (.ifCond .ne 15, 3) := by decide +kernel
theorem dL_law_653 : decode cL_law 653 = .ok (.aload_n 3, 1) := by decide +kernel
theorem dL_law_654 : decode cL_law 654 = .ok (.iconst 0, 1) := by decide +kernel
theorem dL_law_655 : decode cL_law 655 = .ok (.laload, 1) := by decide +kernel
theorem dL_law_656 : decode cL_law 656 = .ok (.iload 6, 2) := by decide +kernel
theorem dL_law_658 : decode cL_law 658 = .ok (.i2l, 1) := by decide +kernel
theorem dL_law_659 : decode cL_law 659 = .ok (.lcmp, 1) := by decide +kernel
theorem dL_law_660 : decode cL_law 660 = .ok (.ifCond .eq 5, 3) := by decide +kernel
theorem dL_law_663 : decode cL_law 663 = .ok (.iconst 0, 1) := by decide +kernel
theorem dL_law_664 : decode cL_law 664 = .ok (.ireturn, 1) := by decide +kernel
theorem dL_law_665 : decode cL_law 665 = .ok (.goto 782, 3) := by decide +kernel
theorem dL_law_668 : decode cL_law 668 = .ok (.aload_n 1, 1) := by decide +kernel
theorem dL_law_669 : decode cL_law 669 = .ok (.aload_n 0, 1) := by decide +kernel
theorem dL_law_670 : decode cL_law 670 = .ok (.iload 4, 2) := by decide +kernel
theorem dL_law_672 : decode cL_law 672 = .ok (.iconst 1, 1) := by decide +kernel
theorem dL_law_673 : decode cL_law 673 = .ok (.iadd, 1) := by decide +kernel
theorem dL_law_674 : decode cL_law 674 = .ok (.iaload, 1) := by decide +kernel
theorem dL_law_675 : decode cL_law 675 = .ok (.aload_n 3, 1) := by decide +kernel
theorem dL_law_676 : decode cL_law 676 = .ok (.invokestatic 111, 3) := by decide +kernel
theorem dL_law_679 : decode cL_law 679 = .ok (.istore 5, 2) := by decide +kernel
theorem dL_law_681 : decode cL_law 681 = .ok (.aload_n 2, 1) := by decide +kernel
theorem dL_law_682 : decode cL_law 682 = .ok (.aload_n 0, 1) := by decide +kernel
theorem dL_law_683 : decode cL_law 683 = .ok (.iload 4, 2) := by decide +kernel
theorem dL_law_685 : decode cL_law 685 = .ok (.iconst 1, 1) := by decide +kernel
theorem dL_law_686 : decode cL_law 686 = .ok (.iadd, 1) := by decide +kernel
theorem dL_law_687 : decode cL_law 687 = .ok (.iaload, 1) := by decide +kernel
theorem dL_law_688 : decode cL_law 688 = .ok (.invokevirtual 113, 3) := by decide +kernel
theorem dL_law_691 : decode cL_law 691 = .ok (.istore 6, 2) := by decide +kernel
theorem dL_law_693 : decode cL_law 693 = .ok (.aload_n 2, 1) := by decide +kernel
theorem dL_law_694 : decode cL_law 694 = .ok (.invokevirtual 86, 3) := by decide +kernel
theorem dL_law_697 : decode cL_law 697 = .ok (.iload 5, 2) := by decide +kernel
theorem dL_law_699 : decode cL_law 699 = .ok (.if_icmp .eq 5, 3) := by decide +kernel
theorem dL_law_702 : decode cL_law 702 = .ok (.iconst 0, 1) := by decide +kernel
theorem dL_law_703 : decode cL_law 703 = .ok (.ireturn, 1) := by decide +kernel
theorem dL_law_704 : decode cL_law 704 = .ok (.iload 5, 2) := by decide +kernel
theorem dL_law_706 : decode cL_law 706 = .ok (.ifCond .ne 15, 3) := by decide +kernel
theorem dL_law_709 : decode cL_law 709 = .ok (.aload_n 3, 1) := by decide +kernel
theorem dL_law_710 : decode cL_law 710 = .ok (.iconst 0, 1) := by decide +kernel
theorem dL_law_711 : decode cL_law 711 = .ok (.laload, 1) := by decide +kernel
theorem dL_law_712 : decode cL_law 712 = .ok (.iload 6, 2) := by decide +kernel
theorem dL_law_714 : decode cL_law 714 = .ok (.i2l, 1) := by decide +kernel
theorem dL_law_715 : decode cL_law 715 = .ok (.lcmp, 1) := by decide +kernel
theorem dL_law_716 : decode cL_law 716 = .ok (.ifCond .eq 5, 3) := by decide +kernel
theorem dL_law_719 : decode cL_law 719 = .ok (.iconst 0, 1) := by decide +kernel
theorem dL_law_720 : decode cL_law 720 = .ok (.ireturn, 1) := by decide +kernel
theorem dL_law_721 : decode cL_law 721 = .ok (.goto 726, 3) := by decide +kernel
theorem dL_law_724 : decode cL_law 724 = .ok (.aload_n 1, 1) := by decide +kernel
theorem dL_law_725 : decode cL_law 725 = .ok (.aload_n 0, 1) := by decide +kernel
theorem dL_law_726 : decode cL_law 726 = .ok (.iload 4, 2) := by decide +kernel
theorem dL_law_728 : decode cL_law 728 = .ok (.iconst 1, 1) := by decide +kernel
theorem dL_law_729 : decode cL_law 729 = .ok (.iadd, 1) := by decide +kernel
theorem dL_law_730 : decode cL_law 730 = .ok (.iaload, 1) := by decide +kernel
theorem dL_law_731 : decode cL_law 731 = .ok (.aload_n 0, 1) := by decide +kernel
theorem dL_law_732 : decode cL_law 732 = .ok (.iload 4, 2) := by decide +kernel
theorem dL_law_734 : decode cL_law 734 = .ok (.iconst 2, 1) := by decide +kernel
theorem dL_law_735 : decode cL_law 735 = .ok (.iadd, 1) := by decide +kernel
theorem dL_law_736 : decode cL_law 736 = .ok (.iaload, 1) := by decide +kernel
theorem dL_law_737 : decode cL_law 737 = .ok (.aload_n 3, 1) := by decide +kernel
theorem dL_law_738 : decode cL_law 738 = .ok (.invokestatic 114, 3) := by decide +kernel
theorem dL_law_741 : decode cL_law 741 = .ok (.istore 5, 2) := by decide +kernel
theorem dL_law_743 : decode cL_law 743 = .ok (.aload_n 2, 1) := by decide +kernel
theorem dL_law_744 : decode cL_law 744 = .ok (.aload_n 0, 1) := by decide +kernel
theorem dL_law_745 : decode cL_law 745 = .ok (.iload 4, 2) := by decide +kernel
theorem dL_law_747 : decode cL_law 747 = .ok (.iconst 1, 1) := by decide +kernel
theorem dL_law_748 : decode cL_law 748 = .ok (.iadd, 1) := by decide +kernel
theorem dL_law_749 : decode cL_law 749 = .ok (.iaload, 1) := by decide +kernel
theorem dL_law_750 : decode cL_law 750 = .ok (.aload_n 0, 1) := by decide +kernel
theorem dL_law_751 : decode cL_law 751 = .ok (.iload 4, 2) := by decide +kernel
theorem dL_law_753 : decode cL_law 753 = .ok (.iconst 2, 1) := by decide +kernel
theorem dL_law_754 : decode cL_law 754 = .ok (.iadd, 1) := by decide +kernel
theorem dL_law_755 : decode cL_law 755 = .ok (.iaload, 1) := by decide +kernel
theorem dL_law_756 : decode cL_law 756 = .ok (.invokevirtual 116, 3) := by decide +kernel
theorem dL_law_759 : decode cL_law 759 = .ok (.istore 6, 2) := by decide +kernel
theorem dL_law_761 : decode cL_law 761 = .ok (.aload_n 2, 1) := by decide +kernel
theorem dL_law_762 : decode cL_law 762 = .ok (.invokevirtual 86, 3) := by decide +kernel
theorem dL_law_765 : decode cL_law 765 = .ok (.iload 5, 2) := by decide +kernel
theorem dL_law_767 : decode cL_law 767 = .ok (.if_icmp .eq 5, 3) := by decide +kernel
theorem dL_law_770 : decode cL_law 770 = .ok (.iconst 0, 1) := by decide +kernel
theorem dL_law_771 : decode cL_law 771 = .ok (.ireturn, 1) := by decide +kernel
theorem dL_law_772 : decode cL_law 772 = .ok (.iload 5, 2) := by decide +kernel
theorem dL_law_774 : decode cL_law 774 = .ok (.ifCond .ne 22, 3) := by decide +kernel
theorem dL_law_777 : decode cL_law 777 = .ok (.aload_n 3, 1) := by decide +kernel
theorem dL_law_778 : decode cL_law 778 = .ok (.iconst 0, 1) := by decide +kernel
theorem dL_law_779 : decode cL_law 779 = .ok (.laload, 1) := by decide +kernel
theorem dL_law_780 : decode cL_law 780 = .ok (.iload 6, 2) := by decide +kernel
theorem dL_law_782 : decode cL_law 782 = .ok (.ifCond .eq 7, 3) := by decide +kernel
theorem dL_law_785 : decode cL_law 785 = .ok (.lconst 1, 1) := by decide +kernel
theorem dL_law_786 : decode cL_law 786 = .ok (.goto 4, 3) := by decide +kernel
theorem dL_law_789 : decode cL_law 789 = .ok (.lconst 0, 1) := by decide +kernel
theorem dL_law_790 : decode cL_law 790 = .ok (.lcmp, 1) := by decide +kernel
theorem dL_law_791 : decode cL_law 791 = .ok (.ifCond .eq 5, 3) := by decide +kernel
theorem dL_law_794 : decode cL_law 794 = .ok (.iconst 0, 1) := by decide +kernel
theorem dL_law_795 : decode cL_law 795 = .ok (.ireturn, 1) := by decide +kernel
theorem dL_law_796 : decode cL_law 796 = .ok (.goto 651, 3) := by decide +kernel
theorem dL_law_799 : decode cL_law 799 = .ok (.aload_n 1, 1) := by decide +kernel
theorem dL_law_800 : decode cL_law 800 = .ok (.aload_n 0, 1) := by decide +kernel
theorem dL_law_801 : decode cL_law 801 = .ok (.iload 4, 2) := by decide +kernel
theorem dL_law_803 : decode cL_law 803 = .ok (.iconst 1, 1) := by decide +kernel
theorem dL_law_804 : decode cL_law 804 = .ok (.iadd, 1) := by decide +kernel
theorem dL_law_805 : decode cL_law 805 = .ok (.iaload, 1) := by decide +kernel
theorem dL_law_806 : decode cL_law 806 = .ok (.aload_n 0, 1) := by decide +kernel
theorem dL_law_807 : decode cL_law 807 = .ok (.iload 4, 2) := by decide +kernel
theorem dL_law_809 : decode cL_law 809 = .ok (.iconst 2, 1) := by decide +kernel
theorem dL_law_810 : decode cL_law 810 = .ok (.iadd, 1) := by decide +kernel
theorem dL_law_811 : decode cL_law 811 = .ok (.iaload, 1) := by decide +kernel
theorem dL_law_812 : decode cL_law 812 = .ok (.aload_n 3, 1) := by decide +kernel
theorem dL_law_813 : decode cL_law 813 = .ok (.invokestatic 117, 3) := by decide +kernel
theorem dL_law_816 : decode cL_law 816 = .ok (.istore 5, 2) := by decide +kernel
theorem dL_law_818 : decode cL_law 818 = .ok (.aload_n 2, 1) := by decide +kernel
theorem dL_law_819 : decode cL_law 819 = .ok (.aload_n 0, 1) := by decide +kernel
theorem dL_law_820 : decode cL_law 820 = .ok (.iload 4, 2) := by decide +kernel
theorem dL_law_822 : decode cL_law 822 = .ok (.iconst 1, 1) := by decide +kernel
theorem dL_law_823 : decode cL_law 823 = .ok (.iadd, 1) := by decide +kernel
theorem dL_law_824 : decode cL_law 824 = .ok (.iaload, 1) := by decide +kernel
theorem dL_law_825 : decode cL_law 825 = .ok (.aload_n 0, 1) := by decide +kernel
theorem dL_law_826 : decode cL_law 826 = .ok (.iload 4, 2) := by decide +kernel
theorem dL_law_828 : decode cL_law 828 = .ok (.iconst 2, 1) := by decide +kernel
theorem dL_law_829 : decode cL_law 829 = .ok (.iadd, 1) := by decide +kernel
theorem dL_law_830 : decode cL_law 830 = .ok (.iaload, 1) := by decide +kernel
theorem dL_law_831 : decode cL_law 831 = .ok (.invokevirtual 119, 3) := by decide +kernel
theorem dL_law_834 : decode cL_law 834 = .ok (.istore 6, 2) := by decide +kernel
theorem dL_law_836 : decode cL_law 836 = .ok (.aload_n 2, 1) := by decide +kernel
theorem dL_law_837 : decode cL_law 837 = .ok (.invokevirtual 86, 3) := by decide +kernel
theorem dL_law_840 : decode cL_law 840 = .ok (.iload 5, 2) := by decide +kernel
theorem dL_law_842 : decode cL_law 842 = .ok (.if_icmp .eq 5, 3) := by decide +kernel
theorem dL_law_845 : decode cL_law 845 = .ok (.iconst 0, 1) := by decide +kernel
theorem dL_law_846 : decode cL_law 846 = .ok (.ireturn, 1) := by decide +kernel
theorem dL_law_847 : decode cL_law 847 = .ok (.iload 5, 2) := by decide +kernel
theorem dL_law_849 : decode cL_law 849 = .ok (.ifCond .ne 15, 3) := by decide +kernel
theorem dL_law_852 : decode cL_law 852 = .ok (.aload_n 3, 1) := by decide +kernel
theorem dL_law_853 : decode cL_law 853 = .ok (.iconst 0, 1) := by decide +kernel
theorem dL_law_854 : decode cL_law 854 = .ok (.laload, 1) := by decide +kernel
theorem dL_law_855 : decode cL_law 855 = .ok (.iload 6, 2) := by decide +kernel
theorem dL_law_857 : decode cL_law 857 = .ok (.i2l, 1) := by decide +kernel
theorem dL_law_858 : decode cL_law 858 = .ok (.lcmp, 1) := by decide +kernel
theorem dL_law_859 : decode cL_law 859 = .ok (.ifCond .eq 5, 3) := by decide +kernel
theorem dL_law_862 : decode cL_law 862 = .ok (.iconst 0, 1) := by decide +kernel
theorem dL_law_863 : decode cL_law 863 = .ok (.ireturn, 1) := by decide +kernel
theorem dL_law_864 : decode cL_law 864 = .ok (.goto 583, 3) := by decide +kernel
theorem dL_law_867 : decode cL_law 867 = .ok (.aload_n 1, 1) := by decide +kernel
theorem dL_law_868 : decode cL_law 868 = .ok (.aload_n 0, 1) := by decide +kernel
theorem dL_law_869 : decode cL_law 869 = .ok (.iload 4, 2) := by decide +kernel
theorem dL_law_871 : decode cL_law 871 = .ok (.iconst 1, 1) := by decide +kernel
theorem dL_law_872 : decode cL_law 872 = .ok (.iadd, 1) := by decide +kernel
theorem dL_law_873 : decode cL_law 873 = .ok (.iaload, 1) := by decide +kernel
theorem dL_law_874 : decode cL_law 874 = .ok (.aload_n 0, 1) := by decide +kernel
theorem dL_law_875 : decode cL_law 875 = .ok (.iload 4, 2) := by decide +kernel
theorem dL_law_877 : decode cL_law 877 = .ok (.iconst 2, 1) := by decide +kernel
theorem dL_law_878 : decode cL_law 878 = .ok (.iadd, 1) := by decide +kernel
theorem dL_law_879 : decode cL_law 879 = .ok (.iaload, 1) := by decide +kernel
theorem dL_law_880 : decode cL_law 880 = .ok (.aload_n 3, 1) := by decide +kernel
theorem dL_law_881 : decode cL_law 881 = .ok (.invokestatic 120, 3) := by decide +kernel
theorem dL_law_884 : decode cL_law 884 = .ok (.istore 5, 2) := by decide +kernel
theorem dL_law_886 : decode cL_law 886 = .ok (.aload_n 2, 1) := by decide +kernel
theorem dL_law_887 : decode cL_law 887 = .ok (.aload_n 0, 1) := by decide +kernel
theorem dL_law_888 : decode cL_law 888 = .ok (.iload 4, 2) := by decide +kernel
theorem dL_law_890 : decode cL_law 890 = .ok (.iconst 1, 1) := by decide +kernel
theorem dL_law_891 : decode cL_law 891 = .ok (.iadd, 1) := by decide +kernel
theorem dL_law_892 : decode cL_law 892 = .ok (.iaload, 1) := by decide +kernel
theorem dL_law_893 : decode cL_law 893 = .ok (.aload_n 0, 1) := by decide +kernel
theorem dL_law_894 : decode cL_law 894 = .ok (.iload 4, 2) := by decide +kernel
theorem dL_law_896 : decode cL_law 896 = .ok (.iconst 2, 1) := by decide +kernel
theorem dL_law_897 : decode cL_law 897 = .ok (.iadd, 1) := by decide +kernel
theorem dL_law_898 : decode cL_law 898 = .ok (.iaload, 1) := by decide +kernel
theorem dL_law_899 : decode cL_law 899 = .ok (.invokevirtual 122, 3) := by decide +kernel
theorem dL_law_902 : decode cL_law 902 = .ok (.istore 6, 2) := by decide +kernel
theorem dL_law_904 : decode cL_law 904 = .ok (.aload_n 2, 1) := by decide +kernel
theorem dL_law_905 : decode cL_law 905 = .ok (.invokevirtual 86, 3) := by decide +kernel
theorem dL_law_908 : decode cL_law 908 = .ok (.iload 5, 2) := by decide +kernel
theorem dL_law_910 : decode cL_law 910 = .ok (.if_icmp .eq 5, 3) := by decide +kernel
theorem dL_law_913 : decode cL_law 913 = .ok (.iconst 0, 1) := by decide +kernel
theorem dL_law_914 : decode cL_law 914 = .ok (.ireturn, 1) := by decide +kernel
theorem dL_law_915 : decode cL_law 915 = .ok (.iload 5, 2) := by decide +kernel
theorem dL_law_917 : decode cL_law 917 = .ok (.ifCond .ne 15, 3) := by decide +kernel
theorem dL_law_920 : decode cL_law 920 = .ok (.aload_n 3, 1) := by decide +kernel
theorem dL_law_921 : decode cL_law 921 = .ok (.iconst 0, 1) := by decide +kernel
theorem dL_law_922 : decode cL_law 922 = .ok (.laload, 1) := by decide +kernel
theorem dL_law_923 : decode cL_law 923 = .ok (.iload 6, 2) := by decide +kernel
theorem dL_law_925 : decode cL_law 925 = .ok (.i2l, 1) := by decide +kernel
theorem dL_law_926 : decode cL_law 926 = .ok (.lcmp, 1) := by decide +kernel
theorem dL_law_927 : decode cL_law 927 = .ok (.ifCond .eq 5, 3) := by decide +kernel
theorem dL_law_930 : decode cL_law 930 = .ok (.iconst 0, 1) := by decide +kernel
theorem dL_law_931 : decode cL_law 931 = .ok (.ireturn, 1) := by decide +kernel
theorem dL_law_932 : decode cL_law 932 = .ok (.goto 515, 3) := by decide +kernel
theorem dL_law_935 : decode cL_law 935 = .ok (.aload_n 1, 1) := by decide +kernel
theorem dL_law_936 : decode cL_law 936 = .ok (.aload_n 0, 1) := by decide +kernel
theorem dL_law_937 : decode cL_law 937 = .ok (.iload 4, 2) := by decide +kernel
theorem dL_law_939 : decode cL_law 939 = .ok (.iconst 1, 1) := by decide +kernel
theorem dL_law_940 : decode cL_law 940 = .ok (.iadd, 1) := by decide +kernel
theorem dL_law_941 : decode cL_law 941 = .ok (.iaload, 1) := by decide +kernel
theorem dL_law_942 : decode cL_law 942 = .ok (.aload_n 3, 1) := by decide +kernel
theorem dL_law_943 : decode cL_law 943 = .ok (.invokestatic 123, 3) := by decide +kernel
theorem dL_law_946 : decode cL_law 946 = .ok (.istore 5, 2) := by decide +kernel
theorem dL_law_948 : decode cL_law 948 = .ok (.aload_n 2, 1) := by decide +kernel
theorem dL_law_949 : decode cL_law 949 = .ok (.aload_n 0, 1) := by decide +kernel
theorem dL_law_950 : decode cL_law 950 = .ok (.iload 4, 2) := by decide +kernel
theorem dL_law_952 : decode cL_law 952 = .ok (.iconst 1, 1) := by decide +kernel
theorem dL_law_953 : decode cL_law 953 = .ok (.iadd, 1) := by decide +kernel
theorem dL_law_954 : decode cL_law 954 = .ok (.iaload, 1) := by decide +kernel
theorem dL_law_955 : decode cL_law 955 = .ok (.invokevirtual 125, 3) := by decide +kernel
theorem dL_law_958 : decode cL_law 958 = .ok (.istore 6, 2) := by decide +kernel
theorem dL_law_960 : decode cL_law 960 = .ok (.aload_n 2, 1) := by decide +kernel
theorem dL_law_961 : decode cL_law 961 = .ok (.invokevirtual 86, 3) := by decide +kernel
theorem dL_law_964 : decode cL_law 964 = .ok (.iload 5, 2) := by decide +kernel
theorem dL_law_966 : decode cL_law 966 = .ok (.if_icmp .eq 5, 3) := by decide +kernel
theorem dL_law_969 : decode cL_law 969 = .ok (.iconst 0, 1) := by decide +kernel
theorem dL_law_970 : decode cL_law 970 = .ok (.ireturn, 1) := by decide +kernel
theorem dL_law_971 : decode cL_law 971 = .ok (.iload 5, 2) := by decide +kernel
theorem dL_law_973 : decode cL_law 973 = .ok (.ifCond .ne 15, 3) := by decide +kernel
theorem dL_law_976 : decode cL_law 976 = .ok (.aload_n 3, 1) := by decide +kernel
theorem dL_law_977 : decode cL_law 977 = .ok (.iconst 0, 1) := by decide +kernel
theorem dL_law_978 : decode cL_law 978 = .ok (.laload, 1) := by decide +kernel
theorem dL_law_979 : decode cL_law 979 = .ok (.iload 6, 2) := by decide +kernel
theorem dL_law_981 : decode cL_law 981 = .ok (.i2l, 1) := by decide +kernel
theorem dL_law_982 : decode cL_law 982 = .ok (.lcmp, 1) := by decide +kernel
theorem dL_law_983 : decode cL_law 983 = .ok (.ifCond .eq 5, 3) := by decide +kernel
theorem dL_law_986 : decode cL_law 986 = .ok (.iconst 0, 1) := by decide +kernel
theorem dL_law_987 : decode cL_law 987 = .ok (.ireturn, 1) := by decide +kernel
theorem dL_law_988 : decode cL_law 988 = .ok (.goto 459, 3) := by decide +kernel
theorem dL_law_991 : decode cL_law 991 = .ok (.aload_n 1, 1) := by decide +kernel
theorem dL_law_992 : decode cL_law 992 = .ok (.aload_n 0, 1) := by decide +kernel
theorem dL_law_993 : decode cL_law 993 = .ok (.iload 4, 2) := by decide +kernel
theorem dL_law_995 : decode cL_law 995 = .ok (.iconst 1, 1) := by decide +kernel
theorem dL_law_996 : decode cL_law 996 = .ok (.iadd, 1) := by decide +kernel
theorem dL_law_997 : decode cL_law 997 = .ok (.iaload, 1) := by decide +kernel
theorem dL_law_998 : decode cL_law 998 = .ok (.aload_n 0, 1) := by decide +kernel
theorem dL_law_999 : decode cL_law 999 = .ok (.iload 4, 2) := by decide +kernel
theorem dL_law_1001 : decode cL_law 1001 = .ok (.iconst 2, 1) := by decide +kernel
theorem dL_law_1002 : decode cL_law 1002 = .ok (.iadd, 1) := by decide +kernel
theorem dL_law_1003 : decode cL_law 1003 = .ok (.iaload, 1) := by decide +kernel
theorem dL_law_1004 : decode cL_law 1004 = .ok (.aload_n 3, 1) := by decide +kernel
theorem dL_law_1005 : decode cL_law 1005 = .ok (.invokestatic 126, 3) := by decide +kernel
theorem dL_law_1008 : decode cL_law 1008 = .ok (.istore 5, 2) := by decide +kernel
theorem dL_law_1010 : decode cL_law 1010 = .ok (.aload_n 2, 1) := by decide +kernel
theorem dL_law_1011 : decode cL_law 1011 = .ok (.aload_n 0, 1) := by decide +kernel
theorem dL_law_1012 : decode cL_law 1012 = .ok (.iload 4, 2) := by decide +kernel
theorem dL_law_1014 : decode cL_law 1014 = .ok (.iconst 1, 1) := by decide +kernel
theorem dL_law_1015 : decode cL_law 1015 = .ok (.iadd, 1) := by decide +kernel
theorem dL_law_1016 : decode cL_law 1016 = .ok (.iaload, 1) := by decide +kernel
theorem dL_law_1017 : decode cL_law 1017 = .ok (.aload_n 0, 1) := by decide +kernel
theorem dL_law_1018 : decode cL_law 1018 = .ok (.iload 4, 2) := by decide +kernel
theorem dL_law_1020 : decode cL_law 1020 = .ok (.iconst 2, 1) := by decide +kernel
theorem dL_law_1021 : decode cL_law 1021 = .ok (.iadd, 1) := by decide +kernel
theorem dL_law_1022 : decode cL_law 1022 = .ok (.iaload, 1) := by decide +kernel
theorem dL_law_1023 : decode cL_law 1023 = .ok (.invokevirtual 128, 3) := by decide +kernel
theorem dL_law_1026 : decode cL_law 1026 = .ok (.istore 6, 2) := by decide +kernel
theorem dL_law_1028 : decode cL_law 1028 = .ok (.aload_n 2, 1) := by decide +kernel
theorem dL_law_1029 : decode cL_law 1029 = .ok (.invokevirtual 86, 3) := by decide +kernel
theorem dL_law_1032 : decode cL_law 1032 = .ok (.iload 5, 2) := by decide +kernel
theorem dL_law_1034 : decode cL_law 1034 = .ok (.if_icmp .eq 5, 3) := by decide +kernel
theorem dL_law_1037 : decode cL_law 1037 = .ok (.iconst 0, 1) := by decide +kernel
theorem dL_law_1038 : decode cL_law 1038 = .ok (.ireturn, 1) := by decide +kernel
theorem dL_law_1039 : decode cL_law 1039 = .ok (.iload 5, 2) := by decide +kernel
theorem dL_law_1041 : decode cL_law 1041 = .ok (.ifCond .ne 15, 3) := by decide +kernel
theorem dL_law_1044 : decode cL_law 1044 = .ok (.aload_n 3, 1) := by decide +kernel
theorem dL_law_1045 : decode cL_law 1045 = .ok (.iconst 0, 1) := by decide +kernel
theorem dL_law_1046 : decode cL_law 1046 = .ok (.laload, 1) := by decide +kernel
theorem dL_law_1047 : decode cL_law 1047 = .ok (.iload 6, 2) := by decide +kernel
theorem dL_law_1049 : decode cL_law 1049 = .ok (.i2l, 1) := by decide +kernel
theorem dL_law_1050 : decode cL_law 1050 = .ok (.lcmp, 1) := by decide +kernel
theorem dL_law_1051 : decode cL_law 1051 = .ok (.ifCond .eq 5, 3) := by decide +kernel
theorem dL_law_1054 : decode cL_law 1054 = .ok (.iconst 0, 1) := by decide +kernel
theorem dL_law_1055 : decode cL_law 1055 = .ok (.ireturn, 1) := by decide +kernel
theorem dL_law_1056 : decode cL_law 1056 = .ok (.goto 391, 3) := by decide +kernel
theorem dL_law_1059 : decode cL_law 1059 = .ok (.aload_n 1, 1) := by decide +kernel
theorem dL_law_1060 : decode cL_law 1060 = .ok (.aload_n 0, 1) := by decide +kernel
theorem dL_law_1061 : decode cL_law 1061 = .ok (.iload 4, 2) := by decide +kernel
theorem dL_law_1063 : decode cL_law 1063 = .ok (.iconst 1, 1) := by decide +kernel
theorem dL_law_1064 : decode cL_law 1064 = .ok (.iadd, 1) := by decide +kernel
theorem dL_law_1065 : decode cL_law 1065 = .ok (.iaload, 1) := by decide +kernel
theorem dL_law_1066 : decode cL_law 1066 = .ok (.aload_n 3, 1) := by decide +kernel
theorem dL_law_1067 : decode cL_law 1067 = .ok (.invokestatic 129, 3) := by decide +kernel
theorem dL_law_1070 : decode cL_law 1070 = .ok (.istore 5, 2) := by decide +kernel
theorem dL_law_1072 : decode cL_law 1072 = .ok (.aload_n 2, 1) := by decide +kernel
theorem dL_law_1073 : decode cL_law 1073 = .ok (.aload_n 0, 1) := by decide +kernel
theorem dL_law_1074 : decode cL_law 1074 = .ok (.iload 4, 2) := by decide +kernel
theorem dL_law_1076 : decode cL_law 1076 = .ok (.iconst 1, 1) := by decide +kernel
theorem dL_law_1077 : decode cL_law 1077 = .ok (.iadd, 1) := by decide +kernel
theorem dL_law_1078 : decode cL_law 1078 = .ok (.iaload, 1) := by decide +kernel
theorem dL_law_1079 : decode cL_law 1079 = .ok (.invokevirtual 131, 3) := by decide +kernel
theorem dL_law_1082 : decode cL_law 1082 = .ok (.istore 6, 2) := by decide +kernel
theorem dL_law_1084 : decode cL_law 1084 = .ok (.aload_n 2, 1) := by decide +kernel
theorem dL_law_1085 : decode cL_law 1085 = .ok (.invokevirtual 86, 3) := by decide +kernel
theorem dL_law_1088 : decode cL_law 1088 = .ok (.iload 5, 2) := by decide +kernel
theorem dL_law_1090 : decode cL_law 1090 = .ok (.if_icmp .eq 5, 3) := by decide +kernel
theorem dL_law_1093 : decode cL_law 1093 = .ok (.iconst 0, 1) := by decide +kernel
theorem dL_law_1094 : decode cL_law 1094 = .ok (.ireturn, 1) := by decide +kernel
theorem dL_law_1095 : decode cL_law 1095 = .ok (.iload 5, 2) := by decide +kernel
theorem dL_law_1097 : decode cL_law 1097 = .ok (.ifCond .ne 15, 3) := by decide +kernel
theorem dL_law_1100 : decode cL_law 1100 = .ok (.aload_n 3, 1) := by decide +kernel
theorem dL_law_1101 : decode cL_law 1101 = .ok (.iconst 0, 1) := by decide +kernel
theorem dL_law_1102 : decode cL_law 1102 = .ok (.laload, 1) := by decide +kernel
theorem dL_law_1103 : decode cL_law 1103 = .ok (.iload 6, 2) := by decide +kernel
theorem dL_law_1105 : decode cL_law 1105 = .ok (.i2l, 1) := by decide +kernel
theorem dL_law_1106 : decode cL_law 1106 = .ok (.lcmp, 1) := by decide +kernel
theorem dL_law_1107 : decode cL_law 1107 = .ok (.ifCond .eq 5, 3) := by decide +kernel
theorem dL_law_1110 : decode cL_law 1110 = .ok (.iconst 0, 1) := by decide +kernel
theorem dL_law_1111 : decode cL_law 1111 = .ok (.ireturn, 1) := by decide +kernel
theorem dL_law_1112 : decode cL_law 1112 = .ok (.goto 335, 3) := by decide +kernel
theorem dL_law_1115 : decode cL_law 1115 = .ok (.aload_n 1, 1) := by decide +kernel
theorem dL_law_1116 : decode cL_law 1116 = .ok (.aload_n 0, 1) := by decide +kernel
theorem dL_law_1117 : decode cL_law 1117 = .ok (.iload 4, 2) := by decide +kernel
theorem dL_law_1119 : decode cL_law 1119 = .ok (.iconst 1, 1) := by decide +kernel
theorem dL_law_1120 : decode cL_law 1120 = .ok (.iadd, 1) := by decide +kernel
theorem dL_law_1121 : decode cL_law 1121 = .ok (.iaload, 1) := by decide +kernel
theorem dL_law_1122 : decode cL_law 1122 = .ok (.aload_n 3, 1) := by decide +kernel
theorem dL_law_1123 : decode cL_law 1123 = .ok (.invokestatic 132, 3) := by decide +kernel
theorem dL_law_1126 : decode cL_law 1126 = .ok (.istore 5, 2) := by decide +kernel
theorem dL_law_1128 : decode cL_law 1128 = .ok (.aload_n 2, 1) := by decide +kernel
theorem dL_law_1129 : decode cL_law 1129 = .ok (.aload_n 0, 1) := by decide +kernel
theorem dL_law_1130 : decode cL_law 1130 = .ok (.iload 4, 2) := by decide +kernel
theorem dL_law_1132 : decode cL_law 1132 = .ok (.iconst 1, 1) := by decide +kernel
theorem dL_law_1133 : decode cL_law 1133 = .ok (.iadd, 1) := by decide +kernel
theorem dL_law_1134 : decode cL_law 1134 = .ok (.iaload, 1) := by decide +kernel
theorem dL_law_1135 : decode cL_law 1135 = .ok (.invokevirtual 134, 3) := by decide +kernel
theorem dL_law_1138 : decode cL_law 1138 = .ok (.istore 6, 2) := by decide +kernel
theorem dL_law_1140 : decode cL_law 1140 = .ok (.aload_n 2, 1) := by decide +kernel
theorem dL_law_1141 : decode cL_law 1141 = .ok (.invokevirtual 86, 3) := by decide +kernel
theorem dL_law_1144 : decode cL_law 1144 = .ok (.iload 5, 2) := by decide +kernel
theorem dL_law_1146 : decode cL_law 1146 = .ok (.if_icmp .eq 5, 3) := by decide +kernel
theorem dL_law_1149 : decode cL_law 1149 = .ok (.iconst 0, 1) := by decide +kernel
theorem dL_law_1150 : decode cL_law 1150 = .ok (.ireturn, 1) := by decide +kernel
theorem dL_law_1151 : decode cL_law 1151 = .ok (.iload 5, 2) := by decide +kernel
theorem dL_law_1153 : decode cL_law 1153 = .ok (.ifCond .ne 15, 3) := by decide +kernel
theorem dL_law_1156 : decode cL_law 1156 = .ok (.aload_n 3, 1) := by decide +kernel
theorem dL_law_1157 : decode cL_law 1157 = .ok (.iconst 0, 1) := by decide +kernel
theorem dL_law_1158 : decode cL_law 1158 = .ok (.laload, 1) := by decide +kernel
theorem dL_law_1159 : decode cL_law 1159 = .ok (.iload 6, 2) := by decide +kernel
theorem dL_law_1161 : decode cL_law 1161 = .ok (.i2l, 1) := by decide +kernel
theorem dL_law_1162 : decode cL_law 1162 = .ok (.lcmp, 1) := by decide +kernel
theorem dL_law_1163 : decode cL_law 1163 = .ok (.ifCond .eq 5, 3) := by decide +kernel
theorem dL_law_1166 : decode cL_law 1166 = .ok (.iconst 0, 1) := by decide +kernel
theorem dL_law_1167 : decode cL_law 1167 = .ok (.ireturn, 1) := by decide +kernel
theorem dL_law_1168 : decode cL_law 1168 = .ok (.goto 279, 3) := by decide +kernel
theorem dL_law_1171 : decode cL_law 1171 = .ok (.aload_n 1, 1) := by decide +kernel
theorem dL_law_1172 : decode cL_law 1172 = .ok (.invokevirtual 135, 3) := by decide +kernel
theorem dL_law_1175 : decode cL_law 1175 = .ok (.aload_n 2, 1) := by decide +kernel
theorem dL_law_1176 : decode cL_law 1176 = .ok (.invokevirtual 138, 3) := by decide +kernel
theorem dL_law_1179 : decode cL_law 1179 = .ok (.if_icmp .eq 268, 3) := by decide +kernel
theorem dL_law_1182 : decode cL_law 1182 = .ok (.iconst 0, 1) := by decide +kernel
theorem dL_law_1183 : decode cL_law 1183 = .ok (.ireturn, 1) := by decide +kernel
theorem dL_law_1184 : decode cL_law 1184 = .ok (.aload_n 1, 1) := by decide +kernel
theorem dL_law_1185 : decode cL_law 1185 = .ok (.aload_n 0, 1) := by decide +kernel
theorem dL_law_1186 : decode cL_law 1186 = .ok (.iload 4, 2) := by decide +kernel
theorem dL_law_1188 : decode cL_law 1188 = .ok (.iconst 1, 1) := by decide +kernel
theorem dL_law_1189 : decode cL_law 1189 = .ok (.iadd, 1) := by decide +kernel
theorem dL_law_1190 : decode cL_law 1190 = .ok (.iaload, 1) := by decide +kernel
theorem dL_law_1191 : decode cL_law 1191 = .ok (.aload_n 3, 1) := by decide +kernel
theorem dL_law_1192 : decode cL_law 1192 = .ok (.invokestatic 139, 3) := by decide +kernel
theorem dL_law_1195 : decode cL_law 1195 = .ok (.istore 5, 2) := by decide +kernel
theorem dL_law_1197 : decode cL_law 1197 = .ok (.aload_n 2, 1) := by decide +kernel
theorem dL_law_1198 : decode cL_law 1198 = .ok (.aload_n 0, 1) := by decide +kernel
theorem dL_law_1199 : decode cL_law 1199 = .ok (.iload 4, 2) := by decide +kernel
theorem dL_law_1201 : decode cL_law 1201 = .ok (.iconst 1, 1) := by decide +kernel
theorem dL_law_1202 : decode cL_law 1202 = .ok (.iadd, 1) := by decide +kernel
theorem dL_law_1203 : decode cL_law 1203 = .ok (.iaload, 1) := by decide +kernel
theorem dL_law_1204 : decode cL_law 1204 = .ok (.invokevirtual 141, 3) := by decide +kernel
theorem dL_law_1207 : decode cL_law 1207 = .ok (.istore 6, 2) := by decide +kernel
theorem dL_law_1209 : decode cL_law 1209 = .ok (.aload_n 2, 1) := by decide +kernel
theorem dL_law_1210 : decode cL_law 1210 = .ok (.invokevirtual 86, 3) := by decide +kernel
theorem dL_law_1213 : decode cL_law 1213 = .ok (.iload 5, 2) := by decide +kernel
theorem dL_law_1215 : decode cL_law 1215 = .ok (.if_icmp .eq 5, 3) := by decide +kernel
theorem dL_law_1218 : decode cL_law 1218 = .ok (.iconst 0, 1) := by decide +kernel
theorem dL_law_1219 : decode cL_law 1219 = .ok (.ireturn, 1) := by decide +kernel
theorem dL_law_1220 : decode cL_law 1220 = .ok (.iload 5, 2) := by decide +kernel
theorem dL_law_1222 : decode cL_law 1222 = .ok (.ifCond .ne 15, 3) := by decide +kernel
theorem dL_law_1225 : decode cL_law 1225 = .ok (.aload_n 3, 1) := by decide +kernel
theorem dL_law_1226 : decode cL_law 1226 = .ok (.iconst 0, 1) := by decide +kernel
theorem dL_law_1227 : decode cL_law 1227 = .ok (.laload, 1) := by decide +kernel
theorem dL_law_1228 : decode cL_law 1228 = .ok (.iload 6, 2) := by decide +kernel
theorem dL_law_1230 : decode cL_law 1230 = .ok (.i2l, 1) := by decide +kernel
theorem dL_law_1231 : decode cL_law 1231 = .ok (.lcmp, 1) := by decide +kernel
theorem dL_law_1232 : decode cL_law 1232 = .ok (.ifCond .eq 5, 3) := by decide +kernel
theorem dL_law_1235 : decode cL_law 1235 = .ok (.iconst 0, 1) := by decide +kernel
theorem dL_law_1236 : decode cL_law 1236 = .ok (.ireturn, 1) := by decide +kernel
theorem dL_law_1237 : decode cL_law 1237 = .ok (.goto 210, 3) := by decide +kernel
theorem dL_law_1240 : decode cL_law 1240 = .ok (.aload_n 1, 1) := by decide +kernel
theorem dL_law_1241 : decode cL_law 1241 = .ok (.invokevirtual 142, 3) := by decide +kernel
theorem dL_law_1244 : decode cL_law 1244 = .ok (.aload_n 2, 1) := by decide +kernel
theorem dL_law_1245 : decode cL_law 1245 = .ok (.invokevirtual 145, 3) := by decide +kernel
theorem dL_law_1248 : decode cL_law 1248 = .ok (.if_icmp .eq 199, 3) := by decide +kernel
theorem dL_law_1251 : decode cL_law 1251 = .ok (.iconst 0, 1) := by decide +kernel
theorem dL_law_1252 : decode cL_law 1252 = .ok (.ireturn, 1) := by decide +kernel
theorem dL_law_1253 : decode cL_law 1253 = .ok (.aload_n 1, 1) := by decide +kernel
theorem dL_law_1254 : decode cL_law 1254 = .ok (.invokevirtual 146, 3) := by decide +kernel
theorem dL_law_1257 : decode cL_law 1257 = .ok (.aload_n 2, 1) := by decide +kernel
theorem dL_law_1258 : decode cL_law 1258 = .ok (.invokevirtual 150, 3) := by decide +kernel
theorem dL_law_1261 : decode cL_law 1261 = .ok (.if_icmp .eq 186, 3) := by decide +kernel
theorem dL_law_1264 : decode cL_law 1264 = .ok (.iconst 0, 1) := by decide +kernel
theorem dL_law_1265 : decode cL_law 1265 = .ok (.ireturn, 1) := by decide +kernel
theorem dL_law_1266 : decode cL_law 1266 = .ok (.aload_n 1, 1) := by decide +kernel
theorem dL_law_1267 : decode cL_law 1267 = .ok (.invokevirtual 151, 3) := by decide +kernel
theorem dL_law_1270 : decode cL_law 1270 = .ok (.dstore 5, 2) := by decide +kernel
theorem dL_law_1272 : decode cL_law 1272 = .ok (.aload_n 2, 1) := by decide +kernel
theorem dL_law_1273 : decode cL_law 1273 = .ok (.invokevirtual 155, 3) := by decide +kernel
theorem dL_law_1276 : decode cL_law 1276 = .ok (.dstore 7, 2) := by decide +kernel
theorem dL_law_1278 : decode cL_law 1278 = .ok (.dload 5, 2) := by decide +kernel
theorem dL_law_1280 : decode cL_law 1280 = .ok (.dload 7, 2) := by decide +kernel
theorem dL_law_1282 : decode cL_law 1282 = .ok (.dcmp .l, 1) := by decide +kernel
theorem dL_law_1283 : decode cL_law 1283 = .ok (.ifCond .eq 21, 3) := by decide +kernel
theorem dL_law_1286 : decode cL_law 1286 = .ok (.dload 5, 2) := by decide +kernel
theorem dL_law_1288 : decode cL_law 1288 = .ok (.dload 5, 2) := by decide +kernel
theorem dL_law_1290 : decode cL_law 1290 = .ok (.dcmp .l, 1) := by decide +kernel
theorem dL_law_1291 : decode cL_law 1291 = .ok (.ifCond .eq 11, 3) := by decide +kernel
theorem dL_law_1294 : decode cL_law 1294 = .ok (.dload 7, 2) := by decide +kernel
theorem dL_law_1296 : decode cL_law 1296 = .ok (.dload 7, 2) := by decide +kernel
theorem dL_law_1298 : decode cL_law 1298 = .ok (.dcmp .l, 1) := by decide +kernel
theorem dL_law_1299 : decode cL_law 1299 = .ok (.ifCond .ne 5, 3) := by decide +kernel
theorem dL_law_1302 : decode cL_law 1302 = .ok (.iconst 0, 1) := by decide +kernel
theorem dL_law_1303 : decode cL_law 1303 = .ok (.ireturn, 1) := by decide +kernel
theorem dL_law_1304 : decode cL_law 1304 = .ok (.goto 143, 3) := by decide +kernel
theorem dL_law_1307 : decode cL_law 1307 = .ok (.aload_n 1, 1) := by decide +kernel
theorem dL_law_1308 : decode cL_law 1308 = .ok (.aload_n 0, 1) := by decide +kernel
theorem dL_law_1309 : decode cL_law 1309 = .ok (.iload 4, 2) := by decide +kernel
theorem dL_law_1311 : decode cL_law 1311 = .ok (.iconst 1, 1) := by decide +kernel
theorem dL_law_1312 : decode cL_law 1312 = .ok (.iadd, 1) := by decide +kernel
theorem dL_law_1313 : decode cL_law 1313 = .ok (.iaload, 1) := by decide +kernel
theorem dL_law_1314 : decode cL_law 1314 = .ok (.aload_n 3, 1) := by decide +kernel
theorem dL_law_1315 : decode cL_law 1315 = .ok (.invokestatic 156, 3) := by decide +kernel
theorem dL_law_1318 : decode cL_law 1318 = .ok (.istore 5, 2) := by decide +kernel
theorem dL_law_1320 : decode cL_law 1320 = .ok (.aload_n 2, 1) := by decide +kernel
theorem dL_law_1321 : decode cL_law 1321 = .ok (.aload_n 0, 1) := by decide +kernel
theorem dL_law_1322 : decode cL_law 1322 = .ok (.iload 4, 2) := by decide +kernel
theorem dL_law_1324 : decode cL_law 1324 = .ok (.iconst 1, 1) := by decide +kernel
theorem dL_law_1325 : decode cL_law 1325 = .ok (.iadd, 1) := by decide +kernel
theorem dL_law_1326 : decode cL_law 1326 = .ok (.iaload, 1) := by decide +kernel
theorem dL_law_1327 : decode cL_law 1327 = .ok (.invokevirtual 158, 3) := by decide +kernel
theorem dL_law_1330 : decode cL_law 1330 = .ok (.istore 6, 2) := by decide +kernel
theorem dL_law_1332 : decode cL_law 1332 = .ok (.aload_n 2, 1) := by decide +kernel
theorem dL_law_1333 : decode cL_law 1333 = .ok (.invokevirtual 86, 3) := by decide +kernel
theorem dL_law_1336 : decode cL_law 1336 = .ok (.iload 5, 2) := by decide +kernel
theorem dL_law_1338 : decode cL_law 1338 = .ok (.if_icmp .eq 5, 3) := by decide +kernel
theorem dL_law_1341 : decode cL_law 1341 = .ok (.iconst 0, 1) := by decide +kernel
theorem dL_law_1342 : decode cL_law 1342 = .ok (.ireturn, 1) := by decide +kernel
theorem dL_law_1343 : decode cL_law 1343 = .ok (.iload 5, 2) := by decide +kernel
theorem dL_law_1345 : decode cL_law 1345 = .ok (.ifCond .ne 15, 3) := by decide +kernel
theorem dL_law_1348 : decode cL_law 1348 = .ok (.aload_n 3, 1) := by decide +kernel
theorem dL_law_1349 : decode cL_law 1349 = .ok (.iconst 0, 1) := by decide +kernel
theorem dL_law_1350 : decode cL_law 1350 = .ok (.laload, 1) := by decide +kernel
theorem dL_law_1351 : decode cL_law 1351 = .ok (.iload 6, 2) := by decide +kernel
theorem dL_law_1353 : decode cL_law 1353 = .ok (.i2l, 1) := by decide +kernel
theorem dL_law_1354 : decode cL_law 1354 = .ok (.lcmp, 1) := by decide +kernel
theorem dL_law_1355 : decode cL_law 1355 = .ok (.ifCond .eq 5, 3) := by decide +kernel
theorem dL_law_1358 : decode cL_law 1358 = .ok (.iconst 0, 1) := by decide +kernel
theorem dL_law_1359 : decode cL_law 1359 = .ok (.ireturn, 1) := by decide +kernel
theorem dL_law_1360 : decode cL_law 1360 = .ok (.goto 87, 3) := by decide +kernel
theorem dL_law_1363 : decode cL_law 1363 = .ok (.aload_n 1, 1) := by decide +kernel
theorem dL_law_1364 : decode cL_law 1364 = .ok (.invokevirtual 159, 3) := by decide +kernel
theorem dL_law_1367 : decode cL_law 1367 = .ok (.aload_n 2, 1) := by decide +kernel
theorem dL_law_1368 : decode cL_law 1368 = .ok (.invokevirtual 162, 3) := by decide +kernel
theorem dL_law_1371 : decode cL_law 1371 = .ok (.if_icmp .eq 76, 3) := by decide +kernel
theorem dL_law_1374 : decode cL_law 1374 = .ok (.iconst 0, 1) := by decide +kernel
theorem dL_law_1375 : decode cL_law 1375 = .ok (.ireturn, 1) := by decide +kernel
theorem dL_law_1376 : decode cL_law 1376 = .ok (.aload_n 1, 1) := by decide +kernel
theorem dL_law_1377 : decode cL_law 1377 = .ok (.invokevirtual 163, 3) := by decide +kernel
theorem dL_law_1380 : decode cL_law 1380 = .ok (.aload_n 2, 1) := by decide +kernel
theorem dL_law_1381 : decode cL_law 1381 = .ok (.invokevirtual 166, 3) := by decide +kernel
theorem dL_law_1384 : decode cL_law 1384 = .ok (.if_icmp .eq 63, 3) := by decide +kernel
theorem dL_law_1387 : decode cL_law 1387 = .ok (.iconst 0, 1) := by decide +kernel
theorem dL_law_1388 : decode cL_law 1388 = .ok (.ireturn, 1) := by decide +kernel
theorem dL_law_1389 : decode cL_law 1389 = .ok (.aload_n 1, 1) := by decide +kernel
theorem dL_law_1390 : decode cL_law 1390 = .ok (.aload_n 3, 1) := by decide +kernel
theorem dL_law_1391 : decode cL_law 1391 = .ok (.invokestatic 167, 3) := by decide +kernel
theorem dL_law_1394 : decode cL_law 1394 = .ok (.istore 5, 2) := by decide +kernel
theorem dL_law_1396 : decode cL_law 1396 = .ok (.aload_n 2, 1) := by decide +kernel
theorem dL_law_1397 : decode cL_law 1397 = .ok (.invokevirtual 170, 3) := by decide +kernel
theorem dL_law_1400 : decode cL_law 1400 = .ok (.istore 6, 2) := by decide +kernel
theorem dL_law_1402 : decode cL_law 1402 = .ok (.aload_n 2, 1) := by decide +kernel
theorem dL_law_1403 : decode cL_law 1403 = .ok (.invokevirtual 86, 3) := by decide +kernel
theorem dL_law_1406 : decode cL_law 1406 = .ok (.iload 5, 2) := by decide +kernel
theorem dL_law_1408 : decode cL_law 1408 = .ok (.if_icmp .eq 5, 3) := by decide +kernel
theorem dL_law_1411 : decode cL_law 1411 = .ok (.iconst 0, 1) := by decide +kernel
theorem dL_law_1412 : decode cL_law 1412 = .ok (.ireturn, 1) := by decide +kernel
theorem dL_law_1413 : decode cL_law 1413 = .ok (.iload 5, 2) := by decide +kernel
theorem dL_law_1415 : decode cL_law 1415 = .ok (.ifCond .ne 15, 3) := by decide +kernel
theorem dL_law_1418 : decode cL_law 1418 = .ok (.aload_n 3, 1) := by decide +kernel
theorem dL_law_1419 : decode cL_law 1419 = .ok (.iconst 0, 1) := by decide +kernel
theorem dL_law_1420 : decode cL_law 1420 = .ok (.laload, 1) := by decide +kernel
theorem dL_law_1421 : decode cL_law 1421 = .ok (.iload 6, 2) := by decide +kernel
theorem dL_law_1423 : decode cL_law 1423 = .ok (.i2l, 1) := by decide +kernel
theorem dL_law_1424 : decode cL_law 1424 = .ok (.lcmp, 1) := by decide +kernel
theorem dL_law_1425 : decode cL_law 1425 = .ok (.ifCond .eq 5, 3) := by decide +kernel
theorem dL_law_1428 : decode cL_law 1428 = .ok (.iconst 0, 1) := by decide +kernel
theorem dL_law_1429 : decode cL_law 1429 = .ok (.ireturn, 1) := by decide +kernel
theorem dL_law_1430 : decode cL_law 1430 = .ok (.goto 17, 3) := by decide +kernel
theorem dL_law_1433 : decode cL_law 1433 = .ok (.aload_n 1, 1) := by decide +kernel
theorem dL_law_1434 : decode cL_law 1434 = .ok (.invokevirtual 171, 3) := by decide +kernel
theorem dL_law_1437 : decode cL_law 1437 = .ok (.aload_n 2, 1) := by decide +kernel
theorem dL_law_1438 : decode cL_law 1438 = .ok (.invokevirtual 175, 3) := by decide +kernel
theorem dL_law_1441 : decode cL_law 1441 = .ok (.lcmp, 1) := by decide +kernel
theorem dL_law_1442 : decode cL_law 1442 = .ok (.ifCond .eq 5, 3) := by decide +kernel
theorem dL_law_1445 : decode cL_law 1445 = .ok (.iconst 0, 1) := by decide +kernel
theorem dL_law_1446 : decode cL_law 1446 = .ok (.ireturn, 1) := by decide +kernel
theorem dL_law_1447 : decode cL_law 1447 = .ok (.iinc 4 5, 3) := by decide +kernel
theorem dL_law_1450 : decode cL_law 1450 = .ok (.goto (-1427), 3) := by decide +kernel
theorem dL_law_1453 : decode cL_law 1453 = .ok (.iconst 1, 1) := by decide +kernel
theorem dL_law_1454 : decode cL_law 1454 = .ok (.ireturn, 1) := by decide +kernel
abbrev vwCl : List vw_C := [(RX0, TX0, 7), (RX1, TX1, 2), (RX2, TX2, 6), (RX3, TX3, 4), (RX4, TX4, 3), (RX5, TX5, 13), (RX6, TX6, 6), (RX7, TX7, 5), (RX8, TX8, 13)]
end
section
/-- the words that every contract rests on: the good ones of the tables -/
def wsG : List Cond := lw_tbl.filter goodWord
theorem wsG_in : ∀ w ∈ wsG, w ∈ lw_tbl := fun w h => (List.mem_filter.mp h).1
theorem wsG_good : ∀ w ∈ wsG, (w.onTables && w.keeps) = true ∨ ∃ ty, w = .arrayClass ty := fun w h => good_of_word (List.mem_filter.mp h).2
theorem wsG_mk {w : Cond} (h : w ∈ lw_tbl) (g : goodWord w = true) : w ∈ wsG := List.mem_filter.mpr ⟨h, g⟩
theorem wsT0 (w : Cond) (h : w ∈ k2_sels lw_privs) (g : goodWord w = true) : w ∈ wsG := wsG_mk (List.mem_append_left _ h) g
theorem wsT1 (w : Cond) (h : w ∈ tables_1_1) (g : goodWord w = true) : w ∈ wsG := wsG_mk (List.mem_append_right _ (List.mem_append_left _ h)) g
theorem wsT2 (w : Cond) (h : w ∈ tables_1_2) (g : goodWord w = true) : w ∈ wsG := wsG_mk (List.mem_append_right _ (List.mem_append_right _ (List.mem_append_left _ h))) g
theorem wsT3 (w : Cond) (h : w ∈ tables_1_3) (g : goodWord w = true) : w ∈ wsG := wsG_mk (List.mem_append_right _ (List.mem_append_right _ (List.mem_append_right _ (List.mem_append_left _ h)))) g
theorem wsT4 (w : Cond) (h : w ∈ tables_1_4) (g : goodWord w = true) : w ∈ wsG := wsG_mk (List.mem_append_right _ (List.mem_append_right _ (List.mem_append_right _ (List.mem_append_right _ (List.mem_append_left _ h))))) g
theorem wsT5 (w : Cond) (h : w ∈ tables_1_5) (g : goodWord w = true) : w ∈ wsG := wsG_mk (List.mem_append_right _ (List.mem_append_right _ (List.mem_append_right _ (List.mem_append_right _ (List.mem_append_right _ h))))) g
theorem w_in_L : (Cond.initialized RL) ∈ wsG := wsT1 _ (List.mem_of_getElem? (i := 0) (by decide +kernel)) rfl
theorem w_in_X7 : (Cond.initialized RX7) ∈ wsG := wsT1 _ (List.mem_of_getElem? (i := 1) (by decide +kernel)) rfl
theorem w_in_X5 : (Cond.initialized RX5) ∈ wsG := wsT1 _ (List.mem_of_getElem? (i := 2) (by decide +kernel)) rfl
theorem w_in_X0 : (Cond.initialized RX0) ∈ wsG := wsT1 _ (List.mem_of_getElem? (i := 3) (by decide +kernel)) rfl
theorem w_in_X2 : (Cond.initialized RX2) ∈ wsG := wsT1 _ (List.mem_of_getElem? (i := 4) (by decide +kernel)) rfl
theorem w_in_J7 : (Cond.initialized "java/util/Arrays") ∈ wsG := wsT1 _ (List.mem_of_getElem? (i := 5) (by decide +kernel)) rfl
theorem w_in_X3 : (Cond.initialized RX3) ∈ wsG := wsT1 _ (List.mem_of_getElem? (i := 6) (by decide +kernel)) rfl
theorem w_in_X1 : (Cond.initialized RX1) ∈ wsG := wsT1 _ (List.mem_of_getElem? (i := 7) (by decide +kernel)) rfl
theorem w_in_X4 : (Cond.initialized RX4) ∈ wsG := wsT1 _ (List.mem_of_getElem? (i := 8) (by decide +kernel)) rfl
theorem w_in_X6 : (Cond.initialized RX6) ∈ wsG := wsT1 _ (List.mem_of_getElem? (i := 9) (by decide +kernel)) rfl
theorem w_in_X8 : (Cond.initialized RX8) ∈ wsG := wsT1 _ (List.mem_of_getElem? (i := 10) (by decide +kernel)) rfl
theorem w_in_Throwable : (Cond.initialized "java/lang/Throwable") ∈ wsG := wsT1 _ (List.mem_of_getElem? (i := 11) (by decide +kernel)) rfl
theorem w_in_Exception : (Cond.initialized "java/lang/Exception") ∈ wsG := wsT1 _ (List.mem_of_getElem? (i := 12) (by decide +kernel)) rfl
theorem w_in_RuntimeException : (Cond.initialized "java/lang/RuntimeException") ∈ wsG := wsT1 _ (List.mem_of_getElem? (i := 13) (by decide +kernel)) rfl
theorem w_in_IndexOutOfBoundsException : (Cond.initialized "java/lang/IndexOutOfBoundsException") ∈ wsG := wsT1 _ (List.mem_of_getElem? (i := 14) (by decide +kernel)) rfl
theorem w_in_J9 : (Cond.initialized "java/lang/Math") ∈ wsG := wsT1 _ (List.mem_of_getElem? (i := 15) (by decide +kernel)) rfl
theorem w_in_J10 : (Cond.initialized "java/lang/System") ∈ wsG := wsT1 _ (List.mem_of_getElem? (i := 16) (by decide +kernel)) rfl
theorem w_in_J6 : (Cond.initialized "java/lang/Integer") ∈ wsG := wsT1 _ (List.mem_of_getElem? (i := 17) (by decide +kernel)) rfl
theorem w_in_IllegalArgumentException : (Cond.initialized "java/lang/IllegalArgumentException") ∈ wsG := wsT1 _ (List.mem_of_getElem? (i := 18) (by decide +kernel)) rfl
theorem w_in_IllegalStateException : (Cond.initialized "java/lang/IllegalStateException") ∈ wsG := wsT1 _ (List.mem_of_getElem? (i := 19) (by decide +kernel)) rfl
theorem w_cl_L_8 : (Cond.classLink RL 8 RX7) ∈ wsG := wsT1 _ (List.mem_of_getElem? (i := 20) (by decide +kernel)) rfl
theorem w_is_X7 : (Cond.instantiable RX7 5) ∈ wsG := wsT1 _ (List.mem_of_getElem? (i := 21) (by decide +kernel)) rfl
theorem w_ml_L_76 : (Cond.methodLink RL 76 yX7_init) ∈ wsG := wsT1 _ (List.mem_of_getElem? (i := 22) (by decide +kernel)) rfl
theorem w_im_yX7_init : (Cond.instanceMethod yX7_init) ∈ wsG := wsT1 _ (List.mem_of_getElem? (i := 23) (by decide +kernel)) rfl
theorem w_co_yX7_init : (Cond.code yX7_init cX7_init 1 none) ∈ wsG := wsT1 _ (List.mem_of_getElem? (i := 24) (by decide +kernel)) rfl
theorem w_ml_X7_1 : (Cond.methodLink RX7 1 objectInit) ∈ wsG := wsT1 _ (List.mem_of_getElem? (i := 25) (by decide +kernel)) rfl
theorem w_im_objectInit : (Cond.instanceMethod objectInit) ∈ wsG := wsT1 _ (List.mem_of_getElem? (i := 26) (by decide +kernel)) rfl
theorem w_co_objectInit : (Cond.code objectInit ⟨#[0xb1]⟩ 1 none) ∈ wsG := wsT1 _ (List.mem_of_getElem? (i := 27) (by decide +kernel)) rfl
theorem w_cl_X7_7 : (Cond.classLink RX7 7 RX5) ∈ wsG := wsT1 _ (List.mem_of_getElem? (i := 28) (by decide +kernel)) rfl
theorem w_is_X5 : (Cond.instantiable RX5 13) ∈ wsG := wsT1 _ (List.mem_of_getElem? (i := 29) (by decide +kernel)) rfl
theorem w_im_yX5_init : (Cond.instanceMethod yX5_init) ∈ wsG := wsT1 _ (List.mem_of_getElem? (i := 31) (by decide +kernel)) rfl
theorem w_co_yX5_init : (Cond.code yX5_init cX5_init 1 none) ∈ wsG := wsT1 _ (List.mem_of_getElem? (i := 32) (by decide +kernel)) rfl
theorem w_ml_X5_3 : (Cond.methodLink RX5 3 objectInit) ∈ wsG := wsT1 _ (List.mem_of_getElem? (i := 33) (by decide +kernel)) rfl
theorem w_cl_X5_25 : (Cond.classLink RX5 25 RX0) ∈ wsG := wsT1 _ (List.mem_of_getElem? (i := 34) (by decide +kernel)) rfl
theorem w_is_X0 : (Cond.instantiable RX0 7) ∈ wsG := wsT1 _ (List.mem_of_getElem? (i := 35) (by decide +kernel)) rfl
theorem w_im_yX0_init : (Cond.instanceMethod yX0_init) ∈ wsG := wsT1 _ (List.mem_of_getElem? (i := 37) (by decide +kernel)) rfl
theorem w_co_yX0_init : (Cond.code yX0_init cX0_init 1 none) ∈ wsG := wsT1 _ (List.mem_of_getElem? (i := 38) (by decide +kernel)) rfl
theorem w_ml_X0_3 : (Cond.methodLink RX0 3 objectInit) ∈ wsG := wsT1 _ (List.mem_of_getElem? (i := 39) (by decide +kernel)) rfl
theorem w_fl_X0_9 : (Cond.fieldLink RX0 9 "CamDrum$Air" "tank" "I") ∈ wsG := wsT1 _ (List.mem_of_getElem? (i := 40) (by decide +kernel)) rfl
theorem w_fl_X7_111 : (Cond.fieldLink RX7 111 "CamDrum$Air" "tank" "I") ∈ wsG := wsT1 _ (List.mem_of_getElem? (i := 41) (by decide +kernel)) rfl
theorem w_fl_X5_129 : (Cond.fieldLink RX5 129 "CamDrum$Air" "tank" "I") ∈ wsG := wsT1 _ (List.mem_of_getElem? (i := 42) (by decide +kernel)) rfl
theorem w_fl_X0_15 : (Cond.fieldLink RX0 15 "CamDrum$Air" "capacity" "I") ∈ wsG := wsT1 _ (List.mem_of_getElem? (i := 43) (by decide +kernel)) rfl
theorem w_fl_X7_100 : (Cond.fieldLink RX7 100 "CamDrum$Air" "capacity" "I") ∈ wsG := wsT1 _ (List.mem_of_getElem? (i := 44) (by decide +kernel)) rfl
theorem w_fl_X5_190 : (Cond.fieldLink RX5 190 "CamDrum$Air" "capacity" "I") ∈ wsG := wsT1 _ (List.mem_of_getElem? (i := 45) (by decide +kernel)) rfl
theorem w_fl_X0_18 : (Cond.fieldLink RX0 18 "CamDrum$Air" "compressor" "I") ∈ wsG := wsT1 _ (List.mem_of_getElem? (i := 46) (by decide +kernel)) rfl
theorem w_fl_X7_105 : (Cond.fieldLink RX7 105 "CamDrum$Air" "compressor" "I") ∈ wsG := wsT1 _ (List.mem_of_getElem? (i := 47) (by decide +kernel)) rfl
theorem w_fl_X5_193 : (Cond.fieldLink RX5 193 "CamDrum$Air" "compressor" "I") ∈ wsG := wsT1 _ (List.mem_of_getElem? (i := 48) (by decide +kernel)) rfl
theorem w_fl_X0_21 : (Cond.fieldLink RX0 21 "CamDrum$Air" "made" "I") ∈ wsG := wsT1 _ (List.mem_of_getElem? (i := 49) (by decide +kernel)) rfl
theorem w_fl_X5_196 : (Cond.fieldLink RX5 196 "CamDrum$Air" "made" "I") ∈ wsG := wsT1 _ (List.mem_of_getElem? (i := 50) (by decide +kernel)) rfl
theorem w_fl_X7_208 : (Cond.fieldLink RX7 208 "CamDrum$Air" "made" "I") ∈ wsG := wsT1 _ (List.mem_of_getElem? (i := 51) (by decide +kernel)) rfl
theorem w_fl_X0_24 : (Cond.fieldLink RX0 24 "CamDrum$Air" "letOff" "I") ∈ wsG := wsT1 _ (List.mem_of_getElem? (i := 52) (by decide +kernel)) rfl
theorem w_fl_X5_199 : (Cond.fieldLink RX5 199 "CamDrum$Air" "letOff" "I") ∈ wsG := wsT1 _ (List.mem_of_getElem? (i := 53) (by decide +kernel)) rfl
theorem w_fl_X0_27 : (Cond.fieldLink RX0 27 "CamDrum$Air" "used" "I") ∈ wsG := wsT1 _ (List.mem_of_getElem? (i := 54) (by decide +kernel)) rfl
theorem w_fl_X5_202 : (Cond.fieldLink RX5 202 "CamDrum$Air" "used" "I") ∈ wsG := wsT1 _ (List.mem_of_getElem? (i := 55) (by decide +kernel)) rfl
theorem w_fl_X7_211 : (Cond.fieldLink RX7 211 "CamDrum$Air" "used" "I") ∈ wsG := wsT1 _ (List.mem_of_getElem? (i := 56) (by decide +kernel)) rfl
theorem w_fl_X0_30 : (Cond.fieldLink RX0 30 "CamDrum$Air" "leaked" "I") ∈ wsG := wsT1 _ (List.mem_of_getElem? (i := 57) (by decide +kernel)) rfl
theorem w_fl_X5_204 : (Cond.fieldLink RX5 204 "CamDrum$Air" "leaked" "I") ∈ wsG := wsT1 _ (List.mem_of_getElem? (i := 58) (by decide +kernel)) rfl
theorem w_ly_X0_tank : (Cond.lays "CamDrum$Air" "CamDrum$Air" "tank" "I") ∈ wsG := wsT1 _ (List.mem_of_getElem? (i := 59) (by decide +kernel)) rfl
theorem w_ly_X0_capacity : (Cond.lays "CamDrum$Air" "CamDrum$Air" "capacity" "I") ∈ wsG := wsT1 _ (List.mem_of_getElem? (i := 61) (by decide +kernel)) rfl
theorem w_ly_X0_compressor : (Cond.lays "CamDrum$Air" "CamDrum$Air" "compressor" "I") ∈ wsG := wsT1 _ (List.mem_of_getElem? (i := 63) (by decide +kernel)) rfl
theorem w_ly_X0_made : (Cond.lays "CamDrum$Air" "CamDrum$Air" "made" "I") ∈ wsG := wsT1 _ (List.mem_of_getElem? (i := 65) (by decide +kernel)) rfl
theorem w_ly_X0_letOff : (Cond.lays "CamDrum$Air" "CamDrum$Air" "letOff" "I") ∈ wsG := wsT1 _ (List.mem_of_getElem? (i := 67) (by decide +kernel)) rfl
theorem w_ly_X0_used : (Cond.lays "CamDrum$Air" "CamDrum$Air" "used" "I") ∈ wsG := wsT1 _ (List.mem_of_getElem? (i := 69) (by decide +kernel)) rfl
theorem w_ly_X0_leaked : (Cond.lays "CamDrum$Air" "CamDrum$Air" "leaked" "I") ∈ wsG := wsT1 _ (List.mem_of_getElem? (i := 71) (by decide +kernel)) rfl
theorem w_ac_int : (Cond.arrayClass FieldType.int) ∈ wsG := wsT1 _ (List.mem_of_getElem? (i := 74) (by decide +kernel)) rfl
theorem w_cl_X5_32 : (Cond.classLink RX5 32 RX2) ∈ wsG := wsT1 _ (List.mem_of_getElem? (i := 75) (by decide +kernel)) rfl
theorem w_is_X2 : (Cond.instantiable RX2 6) ∈ wsG := wsT1 _ (List.mem_of_getElem? (i := 76) (by decide +kernel)) rfl
theorem w_ml_X5_34 : (Cond.methodLink RX5 34 yX2_init) ∈ wsG := wsT1 _ (List.mem_of_getElem? (i := 77) (by decide +kernel)) rfl
theorem w_im_yX2_init : (Cond.instanceMethod yX2_init) ∈ wsG := wsT1 _ (List.mem_of_getElem? (i := 78) (by decide +kernel)) rfl
theorem w_co_yX2_init : (Cond.code yX2_init cX2_init 1 none) ∈ wsG := wsT1 _ (List.mem_of_getElem? (i := 79) (by decide +kernel)) rfl
theorem w_ml_X2_3 : (Cond.methodLink RX2 3 objectInit) ∈ wsG := wsT1 _ (List.mem_of_getElem? (i := 80) (by decide +kernel)) rfl
theorem w_ml_X2_30 : (Cond.methodLink RX2 30 yJ7_fill_53178) ∈ wsG := wsT1 _ (List.mem_of_getElem? (i := 81) (by decide +kernel)) rfl
theorem w_st_yJ7_fill_53178 : (Cond.static yJ7_fill_53178) ∈ wsG := wsT1 _ (List.mem_of_getElem? (i := 82) (by decide +kernel)) rfl
theorem w_co_yJ7_fill_53178 : (Cond.code yJ7_fill_53178 cJ7_fill_53178 4 none) ∈ wsG := wsT1 _ (List.mem_of_getElem? (i := 83) (by decide +kernel)) rfl
theorem w_fl_X2_9 : (Cond.fieldLink RX2 9 "CamDrum$Cylinders" "out" "[I") ∈ wsG := wsT1 _ (List.mem_of_getElem? (i := 84) (by decide +kernel)) rfl
theorem w_fl_X7_91 : (Cond.fieldLink RX7 91 "CamDrum$Cylinders" "out" "[I") ∈ wsG := wsT1 _ (List.mem_of_getElem? (i := 85) (by decide +kernel)) rfl
theorem w_fl_X5_122 : (Cond.fieldLink RX5 122 "CamDrum$Cylinders" "out" "[I") ∈ wsG := wsT1 _ (List.mem_of_getElem? (i := 86) (by decide +kernel)) rfl
theorem w_fl_X2_15 : (Cond.fieldLink RX2 15 "CamDrum$Cylinders" "size" "[I") ∈ wsG := wsT1 _ (List.mem_of_getElem? (i := 87) (by decide +kernel)) rfl
theorem w_fl_X7_79 : (Cond.fieldLink RX7 79 "CamDrum$Cylinders" "size" "[I") ∈ wsG := wsT1 _ (List.mem_of_getElem? (i := 88) (by decide +kernel)) rfl
theorem w_fl_X5_147 : (Cond.fieldLink RX5 147 "CamDrum$Cylinders" "size" "[I") ∈ wsG := wsT1 _ (List.mem_of_getElem? (i := 89) (by decide +kernel)) rfl
theorem w_fl_X2_18 : (Cond.fieldLink RX2 18 "CamDrum$Cylinders" "speed" "[I") ∈ wsG := wsT1 _ (List.mem_of_getElem? (i := 90) (by decide +kernel)) rfl
theorem w_fl_X7_85 : (Cond.fieldLink RX7 85 "CamDrum$Cylinders" "speed" "[I") ∈ wsG := wsT1 _ (List.mem_of_getElem? (i := 91) (by decide +kernel)) rfl
theorem w_fl_X5_135 : (Cond.fieldLink RX5 135 "CamDrum$Cylinders" "speed" "[I") ∈ wsG := wsT1 _ (List.mem_of_getElem? (i := 92) (by decide +kernel)) rfl
theorem w_fl_X2_21 : (Cond.fieldLink RX2 21 "CamDrum$Cylinders" "leak" "[I") ∈ wsG := wsT1 _ (List.mem_of_getElem? (i := 93) (by decide +kernel)) rfl
theorem w_fl_X7_88 : (Cond.fieldLink RX7 88 "CamDrum$Cylinders" "leak" "[I") ∈ wsG := wsT1 _ (List.mem_of_getElem? (i := 94) (by decide +kernel)) rfl
theorem w_fl_X5_165 : (Cond.fieldLink RX5 165 "CamDrum$Cylinders" "leak" "[I") ∈ wsG := wsT1 _ (List.mem_of_getElem? (i := 95) (by decide +kernel)) rfl
theorem w_fl_X2_24 : (Cond.fieldLink RX2 24 "CamDrum$Cylinders" "used" "[I") ∈ wsG := wsT1 _ (List.mem_of_getElem? (i := 96) (by decide +kernel)) rfl
theorem w_fl_X5_156 : (Cond.fieldLink RX5 156 "CamDrum$Cylinders" "used" "[I") ∈ wsG := wsT1 _ (List.mem_of_getElem? (i := 97) (by decide +kernel)) rfl
theorem w_fl_X2_27 : (Cond.fieldLink RX2 27 "CamDrum$Cylinders" "leaked" "[I") ∈ wsG := wsT1 _ (List.mem_of_getElem? (i := 98) (by decide +kernel)) rfl
theorem w_fl_X5_162 : (Cond.fieldLink RX5 162 "CamDrum$Cylinders" "leaked" "[I") ∈ wsG := wsT1 _ (List.mem_of_getElem? (i := 99) (by decide +kernel)) rfl
theorem w_ly_X2_out : (Cond.laysFinal "CamDrum$Cylinders" "CamDrum$Cylinders" "out" "[I") ∈ wsG := wsT1 _ (List.mem_of_getElem? (i := 100) (by decide +kernel)) rfl
theorem w_ly_X2_size : (Cond.laysFinal "CamDrum$Cylinders" "CamDrum$Cylinders" "size" "[I") ∈ wsG := wsT1 _ (List.mem_of_getElem? (i := 102) (by decide +kernel)) rfl
theorem w_ly_X2_speed : (Cond.laysFinal "CamDrum$Cylinders" "CamDrum$Cylinders" "speed" "[I") ∈ wsG := wsT1 _ (List.mem_of_getElem? (i := 104) (by decide +kernel)) rfl
theorem w_ly_X2_leak : (Cond.laysFinal "CamDrum$Cylinders" "CamDrum$Cylinders" "leak" "[I") ∈ wsG := wsT1 _ (List.mem_of_getElem? (i := 106) (by decide +kernel)) rfl
theorem w_ly_X2_used : (Cond.laysFinal "CamDrum$Cylinders" "CamDrum$Cylinders" "used" "[I") ∈ wsG := wsT1 _ (List.mem_of_getElem? (i := 108) (by decide +kernel)) rfl
theorem w_ly_X2_leaked : (Cond.laysFinal "CamDrum$Cylinders" "CamDrum$Cylinders" "leaked" "[I") ∈ wsG := wsT1 _ (List.mem_of_getElem? (i := 110) (by decide +kernel)) rfl
theorem w_cl_X5_39 : (Cond.classLink RX5 39 RX3) ∈ wsG := wsT1 _ (List.mem_of_getElem? (i := 113) (by decide +kernel)) rfl
theorem w_is_X3 : (Cond.instantiable RX3 4) ∈ wsG := wsT1 _ (List.mem_of_getElem? (i := 114) (by decide +kernel)) rfl
theorem w_im_yX3_init : (Cond.instanceMethod yX3_init) ∈ wsG := wsT1 _ (List.mem_of_getElem? (i := 116) (by decide +kernel)) rfl
theorem w_co_yX3_init : (Cond.code yX3_init cX3_init 1 none) ∈ wsG := wsT1 _ (List.mem_of_getElem? (i := 117) (by decide +kernel)) rfl
theorem w_ml_X3_3 : (Cond.methodLink RX3 3 objectInit) ∈ wsG := wsT1 _ (List.mem_of_getElem? (i := 118) (by decide +kernel)) rfl
theorem w_fl_X3_9 : (Cond.fieldLink RX3 9 "CamDrum$Guards" "guarded" "[I") ∈ wsG := wsT1 _ (List.mem_of_getElem? (i := 119) (by decide +kernel)) rfl
theorem w_fl_X5_174 : (Cond.fieldLink RX5 174 "CamDrum$Guards" "guarded" "[I") ∈ wsG := wsT1 _ (List.mem_of_getElem? (i := 120) (by decide +kernel)) rfl
theorem w_fl_X3_15 : (Cond.fieldLink RX3 15 "CamDrum$Guards" "other" "[I") ∈ wsG := wsT1 _ (List.mem_of_getElem? (i := 121) (by decide +kernel)) rfl
theorem w_fl_X5_184 : (Cond.fieldLink RX5 184 "CamDrum$Guards" "other" "[I") ∈ wsG := wsT1 _ (List.mem_of_getElem? (i := 122) (by decide +kernel)) rfl
theorem w_fl_X3_18 : (Cond.fieldLink RX3 18 "CamDrum$Guards" "bound" "[I") ∈ wsG := wsT1 _ (List.mem_of_getElem? (i := 123) (by decide +kernel)) rfl
theorem w_fl_X5_181 : (Cond.fieldLink RX5 181 "CamDrum$Guards" "bound" "[I") ∈ wsG := wsT1 _ (List.mem_of_getElem? (i := 124) (by decide +kernel)) rfl
theorem w_fl_X3_25 : (Cond.fieldLink RX3 25 "CamDrum$Guards" "count" "I") ∈ wsG := wsT1 _ (List.mem_of_getElem? (i := 125) (by decide +kernel)) rfl
theorem w_fl_X7_120 : (Cond.fieldLink RX7 120 "CamDrum$Guards" "count" "I") ∈ wsG := wsT1 _ (List.mem_of_getElem? (i := 126) (by decide +kernel)) rfl
theorem w_fl_X5_171 : (Cond.fieldLink RX5 171 "CamDrum$Guards" "count" "I") ∈ wsG := wsT1 _ (List.mem_of_getElem? (i := 127) (by decide +kernel)) rfl
theorem w_ly_X3_guarded : (Cond.laysFinal "CamDrum$Guards" "CamDrum$Guards" "guarded" "[I") ∈ wsG := wsT1 _ (List.mem_of_getElem? (i := 128) (by decide +kernel)) rfl
theorem w_ly_X3_other : (Cond.laysFinal "CamDrum$Guards" "CamDrum$Guards" "other" "[I") ∈ wsG := wsT1 _ (List.mem_of_getElem? (i := 130) (by decide +kernel)) rfl
theorem w_ly_X3_bound : (Cond.laysFinal "CamDrum$Guards" "CamDrum$Guards" "bound" "[I") ∈ wsG := wsT1 _ (List.mem_of_getElem? (i := 132) (by decide +kernel)) rfl
theorem w_ly_X3_count : (Cond.lays "CamDrum$Guards" "CamDrum$Guards" "count" "I") ∈ wsG := wsT1 _ (List.mem_of_getElem? (i := 134) (by decide +kernel)) rfl
theorem w_cl_X5_46 : (Cond.classLink RX5 46 RX1) ∈ wsG := wsT1 _ (List.mem_of_getElem? (i := 137) (by decide +kernel)) rfl
theorem w_is_X1 : (Cond.instantiable RX1 2) ∈ wsG := wsT1 _ (List.mem_of_getElem? (i := 138) (by decide +kernel)) rfl
theorem w_ml_X5_48 : (Cond.methodLink RX5 48 yX1_init) ∈ wsG := wsT1 _ (List.mem_of_getElem? (i := 139) (by decide +kernel)) rfl
theorem w_im_yX1_init : (Cond.instanceMethod yX1_init) ∈ wsG := wsT1 _ (List.mem_of_getElem? (i := 140) (by decide +kernel)) rfl
theorem w_co_yX1_init : (Cond.code yX1_init cX1_init 1 none) ∈ wsG := wsT1 _ (List.mem_of_getElem? (i := 141) (by decide +kernel)) rfl
theorem w_ml_X1_3 : (Cond.methodLink RX1 3 objectInit) ∈ wsG := wsT1 _ (List.mem_of_getElem? (i := 142) (by decide +kernel)) rfl
theorem w_ml_X1_18 : (Cond.methodLink RX1 18 yJ7_fill_53178) ∈ wsG := wsT1 _ (List.mem_of_getElem? (i := 143) (by decide +kernel)) rfl
theorem w_fl_X1_9 : (Cond.fieldLink RX1 9 "CamDrum$Chart" "out" "[I") ∈ wsG := wsT1 _ (List.mem_of_getElem? (i := 144) (by decide +kernel)) rfl
theorem w_fl_X1_15 : (Cond.fieldLink RX1 15 "CamDrum$Chart" "skipped" "[I") ∈ wsG := wsT1 _ (List.mem_of_getElem? (i := 145) (by decide +kernel)) rfl
theorem w_ly_X1_out : (Cond.laysFinal "CamDrum$Chart" "CamDrum$Chart" "out" "[I") ∈ wsG := wsT1 _ (List.mem_of_getElem? (i := 146) (by decide +kernel)) rfl
theorem w_ly_X1_skipped : (Cond.laysFinal "CamDrum$Chart" "CamDrum$Chart" "skipped" "[I") ∈ wsG := wsT1 _ (List.mem_of_getElem? (i := 148) (by decide +kernel)) rfl
theorem w_fl_X5_9 : (Cond.fieldLink RX5 9 "CamDrum$Machine" "steps" "I") ∈ wsG := wsT1 _ (List.mem_of_getElem? (i := 151) (by decide +kernel)) rfl
theorem w_fl_X7_223 : (Cond.fieldLink RX7 223 "CamDrum$Machine" "steps" "I") ∈ wsG := wsT1 _ (List.mem_of_getElem? (i := 152) (by decide +kernel)) rfl
theorem w_fl_X5_53 : (Cond.fieldLink RX5 53 "CamDrum$Machine" "step" "I") ∈ wsG := wsT1 _ (List.mem_of_getElem? (i := 153) (by decide +kernel)) rfl
theorem w_fl_X7_140 : (Cond.fieldLink RX7 140 "CamDrum$Machine" "step" "I") ∈ wsG := wsT1 _ (List.mem_of_getElem? (i := 154) (by decide +kernel)) rfl
theorem w_fl_X5_56 : (Cond.fieldLink RX5 56 "CamDrum$Machine" "stand" "I") ∈ wsG := wsT1 _ (List.mem_of_getElem? (i := 155) (by decide +kernel)) rfl
theorem w_fl_X5_15 : (Cond.fieldLink RX5 15 "CamDrum$Machine" "dwell" "I") ∈ wsG := wsT1 _ (List.mem_of_getElem? (i := 156) (by decide +kernel)) rfl
theorem w_fl_X7_66 : (Cond.fieldLink RX7 66 "CamDrum$Machine" "dwell" "I") ∈ wsG := wsT1 _ (List.mem_of_getElem? (i := 157) (by decide +kernel)) rfl
theorem w_fl_X5_18 : (Cond.fieldLink RX5 18 "CamDrum$Machine" "least" "I") ∈ wsG := wsT1 _ (List.mem_of_getElem? (i := 158) (by decide +kernel)) rfl
theorem w_fl_X7_70 : (Cond.fieldLink RX7 70 "CamDrum$Machine" "least" "I") ∈ wsG := wsT1 _ (List.mem_of_getElem? (i := 159) (by decide +kernel)) rfl
theorem w_fl_X5_59 : (Cond.fieldLink RX5 59 "CamDrum$Machine" "ticks" "I") ∈ wsG := wsT1 _ (List.mem_of_getElem? (i := 160) (by decide +kernel)) rfl
theorem w_fl_X7_148 : (Cond.fieldLink RX7 148 "CamDrum$Machine" "ticks" "I") ∈ wsG := wsT1 _ (List.mem_of_getElem? (i := 161) (by decide +kernel)) rfl
theorem w_fl_X5_62 : (Cond.fieldLink RX5 62 "CamDrum$Machine" "cycles" "I") ∈ wsG := wsT1 _ (List.mem_of_getElem? (i := 162) (by decide +kernel)) rfl
theorem w_fl_X7_154 : (Cond.fieldLink RX7 154 "CamDrum$Machine" "cycles" "I") ∈ wsG := wsT1 _ (List.mem_of_getElem? (i := 163) (by decide +kernel)) rfl
theorem w_fl_X5_65 : (Cond.fieldLink RX5 65 "CamDrum$Machine" "skipped" "I") ∈ wsG := wsT1 _ (List.mem_of_getElem? (i := 164) (by decide +kernel)) rfl
theorem w_fl_X5_21 : (Cond.fieldLink RX5 21 "CamDrum$Machine" "tracks" "[I") ∈ wsG := wsT1 _ (List.mem_of_getElem? (i := 165) (by decide +kernel)) rfl
theorem w_fl_X5_28 : (Cond.fieldLink RX5 28 "CamDrum$Machine" "air" "LCamDrum$Air;") ∈ wsG := wsT1 _ (List.mem_of_getElem? (i := 166) (by decide +kernel)) rfl
theorem w_fl_X7_96 : (Cond.fieldLink RX7 96 "CamDrum$Machine" "air" "LCamDrum$Air;") ∈ wsG := wsT1 _ (List.mem_of_getElem? (i := 167) (by decide +kernel)) rfl
theorem w_fl_X5_35 : (Cond.fieldLink RX5 35 "CamDrum$Machine" "cylinders" "LCamDrum$Cylinders;") ∈ wsG := wsT1 _ (List.mem_of_getElem? (i := 168) (by decide +kernel)) rfl
theorem w_fl_X7_75 : (Cond.fieldLink RX7 75 "CamDrum$Machine" "cylinders" "LCamDrum$Cylinders;") ∈ wsG := wsT1 _ (List.mem_of_getElem? (i := 169) (by decide +kernel)) rfl
theorem w_fl_X5_42 : (Cond.fieldLink RX5 42 "CamDrum$Machine" "guards" "LCamDrum$Guards;") ∈ wsG := wsT1 _ (List.mem_of_getElem? (i := 170) (by decide +kernel)) rfl
theorem w_fl_X7_116 : (Cond.fieldLink RX7 116 "CamDrum$Machine" "guards" "LCamDrum$Guards;") ∈ wsG := wsT1 _ (List.mem_of_getElem? (i := 171) (by decide +kernel)) rfl
theorem w_fl_X5_49 : (Cond.fieldLink RX5 49 "CamDrum$Machine" "chart" "LCamDrum$Chart;") ∈ wsG := wsT1 _ (List.mem_of_getElem? (i := 172) (by decide +kernel)) rfl
theorem w_fl_X7_179 : (Cond.fieldLink RX7 179 "CamDrum$Machine" "chart" "LCamDrum$Chart;") ∈ wsG := wsT1 _ (List.mem_of_getElem? (i := 173) (by decide +kernel)) rfl
theorem w_ly_X5_steps : (Cond.lays "CamDrum$Machine" "CamDrum$Machine" "steps" "I") ∈ wsG := wsT1 _ (List.mem_of_getElem? (i := 174) (by decide +kernel)) rfl
theorem w_ly_X5_step : (Cond.lays "CamDrum$Machine" "CamDrum$Machine" "step" "I") ∈ wsG := wsT1 _ (List.mem_of_getElem? (i := 176) (by decide +kernel)) rfl
theorem w_ly_X5_stand : (Cond.lays "CamDrum$Machine" "CamDrum$Machine" "stand" "I") ∈ wsG := wsT1 _ (List.mem_of_getElem? (i := 178) (by decide +kernel)) rfl
theorem w_ly_X5_dwell : (Cond.lays "CamDrum$Machine" "CamDrum$Machine" "dwell" "I") ∈ wsG := wsT1 _ (List.mem_of_getElem? (i := 180) (by decide +kernel)) rfl
theorem w_ly_X5_least : (Cond.lays "CamDrum$Machine" "CamDrum$Machine" "least" "I") ∈ wsG := wsT1 _ (List.mem_of_getElem? (i := 182) (by decide +kernel)) rfl
theorem w_ly_X5_ticks : (Cond.lays "CamDrum$Machine" "CamDrum$Machine" "ticks" "I") ∈ wsG := wsT1 _ (List.mem_of_getElem? (i := 184) (by decide +kernel)) rfl
theorem w_ly_X5_cycles : (Cond.lays "CamDrum$Machine" "CamDrum$Machine" "cycles" "I") ∈ wsG := wsT1 _ (List.mem_of_getElem? (i := 186) (by decide +kernel)) rfl
theorem w_ly_X5_skipped : (Cond.lays "CamDrum$Machine" "CamDrum$Machine" "skipped" "I") ∈ wsG := wsT1 _ (List.mem_of_getElem? (i := 188) (by decide +kernel)) rfl
theorem w_ly_X5_tracks : (Cond.laysFinal "CamDrum$Machine" "CamDrum$Machine" "tracks" "[I") ∈ wsG := wsT1 _ (List.mem_of_getElem? (i := 190) (by decide +kernel)) rfl
theorem w_ly_X5_air : (Cond.laysFinal "CamDrum$Machine" "CamDrum$Machine" "air" "LCamDrum$Air;") ∈ wsG := wsT1 _ (List.mem_of_getElem? (i := 192) (by decide +kernel)) rfl
theorem w_ly_X5_cylinders : (Cond.laysFinal "CamDrum$Machine" "CamDrum$Machine" "cylinders" "LCamDrum$Cylinders;") ∈ wsG := wsT1 _ (List.mem_of_getElem? (i := 194) (by decide +kernel)) rfl
theorem w_ly_X5_guards : (Cond.laysFinal "CamDrum$Machine" "CamDrum$Machine" "guards" "LCamDrum$Guards;") ∈ wsG := wsT1 _ (List.mem_of_getElem? (i := 196) (by decide +kernel)) rfl
theorem w_ly_X5_chart : (Cond.laysFinal "CamDrum$Machine" "CamDrum$Machine" "chart" "LCamDrum$Chart;") ∈ wsG := wsT1 _ (List.mem_of_getElem? (i := 198) (by decide +kernel)) rfl
theorem w_cl_X7_16 : (Cond.classLink RX7 16 RX4) ∈ wsG := wsT1 _ (List.mem_of_getElem? (i := 201) (by decide +kernel)) rfl
theorem w_is_X4 : (Cond.instantiable RX4 3) ∈ wsG := wsT1 _ (List.mem_of_getElem? (i := 202) (by decide +kernel)) rfl
theorem w_ml_X7_18 : (Cond.methodLink RX7 18 yX4_init) ∈ wsG := wsT1 _ (List.mem_of_getElem? (i := 203) (by decide +kernel)) rfl
theorem w_im_yX4_init : (Cond.instanceMethod yX4_init) ∈ wsG := wsT1 _ (List.mem_of_getElem? (i := 204) (by decide +kernel)) rfl
theorem w_co_yX4_init : (Cond.code yX4_init cX4_init 2 none) ∈ wsG := wsT1 _ (List.mem_of_getElem? (i := 205) (by decide +kernel)) rfl
theorem w_ml_X4_3 : (Cond.methodLink RX4 3 objectInit) ∈ wsG := wsT1 _ (List.mem_of_getElem? (i := 206) (by decide +kernel)) rfl
theorem w_cl_X4_9 : (Cond.classLink RX4 9 RX5) ∈ wsG := wsT1 _ (List.mem_of_getElem? (i := 207) (by decide +kernel)) rfl
theorem w_fl_X4_11 : (Cond.fieldLink RX4 11 "CamDrum$History" "kept" "[LCamDrum$Machine;") ∈ wsG := wsT1 _ (List.mem_of_getElem? (i := 210) (by decide +kernel)) rfl
theorem w_fl_X4_18 : (Cond.fieldLink RX4 18 "CamDrum$History" "newest" "I") ∈ wsG := wsT1 _ (List.mem_of_getElem? (i := 211) (by decide +kernel)) rfl
theorem w_fl_X4_22 : (Cond.fieldLink RX4 22 "CamDrum$History" "count" "I") ∈ wsG := wsT1 _ (List.mem_of_getElem? (i := 212) (by decide +kernel)) rfl
theorem w_fl_X7_236 : (Cond.fieldLink RX7 236 "CamDrum$History" "count" "I") ∈ wsG := wsT1 _ (List.mem_of_getElem? (i := 213) (by decide +kernel)) rfl
theorem w_ly_X4_kept : (Cond.laysFinal "CamDrum$History" "CamDrum$History" "kept" "[LCamDrum$Machine;") ∈ wsG := wsT1 _ (List.mem_of_getElem? (i := 214) (by decide +kernel)) rfl
theorem w_ly_X4_newest : (Cond.lays "CamDrum$History" "CamDrum$History" "newest" "I") ∈ wsG := wsT1 _ (List.mem_of_getElem? (i := 216) (by decide +kernel)) rfl
theorem w_ly_X4_count : (Cond.lays "CamDrum$History" "CamDrum$History" "count" "I") ∈ wsG := wsT1 _ (List.mem_of_getElem? (i := 218) (by decide +kernel)) rfl
theorem w_cl_X7_23 : (Cond.classLink RX7 23 RX6) ∈ wsG := wsT1 _ (List.mem_of_getElem? (i := 221) (by decide +kernel)) rfl
theorem w_is_X6 : (Cond.instantiable RX6 6) ∈ wsG := wsT1 _ (List.mem_of_getElem? (i := 222) (by decide +kernel)) rfl
theorem w_im_yX6_init : (Cond.instanceMethod yX6_init) ∈ wsG := wsT1 _ (List.mem_of_getElem? (i := 224) (by decide +kernel)) rfl
theorem w_co_yX6_init : (Cond.code yX6_init cX6_init 1 none) ∈ wsG := wsT1 _ (List.mem_of_getElem? (i := 225) (by decide +kernel)) rfl
theorem w_ml_X6_3 : (Cond.methodLink RX6 3 objectInit) ∈ wsG := wsT1 _ (List.mem_of_getElem? (i := 226) (by decide +kernel)) rfl
theorem w_fl_X6_9 : (Cond.fieldLink RX6 9 "CamDrum$TrackText" "bytes" "[I") ∈ wsG := wsT1 _ (List.mem_of_getElem? (i := 227) (by decide +kernel)) rfl
theorem w_fl_X6_41 : (Cond.fieldLink RX6 41 "CamDrum$TrackText" "length" "I") ∈ wsG := wsT1 _ (List.mem_of_getElem? (i := 228) (by decide +kernel)) rfl
theorem w_fl_X7_216 : (Cond.fieldLink RX7 216 "CamDrum$TrackText" "length" "I") ∈ wsG := wsT1 _ (List.mem_of_getElem? (i := 229) (by decide +kernel)) rfl
theorem w_fl_X6_15 : (Cond.fieldLink RX6 15 "CamDrum$TrackText" "tracks" "[I") ∈ wsG := wsT1 _ (List.mem_of_getElem? (i := 230) (by decide +kernel)) rfl
theorem w_fl_X5_94 : (Cond.fieldLink RX5 94 "CamDrum$TrackText" "tracks" "[I") ∈ wsG := wsT1 _ (List.mem_of_getElem? (i := 231) (by decide +kernel)) rfl
theorem w_fl_X6_18 : (Cond.fieldLink RX6 18 "CamDrum$TrackText" "steps" "I") ∈ wsG := wsT1 _ (List.mem_of_getElem? (i := 232) (by decide +kernel)) rfl
theorem w_fl_X5_91 : (Cond.fieldLink RX5 91 "CamDrum$TrackText" "steps" "I") ∈ wsG := wsT1 _ (List.mem_of_getElem? (i := 233) (by decide +kernel)) rfl
theorem w_fl_X6_22 : (Cond.fieldLink RX6 22 "CamDrum$TrackText" "fault" "I") ∈ wsG := wsT1 _ (List.mem_of_getElem? (i := 234) (by decide +kernel)) rfl
theorem w_fl_X7_229 : (Cond.fieldLink RX7 229 "CamDrum$TrackText" "fault" "I") ∈ wsG := wsT1 _ (List.mem_of_getElem? (i := 235) (by decide +kernel)) rfl
theorem w_fl_X6_25 : (Cond.fieldLink RX6 25 "CamDrum$TrackText" "at" "I") ∈ wsG := wsT1 _ (List.mem_of_getElem? (i := 236) (by decide +kernel)) rfl
theorem w_ly_X6_bytes : (Cond.laysFinal "CamDrum$TrackText" "CamDrum$TrackText" "bytes" "[I") ∈ wsG := wsT1 _ (List.mem_of_getElem? (i := 237) (by decide +kernel)) rfl
theorem w_ly_X6_length : (Cond.lays "CamDrum$TrackText" "CamDrum$TrackText" "length" "I") ∈ wsG := wsT1 _ (List.mem_of_getElem? (i := 239) (by decide +kernel)) rfl
theorem w_ly_X6_tracks : (Cond.laysFinal "CamDrum$TrackText" "CamDrum$TrackText" "tracks" "[I") ∈ wsG := wsT2 _ (List.mem_of_getElem? (i := 1) (by decide +kernel)) rfl
theorem w_ly_X6_steps : (Cond.lays "CamDrum$TrackText" "CamDrum$TrackText" "steps" "I") ∈ wsG := wsT2 _ (List.mem_of_getElem? (i := 3) (by decide +kernel)) rfl
theorem w_ly_X6_fault : (Cond.lays "CamDrum$TrackText" "CamDrum$TrackText" "fault" "I") ∈ wsG := wsT2 _ (List.mem_of_getElem? (i := 5) (by decide +kernel)) rfl
theorem w_ly_X6_at : (Cond.lays "CamDrum$TrackText" "CamDrum$TrackText" "at" "I") ∈ wsG := wsT2 _ (List.mem_of_getElem? (i := 7) (by decide +kernel)) rfl
theorem w_fl_X7_10 : (Cond.fieldLink RX7 10 "CamDrum" "now" "LCamDrum$Machine;") ∈ wsG := wsT2 _ (List.mem_of_getElem? (i := 10) (by decide +kernel)) rfl
theorem w_fl_X7_19 : (Cond.fieldLink RX7 19 "CamDrum" "history" "LCamDrum$History;") ∈ wsG := wsT2 _ (List.mem_of_getElem? (i := 11) (by decide +kernel)) rfl
theorem w_fl_X7_26 : (Cond.fieldLink RX7 26 "CamDrum" "text" "LCamDrum$TrackText;") ∈ wsG := wsT2 _ (List.mem_of_getElem? (i := 12) (by decide +kernel)) rfl
theorem w_fl_X7_30 : (Cond.fieldLink RX7 30 "CamDrum" "trial" "LCamDrum$Machine;") ∈ wsG := wsT2 _ (List.mem_of_getElem? (i := 13) (by decide +kernel)) rfl
theorem w_fl_X7_33 : (Cond.fieldLink RX7 33 "CamDrum" "earlier" "LCamDrum$Machine;") ∈ wsG := wsT2 _ (List.mem_of_getElem? (i := 14) (by decide +kernel)) rfl
theorem w_ly_X7_now : (Cond.laysFinal "CamDrum" "CamDrum" "now" "LCamDrum$Machine;") ∈ wsG := wsT2 _ (List.mem_of_getElem? (i := 15) (by decide +kernel)) rfl
theorem w_ly_X7_history : (Cond.laysFinal "CamDrum" "CamDrum" "history" "LCamDrum$History;") ∈ wsG := wsT2 _ (List.mem_of_getElem? (i := 17) (by decide +kernel)) rfl
theorem w_ly_X7_text : (Cond.laysFinal "CamDrum" "CamDrum" "text" "LCamDrum$TrackText;") ∈ wsG := wsT2 _ (List.mem_of_getElem? (i := 19) (by decide +kernel)) rfl
theorem w_ly_X7_trial : (Cond.laysFinal "CamDrum" "CamDrum" "trial" "LCamDrum$Machine;") ∈ wsG := wsT2 _ (List.mem_of_getElem? (i := 21) (by decide +kernel)) rfl
theorem w_ly_X7_earlier : (Cond.laysFinal "CamDrum" "CamDrum" "earlier" "LCamDrum$Machine;") ∈ wsG := wsT2 _ (List.mem_of_getElem? (i := 23) (by decide +kernel)) rfl
theorem w_ml_L_135 : (Cond.methodLink RL 135 yX7_ticksToCycle) ∈ wsG := wsT2 _ (List.mem_of_getElem? (i := 26) (by decide +kernel)) rfl
theorem w_im_yX7_ticksToCycle : (Cond.instanceMethod yX7_ticksToCycle) ∈ wsG := wsT2 _ (List.mem_of_getElem? (i := 27) (by decide +kernel)) rfl
theorem w_se_yX7_ticksToCycle : (Cond.selects RX7 yX7_ticksToCycle yX7_ticksToCycle) ∈ wsG := wsT2 _ (List.mem_of_getElem? (i := 28) (by decide +kernel)) rfl
theorem w_co_yX7_ticksToCycle : (Cond.code yX7_ticksToCycle cX7_ticksToCycle 1 (some FieldType.int)) ∈ wsG := wsT2 _ (List.mem_of_getElem? (i := 29) (by decide +kernel)) rfl
theorem w_ml_X7_191 : (Cond.methodLink RX7 191 yX5_copyFrom) ∈ wsG := wsT2 _ (List.mem_of_getElem? (i := 30) (by decide +kernel)) rfl
theorem w_im_yX5_copyFrom : (Cond.instanceMethod yX5_copyFrom) ∈ wsG := wsT2 _ (List.mem_of_getElem? (i := 31) (by decide +kernel)) rfl
theorem w_se_yX5_copyFrom : (Cond.selects RX5 yX5_copyFrom yX5_copyFrom) ∈ wsG := wsT2 _ (List.mem_of_getElem? (i := 32) (by decide +kernel)) rfl
theorem w_co_yX5_copyFrom : (Cond.code yX5_copyFrom cX5_copyFrom 2 none) ∈ wsG := wsT2 _ (List.mem_of_getElem? (i := 33) (by decide +kernel)) rfl
theorem w_st_yX7_copyRow : (Cond.static yX7_copyRow) ∈ wsG := wsT2 _ (List.mem_of_getElem? (i := 35) (by decide +kernel)) rfl
theorem w_co_yX7_copyRow : (Cond.code yX7_copyRow cX7_copyRow 2 none) ∈ wsG := wsT2 _ (List.mem_of_getElem? (i := 36) (by decide +kernel)) rfl
theorem w_ml_X7_268 : (Cond.methodLink RX7 268 Lib.Math.min.name) ∈ wsG := wsT2 _ (List.mem_of_getElem? (i := 37) (by decide +kernel)) rfl
theorem w_st_Mmin : (Cond.static Lib.Math.min.name) ∈ wsG := wsT2 _ (List.mem_of_getElem? (i := 38) (by decide +kernel)) rfl
theorem w_co_Mmin : (Cond.code Lib.Math.min.name Lib.Math.min.code 2 (some FieldType.int)) ∈ wsG := wsT2 _ (List.mem_of_getElem? (i := 39) (by decide +kernel)) rfl
theorem w_ml_X7_289 : (Cond.methodLink RX7 289 arraycopyName) ∈ wsG := wsT2 _ (List.mem_of_getElem? (i := 40) (by decide +kernel)) rfl
theorem w_st_arraycopyName : (Cond.static arraycopyName) ∈ wsG := wsT2 _ (List.mem_of_getElem? (i := 41) (by decide +kernel)) rfl
theorem w_na_arraycopyName : (Cond.native arraycopyName) ∈ wsG := wsT2 _ (List.mem_of_getElem? (i := 42) (by decide +kernel)) rfl
theorem w_ml_X5_72 : (Cond.methodLink RX5 72 yX0_copyFrom) ∈ wsG := wsT2 _ (List.mem_of_getElem? (i := 43) (by decide +kernel)) rfl
theorem w_im_yX0_copyFrom : (Cond.instanceMethod yX0_copyFrom) ∈ wsG := wsT2 _ (List.mem_of_getElem? (i := 44) (by decide +kernel)) rfl
theorem w_se_yX0_copyFrom : (Cond.selects RX0 yX0_copyFrom yX0_copyFrom) ∈ wsG := wsT2 _ (List.mem_of_getElem? (i := 45) (by decide +kernel)) rfl
theorem w_co_yX0_copyFrom : (Cond.code yX0_copyFrom cX0_copyFrom 2 none) ∈ wsG := wsT2 _ (List.mem_of_getElem? (i := 46) (by decide +kernel)) rfl
theorem w_ml_X5_76 : (Cond.methodLink RX5 76 yX2_copyFrom) ∈ wsG := wsT2 _ (List.mem_of_getElem? (i := 47) (by decide +kernel)) rfl
theorem w_im_yX2_copyFrom : (Cond.instanceMethod yX2_copyFrom) ∈ wsG := wsT2 _ (List.mem_of_getElem? (i := 48) (by decide +kernel)) rfl
theorem w_se_yX2_copyFrom : (Cond.selects RX2 yX2_copyFrom yX2_copyFrom) ∈ wsG := wsT2 _ (List.mem_of_getElem? (i := 49) (by decide +kernel)) rfl
theorem w_co_yX2_copyFrom : (Cond.code yX2_copyFrom cX2_copyFrom 2 none) ∈ wsG := wsT2 _ (List.mem_of_getElem? (i := 50) (by decide +kernel)) rfl
theorem w_ml_X5_79 : (Cond.methodLink RX5 79 yX3_copyFrom) ∈ wsG := wsT2 _ (List.mem_of_getElem? (i := 52) (by decide +kernel)) rfl
theorem w_im_yX3_copyFrom : (Cond.instanceMethod yX3_copyFrom) ∈ wsG := wsT2 _ (List.mem_of_getElem? (i := 53) (by decide +kernel)) rfl
theorem w_se_yX3_copyFrom : (Cond.selects RX3 yX3_copyFrom yX3_copyFrom) ∈ wsG := wsT2 _ (List.mem_of_getElem? (i := 54) (by decide +kernel)) rfl
theorem w_co_yX3_copyFrom : (Cond.code yX3_copyFrom cX3_copyFrom 2 none) ∈ wsG := wsT2 _ (List.mem_of_getElem? (i := 55) (by decide +kernel)) rfl
theorem w_ml_X5_82 : (Cond.methodLink RX5 82 yX1_copyFrom) ∈ wsG := wsT2 _ (List.mem_of_getElem? (i := 57) (by decide +kernel)) rfl
theorem w_im_yX1_copyFrom : (Cond.instanceMethod yX1_copyFrom) ∈ wsG := wsT2 _ (List.mem_of_getElem? (i := 58) (by decide +kernel)) rfl
theorem w_se_yX1_copyFrom : (Cond.selects RX1 yX1_copyFrom yX1_copyFrom) ∈ wsG := wsT2 _ (List.mem_of_getElem? (i := 59) (by decide +kernel)) rfl
theorem w_co_yX1_copyFrom : (Cond.code yX1_copyFrom cX1_copyFrom 2 none) ∈ wsG := wsT2 _ (List.mem_of_getElem? (i := 60) (by decide +kernel)) rfl
theorem w_ml_X7_194 : (Cond.methodLink RX7 194 yX5_tickUntilCycleEnds) ∈ wsG := wsT2 _ (List.mem_of_getElem? (i := 62) (by decide +kernel)) rfl
theorem w_im_yX5_tickUntilCycleEnds : (Cond.instanceMethod yX5_tickUntilCycleEnds) ∈ wsG := wsT2 _ (List.mem_of_getElem? (i := 63) (by decide +kernel)) rfl
theorem w_se_yX5_tickUntilCycleEnds : (Cond.selects RX5 yX5_tickUntilCycleEnds yX5_tickUntilCycleEnds) ∈ wsG := wsT2 _ (List.mem_of_getElem? (i := 64) (by decide +kernel)) rfl
theorem w_co_yX5_tickUntilCycleEnds : (Cond.code yX5_tickUntilCycleEnds cX5_tickUntilCycleEnds 3 (some FieldType.int)) ∈ wsG := wsT2 _ (List.mem_of_getElem? (i := 65) (by decide +kernel)) rfl
theorem w_ml_X5_187 : (Cond.methodLink RX5 187 yX5_tick) ∈ wsG := wsT2 _ (List.mem_of_getElem? (i := 66) (by decide +kernel)) rfl
theorem w_im_yX5_tick : (Cond.instanceMethod yX5_tick) ∈ wsG := wsT2 _ (List.mem_of_getElem? (i := 67) (by decide +kernel)) rfl
theorem w_se_yX5_tick : (Cond.selects RX5 yX5_tick yX5_tick) ∈ wsG := wsT2 _ (List.mem_of_getElem? (i := 68) (by decide +kernel)) rfl
theorem w_co_yX5_tick : (Cond.code yX5_tick cX5_tick 3 (some FieldType.int)) ∈ wsG := wsT2 _ (List.mem_of_getElem? (i := 69) (by decide +kernel)) rfl
theorem w_ml_X5_102 : (Cond.methodLink RX5 102 yX0_compress) ∈ wsG := wsT2 _ (List.mem_of_getElem? (i := 70) (by decide +kernel)) rfl
theorem w_im_yX0_compress : (Cond.instanceMethod yX0_compress) ∈ wsG := wsT2 _ (List.mem_of_getElem? (i := 71) (by decide +kernel)) rfl
theorem w_se_yX0_compress : (Cond.selects RX0 yX0_compress yX0_compress) ∈ wsG := wsT2 _ (List.mem_of_getElem? (i := 72) (by decide +kernel)) rfl
theorem w_co_yX0_compress : (Cond.code yX0_compress cX0_compress 1 none) ∈ wsG := wsT2 _ (List.mem_of_getElem? (i := 73) (by decide +kernel)) rfl
theorem w_ml_X0_33 : (Cond.methodLink RX0 33 yX0_letOffSurplus) ∈ wsG := wsT2 _ (List.mem_of_getElem? (i := 74) (by decide +kernel)) rfl
theorem w_im_yX0_letOffSurplus : (Cond.instanceMethod yX0_letOffSurplus) ∈ wsG := wsT2 _ (List.mem_of_getElem? (i := 75) (by decide +kernel)) rfl
theorem w_se_yX0_letOffSurplus : (Cond.selects RX0 yX0_letOffSurplus yX0_letOffSurplus) ∈ wsG := wsT2 _ (List.mem_of_getElem? (i := 76) (by decide +kernel)) rfl
theorem w_co_yX0_letOffSurplus : (Cond.code yX0_letOffSurplus cX0_letOffSurplus 2 none) ∈ wsG := wsT2 _ (List.mem_of_getElem? (i := 77) (by decide +kernel)) rfl
theorem w_ml_X0_36 : (Cond.methodLink RX0 36 Lib.Math.max.name) ∈ wsG := wsT2 _ (List.mem_of_getElem? (i := 78) (by decide +kernel)) rfl
theorem w_st_Mmax : (Cond.static Lib.Math.max.name) ∈ wsG := wsT2 _ (List.mem_of_getElem? (i := 79) (by decide +kernel)) rfl
theorem w_co_Mmax : (Cond.code Lib.Math.max.name Lib.Math.max.code 2 (some FieldType.int)) ∈ wsG := wsT2 _ (List.mem_of_getElem? (i := 80) (by decide +kernel)) rfl
theorem w_ml_X5_105 : (Cond.methodLink RX5 105 yX5_moveDrum) ∈ wsG := wsT2 _ (List.mem_of_getElem? (i := 81) (by decide +kernel)) rfl
theorem w_im_yX5_moveDrum : (Cond.instanceMethod yX5_moveDrum) ∈ wsG := wsT2 _ (List.mem_of_getElem? (i := 83) (by decide +kernel)) rfl
theorem w_co_yX5_moveDrum : (Cond.code yX5_moveDrum cX5_moveDrum 1 (some FieldType.int)) ∈ wsG := wsT2 _ (List.mem_of_getElem? (i := 84) (by decide +kernel)) rfl
theorem w_ml_X5_132 : (Cond.methodLink RX5 132 yX1_countSkip) ∈ wsG := wsT2 _ (List.mem_of_getElem? (i := 85) (by decide +kernel)) rfl
theorem w_im_yX1_countSkip : (Cond.instanceMethod yX1_countSkip) ∈ wsG := wsT2 _ (List.mem_of_getElem? (i := 86) (by decide +kernel)) rfl
theorem w_se_yX1_countSkip : (Cond.selects RX1 yX1_countSkip yX1_countSkip) ∈ wsG := wsT2 _ (List.mem_of_getElem? (i := 87) (by decide +kernel)) rfl
theorem w_co_yX1_countSkip : (Cond.code yX1_countSkip cX1_countSkip 2 none) ∈ wsG := wsT2 _ (List.mem_of_getElem? (i := 88) (by decide +kernel)) rfl
theorem w_st_yX7_within : (Cond.static yX7_within) ∈ wsG := wsT2 _ (List.mem_of_getElem? (i := 90) (by decide +kernel)) rfl
theorem w_co_yX7_within : (Cond.code yX7_within cX7_within 3 (some FieldType.boolean)) ∈ wsG := wsT2 _ (List.mem_of_getElem? (i := 91) (by decide +kernel)) rfl
theorem w_ml_X5_95 : (Cond.methodLink RX5 95 yX5_standAt) ∈ wsG := wsT2 _ (List.mem_of_getElem? (i := 92) (by decide +kernel)) rfl
theorem w_im_yX5_standAt : (Cond.instanceMethod yX5_standAt) ∈ wsG := wsT2 _ (List.mem_of_getElem? (i := 93) (by decide +kernel)) rfl
theorem w_se_yX5_standAt : (Cond.selects RX5 yX5_standAt yX5_standAt) ∈ wsG := wsT2 _ (List.mem_of_getElem? (i := 94) (by decide +kernel)) rfl
theorem w_co_yX5_standAt : (Cond.code yX5_standAt cX5_standAt 2 none) ∈ wsG := wsT2 _ (List.mem_of_getElem? (i := 95) (by decide +kernel)) rfl
theorem w_ml_X5_109 : (Cond.methodLink RX5 109 yX5_hasCam) ∈ wsG := wsT2 _ (List.mem_of_getElem? (i := 96) (by decide +kernel)) rfl
theorem w_im_yX5_hasCam : (Cond.instanceMethod yX5_hasCam) ∈ wsG := wsT2 _ (List.mem_of_getElem? (i := 97) (by decide +kernel)) rfl
theorem w_se_yX5_hasCam : (Cond.selects RX5 yX5_hasCam yX5_hasCam) ∈ wsG := wsT2 _ (List.mem_of_getElem? (i := 98) (by decide +kernel)) rfl
theorem w_co_yX5_hasCam : (Cond.code yX5_hasCam cX5_hasCam 3 (some FieldType.boolean)) ∈ wsG := wsT2 _ (List.mem_of_getElem? (i := 99) (by decide +kernel)) rfl
theorem w_ml_X5_113 : (Cond.methodLink RX5 113 yX5_moveOut) ∈ wsG := wsT2 _ (List.mem_of_getElem? (i := 100) (by decide +kernel)) rfl
theorem w_im_yX5_moveOut : (Cond.instanceMethod yX5_moveOut) ∈ wsG := wsT2 _ (List.mem_of_getElem? (i := 102) (by decide +kernel)) rfl
theorem w_co_yX5_moveOut : (Cond.code yX5_moveOut cX5_moveOut 4 none) ∈ wsG := wsT2 _ (List.mem_of_getElem? (i := 103) (by decide +kernel)) rfl
theorem w_ml_X5_138 : (Cond.methodLink RX5 138 yX5_roomByGuards) ∈ wsG := wsT2 _ (List.mem_of_getElem? (i := 104) (by decide +kernel)) rfl
theorem w_im_yX5_roomByGuards : (Cond.instanceMethod yX5_roomByGuards) ∈ wsG := wsT2 _ (List.mem_of_getElem? (i := 105) (by decide +kernel)) rfl
theorem w_se_yX5_roomByGuards : (Cond.selects RX5 yX5_roomByGuards yX5_roomByGuards) ∈ wsG := wsT2 _ (List.mem_of_getElem? (i := 106) (by decide +kernel)) rfl
theorem w_co_yX5_roomByGuards : (Cond.code yX5_roomByGuards cX5_roomByGuards 4 (some FieldType.int)) ∈ wsG := wsT2 _ (List.mem_of_getElem? (i := 107) (by decide +kernel)) rfl
theorem w_ml_X5_177 : (Cond.methodLink RX5 177 yX5_holds) ∈ wsG := wsT2 _ (List.mem_of_getElem? (i := 108) (by decide +kernel)) rfl
theorem w_im_yX5_holds : (Cond.instanceMethod yX5_holds) ∈ wsG := wsT2 _ (List.mem_of_getElem? (i := 110) (by decide +kernel)) rfl
theorem w_co_yX5_holds : (Cond.code yX5_holds cX5_holds 3 (some FieldType.boolean)) ∈ wsG := wsT2 _ (List.mem_of_getElem? (i := 111) (by decide +kernel)) rfl
theorem w_ml_X5_141 : (Cond.methodLink RX5 141 Lib.Math.min.name) ∈ wsG := wsT2 _ (List.mem_of_getElem? (i := 112) (by decide +kernel)) rfl
theorem w_ml_X5_159 : (Cond.methodLink RX5 159 Lib.Math.max.name) ∈ wsG := wsT2 _ (List.mem_of_getElem? (i := 113) (by decide +kernel)) rfl
theorem w_ml_X5_150 : (Cond.methodLink RX5 150 yX0_enoughToMove) ∈ wsG := wsT2 _ (List.mem_of_getElem? (i := 114) (by decide +kernel)) rfl
theorem w_im_yX0_enoughToMove : (Cond.instanceMethod yX0_enoughToMove) ∈ wsG := wsT2 _ (List.mem_of_getElem? (i := 115) (by decide +kernel)) rfl
theorem w_se_yX0_enoughToMove : (Cond.selects RX0 yX0_enoughToMove yX0_enoughToMove) ∈ wsG := wsT2 _ (List.mem_of_getElem? (i := 116) (by decide +kernel)) rfl
theorem w_co_yX0_enoughToMove : (Cond.code yX0_enoughToMove cX0_enoughToMove 2 (some FieldType.int)) ∈ wsG := wsT2 _ (List.mem_of_getElem? (i := 117) (by decide +kernel)) rfl
theorem w_ml_X5_153 : (Cond.methodLink RX5 153 yX0_use) ∈ wsG := wsT2 _ (List.mem_of_getElem? (i := 118) (by decide +kernel)) rfl
theorem w_im_yX0_use : (Cond.instanceMethod yX0_use) ∈ wsG := wsT2 _ (List.mem_of_getElem? (i := 119) (by decide +kernel)) rfl
theorem w_se_yX0_use : (Cond.selects RX0 yX0_use yX0_use) ∈ wsG := wsT2 _ (List.mem_of_getElem? (i := 120) (by decide +kernel)) rfl
theorem w_co_yX0_use : (Cond.code yX0_use cX0_use 2 none) ∈ wsG := wsT2 _ (List.mem_of_getElem? (i := 121) (by decide +kernel)) rfl
theorem w_ml_X5_116 : (Cond.methodLink RX5 116 yX5_moveIn) ∈ wsG := wsT2 _ (List.mem_of_getElem? (i := 122) (by decide +kernel)) rfl
theorem w_im_yX5_moveIn : (Cond.instanceMethod yX5_moveIn) ∈ wsG := wsT2 _ (List.mem_of_getElem? (i := 124) (by decide +kernel)) rfl
theorem w_co_yX5_moveIn : (Cond.code yX5_moveIn cX5_moveIn 2 none) ∈ wsG := wsT2 _ (List.mem_of_getElem? (i := 125) (by decide +kernel)) rfl
theorem w_ml_X5_119 : (Cond.methodLink RX5 119 yX5_leakAt) ∈ wsG := wsT2 _ (List.mem_of_getElem? (i := 126) (by decide +kernel)) rfl
theorem w_im_yX5_leakAt : (Cond.instanceMethod yX5_leakAt) ∈ wsG := wsT2 _ (List.mem_of_getElem? (i := 128) (by decide +kernel)) rfl
theorem w_co_yX5_leakAt : (Cond.code yX5_leakAt cX5_leakAt 2 none) ∈ wsG := wsT2 _ (List.mem_of_getElem? (i := 129) (by decide +kernel)) rfl
theorem w_ml_X5_168 : (Cond.methodLink RX5 168 yX0_leakOut) ∈ wsG := wsT2 _ (List.mem_of_getElem? (i := 130) (by decide +kernel)) rfl
theorem w_im_yX0_leakOut : (Cond.instanceMethod yX0_leakOut) ∈ wsG := wsT2 _ (List.mem_of_getElem? (i := 131) (by decide +kernel)) rfl
theorem w_se_yX0_leakOut : (Cond.selects RX0 yX0_leakOut yX0_leakOut) ∈ wsG := wsT2 _ (List.mem_of_getElem? (i := 132) (by decide +kernel)) rfl
theorem w_co_yX0_leakOut : (Cond.code yX0_leakOut cX0_leakOut 3 (some FieldType.int)) ∈ wsG := wsT2 _ (List.mem_of_getElem? (i := 133) (by decide +kernel)) rfl
theorem w_ml_X0_42 : (Cond.methodLink RX0 42 Lib.Math.min.name) ∈ wsG := wsT2 _ (List.mem_of_getElem? (i := 134) (by decide +kernel)) rfl
theorem w_ml_X5_125 : (Cond.methodLink RX5 125 yX1_note) ∈ wsG := wsT2 _ (List.mem_of_getElem? (i := 135) (by decide +kernel)) rfl
theorem w_im_yX1_note : (Cond.instanceMethod yX1_note) ∈ wsG := wsT2 _ (List.mem_of_getElem? (i := 136) (by decide +kernel)) rfl
theorem w_se_yX1_note : (Cond.selects RX1 yX1_note yX1_note) ∈ wsG := wsT2 _ (List.mem_of_getElem? (i := 137) (by decide +kernel)) rfl
theorem w_co_yX1_note : (Cond.code yX1_note cX1_note 5 none) ∈ wsG := wsT2 _ (List.mem_of_getElem? (i := 138) (by decide +kernel)) rfl
theorem w_ml_L_142 : (Cond.methodLink RL 142 yX7_shortestDwell) ∈ wsG := wsT2 _ (List.mem_of_getElem? (i := 139) (by decide +kernel)) rfl
theorem w_im_yX7_shortestDwell : (Cond.instanceMethod yX7_shortestDwell) ∈ wsG := wsT2 _ (List.mem_of_getElem? (i := 140) (by decide +kernel)) rfl
theorem w_se_yX7_shortestDwell : (Cond.selects RX7 yX7_shortestDwell yX7_shortestDwell) ∈ wsG := wsT2 _ (List.mem_of_getElem? (i := 141) (by decide +kernel)) rfl
theorem w_co_yX7_shortestDwell : (Cond.code yX7_shortestDwell cX7_shortestDwell 2 (some FieldType.int)) ∈ wsG := wsT2 _ (List.mem_of_getElem? (i := 142) (by decide +kernel)) rfl
theorem w_ml_X7_200 : (Cond.methodLink RX7 200 yX7_dwellSuffices) ∈ wsG := wsT2 _ (List.mem_of_getElem? (i := 143) (by decide +kernel)) rfl
theorem w_im_yX7_dwellSuffices : (Cond.instanceMethod yX7_dwellSuffices) ∈ wsG := wsT2 _ (List.mem_of_getElem? (i := 145) (by decide +kernel)) rfl
theorem w_co_yX7_dwellSuffices : (Cond.code yX7_dwellSuffices cX7_dwellSuffices 5 (some FieldType.boolean)) ∈ wsG := wsT2 _ (List.mem_of_getElem? (i := 146) (by decide +kernel)) rfl
theorem w_ml_X7_143 : (Cond.methodLink RX7 143 yX5_standAt) ∈ wsG := wsT2 _ (List.mem_of_getElem? (i := 147) (by decide +kernel)) rfl
theorem w_ml_X7_277 : (Cond.methodLink RX7 277 yJ7_fill_53178) ∈ wsG := wsT2 _ (List.mem_of_getElem? (i := 148) (by decide +kernel)) rfl
theorem w_ml_X7_283 : (Cond.methodLink RX7 283 yX5_allDueAreOut) ∈ wsG := wsT2 _ (List.mem_of_getElem? (i := 149) (by decide +kernel)) rfl
theorem w_im_yX5_allDueAreOut : (Cond.instanceMethod yX5_allDueAreOut) ∈ wsG := wsT2 _ (List.mem_of_getElem? (i := 150) (by decide +kernel)) rfl
theorem w_se_yX5_allDueAreOut : (Cond.selects RX5 yX5_allDueAreOut yX5_allDueAreOut) ∈ wsG := wsT2 _ (List.mem_of_getElem? (i := 151) (by decide +kernel)) rfl
theorem w_co_yX5_allDueAreOut : (Cond.code yX5_allDueAreOut cX5_allDueAreOut 2 (some FieldType.boolean)) ∈ wsG := wsT2 _ (List.mem_of_getElem? (i := 152) (by decide +kernel)) rfl
theorem w_ml_X7_157 : (Cond.methodLink RX7 157 yX5_tick) ∈ wsG := wsT2 _ (List.mem_of_getElem? (i := 153) (by decide +kernel)) rfl
theorem w_ml_L_146 : (Cond.methodLink RL 146 yX7_repeats) ∈ wsG := wsT2 _ (List.mem_of_getElem? (i := 154) (by decide +kernel)) rfl
theorem w_im_yX7_repeats : (Cond.instanceMethod yX7_repeats) ∈ wsG := wsT2 _ (List.mem_of_getElem? (i := 155) (by decide +kernel)) rfl
theorem w_se_yX7_repeats : (Cond.selects RX7 yX7_repeats yX7_repeats) ∈ wsG := wsT2 _ (List.mem_of_getElem? (i := 156) (by decide +kernel)) rfl
theorem w_co_yX7_repeats : (Cond.code yX7_repeats cX7_repeats 2 (some FieldType.boolean)) ∈ wsG := wsT2 _ (List.mem_of_getElem? (i := 157) (by decide +kernel)) rfl
theorem w_ml_X7_204 : (Cond.methodLink RX7 204 yX5_standsAs) ∈ wsG := wsT2 _ (List.mem_of_getElem? (i := 158) (by decide +kernel)) rfl
theorem w_im_yX5_standsAs : (Cond.instanceMethod yX5_standsAs) ∈ wsG := wsT2 _ (List.mem_of_getElem? (i := 159) (by decide +kernel)) rfl
theorem w_se_yX5_standsAs : (Cond.selects RX5 yX5_standsAs yX5_standsAs) ∈ wsG := wsT2 _ (List.mem_of_getElem? (i := 160) (by decide +kernel)) rfl
theorem w_co_yX5_standsAs : (Cond.code yX5_standsAs cX5_standsAs 3 (some FieldType.boolean)) ∈ wsG := wsT2 _ (List.mem_of_getElem? (i := 161) (by decide +kernel)) rfl
theorem w_ml_L_151 : (Cond.methodLink RL 151 yX7_useful) ∈ wsG := wsT2 _ (List.mem_of_getElem? (i := 162) (by decide +kernel)) rfl
theorem w_im_yX7_useful : (Cond.instanceMethod yX7_useful) ∈ wsG := wsT2 _ (List.mem_of_getElem? (i := 163) (by decide +kernel)) rfl
theorem w_se_yX7_useful : (Cond.selects RX7 yX7_useful yX7_useful) ∈ wsG := wsT2 _ (List.mem_of_getElem? (i := 164) (by decide +kernel)) rfl
theorem w_co_yX7_useful : (Cond.code yX7_useful cX7_useful 1 (some FieldType.double)) ∈ wsG := wsT2 _ (List.mem_of_getElem? (i := 165) (by decide +kernel)) rfl
theorem w_ml_L_159 : (Cond.methodLink RL 159 yX7_clearText) ∈ wsG := wsT2 _ (List.mem_of_getElem? (i := 166) (by decide +kernel)) rfl
theorem w_im_yX7_clearText : (Cond.instanceMethod yX7_clearText) ∈ wsG := wsT2 _ (List.mem_of_getElem? (i := 167) (by decide +kernel)) rfl
theorem w_se_yX7_clearText : (Cond.selects RX7 yX7_clearText yX7_clearText) ∈ wsG := wsT2 _ (List.mem_of_getElem? (i := 168) (by decide +kernel)) rfl
theorem w_co_yX7_clearText : (Cond.code yX7_clearText cX7_clearText 2 (some FieldType.int)) ∈ wsG := wsT2 _ (List.mem_of_getElem? (i := 169) (by decide +kernel)) rfl
theorem w_ml_L_163 : (Cond.methodLink RL 163 yX7_parse) ∈ wsG := wsT2 _ (List.mem_of_getElem? (i := 170) (by decide +kernel)) rfl
theorem w_im_yX7_parse : (Cond.instanceMethod yX7_parse) ∈ wsG := wsT2 _ (List.mem_of_getElem? (i := 171) (by decide +kernel)) rfl
theorem w_se_yX7_parse : (Cond.selects RX7 yX7_parse yX7_parse) ∈ wsG := wsT2 _ (List.mem_of_getElem? (i := 172) (by decide +kernel)) rfl
theorem w_co_yX7_parse : (Cond.code yX7_parse cX7_parse 3 (some FieldType.int)) ∈ wsG := wsT2 _ (List.mem_of_getElem? (i := 173) (by decide +kernel)) rfl
theorem w_ml_X7_226 : (Cond.methodLink RX7 226 yX6_read) ∈ wsG := wsT2 _ (List.mem_of_getElem? (i := 174) (by decide +kernel)) rfl
theorem w_im_yX6_read : (Cond.instanceMethod yX6_read) ∈ wsG := wsT2 _ (List.mem_of_getElem? (i := 175) (by decide +kernel)) rfl
theorem w_se_yX6_read : (Cond.selects RX6 yX6_read yX6_read) ∈ wsG := wsT2 _ (List.mem_of_getElem? (i := 176) (by decide +kernel)) rfl
theorem w_co_yX6_read : (Cond.code yX6_read cX6_read 3 none) ∈ wsG := wsT2 _ (List.mem_of_getElem? (i := 177) (by decide +kernel)) rfl
theorem w_ml_X6_28 : (Cond.methodLink RX6 28 yJ7_fill_53178) ∈ wsG := wsT2 _ (List.mem_of_getElem? (i := 178) (by decide +kernel)) rfl
theorem w_ml_X6_34 : (Cond.methodLink RX6 34 yX6_byteAt) ∈ wsG := wsT2 _ (List.mem_of_getElem? (i := 179) (by decide +kernel)) rfl
theorem w_im_yX6_byteAt : (Cond.instanceMethod yX6_byteAt) ∈ wsG := wsT2 _ (List.mem_of_getElem? (i := 181) (by decide +kernel)) rfl
theorem w_co_yX6_byteAt : (Cond.code yX6_byteAt cX6_byteAt 2 (some FieldType.int)) ∈ wsG := wsT2 _ (List.mem_of_getElem? (i := 182) (by decide +kernel)) rfl
theorem w_ml_X6_38 : (Cond.methodLink RX6 38 yX6_readSteps) ∈ wsG := wsT2 _ (List.mem_of_getElem? (i := 183) (by decide +kernel)) rfl
theorem w_im_yX6_readSteps : (Cond.instanceMethod yX6_readSteps) ∈ wsG := wsT2 _ (List.mem_of_getElem? (i := 185) (by decide +kernel)) rfl
theorem w_co_yX6_readSteps : (Cond.code yX6_readSteps cX6_readSteps 5 none) ∈ wsG := wsT2 _ (List.mem_of_getElem? (i := 186) (by decide +kernel)) rfl
theorem w_ml_X6_51 : (Cond.methodLink RX6 51 yX6_isDigitAt) ∈ wsG := wsT2 _ (List.mem_of_getElem? (i := 187) (by decide +kernel)) rfl
theorem w_im_yX6_isDigitAt : (Cond.instanceMethod yX6_isDigitAt) ∈ wsG := wsT2 _ (List.mem_of_getElem? (i := 189) (by decide +kernel)) rfl
theorem w_co_yX6_isDigitAt : (Cond.code yX6_isDigitAt cX6_isDigitAt 2 (some FieldType.boolean)) ∈ wsG := wsT2 _ (List.mem_of_getElem? (i := 190) (by decide +kernel)) rfl
theorem w_ml_X6_55 : (Cond.methodLink RX6 55 yX6_passSign) ∈ wsG := wsT2 _ (List.mem_of_getElem? (i := 192) (by decide +kernel)) rfl
theorem w_im_yX6_passSign : (Cond.instanceMethod yX6_passSign) ∈ wsG := wsT2 _ (List.mem_of_getElem? (i := 194) (by decide +kernel)) rfl
theorem w_co_yX6_passSign : (Cond.code yX6_passSign cX6_passSign 2 none) ∈ wsG := wsT2 _ (List.mem_of_getElem? (i := 195) (by decide +kernel)) rfl
theorem w_ml_X6_44 : (Cond.methodLink RX6 44 yX6_readTrack) ∈ wsG := wsT2 _ (List.mem_of_getElem? (i := 196) (by decide +kernel)) rfl
theorem w_im_yX6_readTrack : (Cond.instanceMethod yX6_readTrack) ∈ wsG := wsT2 _ (List.mem_of_getElem? (i := 198) (by decide +kernel)) rfl
theorem w_co_yX6_readTrack : (Cond.code yX6_readTrack cX6_readTrack 4 none) ∈ wsG := wsT2 _ (List.mem_of_getElem? (i := 199) (by decide +kernel)) rfl
theorem w_ml_X7_43 : (Cond.methodLink RX7 43 yX4_save) ∈ wsG := wsT2 _ (List.mem_of_getElem? (i := 200) (by decide +kernel)) rfl
theorem w_im_yX4_save : (Cond.instanceMethod yX4_save) ∈ wsG := wsT2 _ (List.mem_of_getElem? (i := 201) (by decide +kernel)) rfl
theorem w_se_yX4_save : (Cond.selects RX4 yX4_save yX4_save) ∈ wsG := wsT2 _ (List.mem_of_getElem? (i := 202) (by decide +kernel)) rfl
theorem w_co_yX4_save : (Cond.code yX4_save cX4_save 3 none) ∈ wsG := wsT2 _ (List.mem_of_getElem? (i := 203) (by decide +kernel)) rfl
theorem w_ml_X4_25 : (Cond.methodLink RX4 25 Lib.Math.min.name) ∈ wsG := wsT2 _ (List.mem_of_getElem? (i := 204) (by decide +kernel)) rfl
theorem w_ml_X4_31 : (Cond.methodLink RX4 31 yX4_newestPlace) ∈ wsG := wsT2 _ (List.mem_of_getElem? (i := 205) (by decide +kernel)) rfl
theorem w_im_yX4_newestPlace : (Cond.instanceMethod yX4_newestPlace) ∈ wsG := wsT2 _ (List.mem_of_getElem? (i := 207) (by decide +kernel)) rfl
theorem w_co_yX4_newestPlace : (Cond.code yX4_newestPlace cX4_newestPlace 1 (some (FieldType.object "CamDrum$Machine"))) ∈ wsG := wsT2 _ (List.mem_of_getElem? (i := 208) (by decide +kernel)) rfl
theorem w_ml_X4_35 : (Cond.methodLink RX4 35 yX5_copyFrom) ∈ wsG := wsT2 _ (List.mem_of_getElem? (i := 210) (by decide +kernel)) rfl
theorem w_ml_X7_232 : (Cond.methodLink RX7 232 yX5_takeTracks) ∈ wsG := wsT2 _ (List.mem_of_getElem? (i := 211) (by decide +kernel)) rfl
theorem w_im_yX5_takeTracks : (Cond.instanceMethod yX5_takeTracks) ∈ wsG := wsT2 _ (List.mem_of_getElem? (i := 212) (by decide +kernel)) rfl
theorem w_se_yX5_takeTracks : (Cond.selects RX5 yX5_takeTracks yX5_takeTracks) ∈ wsG := wsT2 _ (List.mem_of_getElem? (i := 213) (by decide +kernel)) rfl
theorem w_co_yX5_takeTracks : (Cond.code yX5_takeTracks cX5_takeTracks 2 none) ∈ wsG := wsT2 _ (List.mem_of_getElem? (i := 214) (by decide +kernel)) rfl
theorem w_ml_X5_99 : (Cond.methodLink RX5 99 yX1_forget) ∈ wsG := wsT2 _ (List.mem_of_getElem? (i := 215) (by decide +kernel)) rfl
theorem w_im_yX1_forget : (Cond.instanceMethod yX1_forget) ∈ wsG := wsT2 _ (List.mem_of_getElem? (i := 216) (by decide +kernel)) rfl
theorem w_se_yX1_forget : (Cond.selects RX1 yX1_forget yX1_forget) ∈ wsG := wsT2 _ (List.mem_of_getElem? (i := 217) (by decide +kernel)) rfl
theorem w_co_yX1_forget : (Cond.code yX1_forget cX1_forget 1 none) ∈ wsG := wsT2 _ (List.mem_of_getElem? (i := 218) (by decide +kernel)) rfl
theorem w_ml_X7_51 : (Cond.methodLink RX7 51 yX5_camsOf) ∈ wsG := wsT2 _ (List.mem_of_getElem? (i := 219) (by decide +kernel)) rfl
theorem w_im_yX5_camsOf : (Cond.instanceMethod yX5_camsOf) ∈ wsG := wsT2 _ (List.mem_of_getElem? (i := 220) (by decide +kernel)) rfl
theorem w_se_yX5_camsOf : (Cond.selects RX5 yX5_camsOf yX5_camsOf) ∈ wsG := wsT2 _ (List.mem_of_getElem? (i := 221) (by decide +kernel)) rfl
theorem w_co_yX5_camsOf : (Cond.code yX5_camsOf cX5_camsOf 2 (some FieldType.int)) ∈ wsG := wsT2 _ (List.mem_of_getElem? (i := 222) (by decide +kernel)) rfl
theorem w_ml_X5_85 : (Cond.methodLink RX5 85 yJ6_bitCount_0f7a4) ∈ wsG := wsT2 _ (List.mem_of_getElem? (i := 223) (by decide +kernel)) rfl
theorem w_st_yJ6_bitCount_0f7a4 : (Cond.static yJ6_bitCount_0f7a4) ∈ wsG := wsT2 _ (List.mem_of_getElem? (i := 224) (by decide +kernel)) rfl
theorem w_co_yJ6_bitCount_0f7a4 : (Cond.code yJ6_bitCount_0f7a4 cJ6_bitCount_0f7a4 1 (some FieldType.int)) ∈ wsG := wsT2 _ (List.mem_of_getElem? (i := 225) (by decide +kernel)) rfl
theorem w_ct_J6_265 : (Cond.constant RJ6 265 (1431655765)) ∈ wsG := wsT2 _ (List.mem_of_getElem? (i := 226) (by decide +kernel)) rfl
theorem w_ct_J6_266 : (Cond.constant RJ6 266 (858993459)) ∈ wsG := wsT2 _ (List.mem_of_getElem? (i := 227) (by decide +kernel)) rfl
theorem w_ct_J6_267 : (Cond.constant RJ6 267 (252645135)) ∈ wsG := wsT2 _ (List.mem_of_getElem? (i := 228) (by decide +kernel)) rfl
theorem w_ml_L_171 : (Cond.methodLink RL 171 yX7_digest) ∈ wsG := wsT2 _ (List.mem_of_getElem? (i := 229) (by decide +kernel)) rfl
theorem w_im_yX7_digest : (Cond.instanceMethod yX7_digest) ∈ wsG := wsT2 _ (List.mem_of_getElem? (i := 230) (by decide +kernel)) rfl
theorem w_se_yX7_digest : (Cond.selects RX7 yX7_digest yX7_digest) ∈ wsG := wsT2 _ (List.mem_of_getElem? (i := 231) (by decide +kernel)) rfl
theorem w_co_yX7_digest : (Cond.code yX7_digest cX7_digest 4 (some FieldType.long)) ∈ wsG := wsT2 _ (List.mem_of_getElem? (i := 232) (by decide +kernel)) rfl
theorem w_ct_X7_242 : (Cond.constantLong RX7 242 (3467)) ∈ wsG := wsT2 _ (List.mem_of_getElem? (i := 233) (by decide +kernel)) rfl
theorem w_ml_X7_244 : (Cond.methodLink RX7 244 yX7_hashWith) ∈ wsG := wsT2 _ (List.mem_of_getElem? (i := 234) (by decide +kernel)) rfl
theorem w_st_yX7_hashWith : (Cond.static yX7_hashWith) ∈ wsG := wsT2 _ (List.mem_of_getElem? (i := 235) (by decide +kernel)) rfl
theorem w_co_yX7_hashWith : (Cond.code yX7_hashWith cX7_hashWith 3 (some FieldType.long)) ∈ wsG := wsT2 _ (List.mem_of_getElem? (i := 236) (by decide +kernel)) rfl
theorem w_ct_X7_287 : (Cond.constantLong RX7 287 (31)) ∈ wsG := wsT2 _ (List.mem_of_getElem? (i := 237) (by decide +kernel)) rfl
theorem w_ml_X7_176 : (Cond.methodLink RX7 176 yX5_number) ∈ wsG := wsT2 _ (List.mem_of_getElem? (i := 238) (by decide +kernel)) rfl
theorem w_im_yX5_number : (Cond.instanceMethod yX5_number) ∈ wsG := wsT2 _ (List.mem_of_getElem? (i := 239) (by decide +kernel)) rfl
theorem w_se_yX5_number : (Cond.selects RX5 yX5_number yX5_number) ∈ wsG := wsT3 _ (List.mem_of_getElem? (i := 0) (by decide +kernel)) rfl
theorem w_co_yX5_number : (Cond.code yX5_number cX5_number 2 (some FieldType.int)) ∈ wsG := wsT3 _ (List.mem_of_getElem? (i := 1) (by decide +kernel)) rfl
theorem w_ml_X7_248 : (Cond.methodLink RX7 248 yX7_hashWithCylinders) ∈ wsG := wsT3 _ (List.mem_of_getElem? (i := 2) (by decide +kernel)) rfl
theorem w_im_yX7_hashWithCylinders : (Cond.instanceMethod yX7_hashWithCylinders) ∈ wsG := wsT3 _ (List.mem_of_getElem? (i := 4) (by decide +kernel)) rfl
theorem w_co_yX7_hashWithCylinders : (Cond.code yX7_hashWithCylinders cX7_hashWithCylinders 5 (some FieldType.long)) ∈ wsG := wsT3 _ (List.mem_of_getElem? (i := 5) (by decide +kernel)) rfl
theorem w_ml_X7_169 : (Cond.methodLink RX7 169 yX5_cylinderNumber) ∈ wsG := wsT3 _ (List.mem_of_getElem? (i := 6) (by decide +kernel)) rfl
theorem w_im_yX5_cylinderNumber : (Cond.instanceMethod yX5_cylinderNumber) ∈ wsG := wsT3 _ (List.mem_of_getElem? (i := 7) (by decide +kernel)) rfl
theorem w_se_yX5_cylinderNumber : (Cond.selects RX5 yX5_cylinderNumber yX5_cylinderNumber) ∈ wsG := wsT3 _ (List.mem_of_getElem? (i := 8) (by decide +kernel)) rfl
theorem w_co_yX5_cylinderNumber : (Cond.code yX5_cylinderNumber cX5_cylinderNumber 3 (some FieldType.int)) ∈ wsG := wsT3 _ (List.mem_of_getElem? (i := 9) (by decide +kernel)) rfl
theorem w_ml_X5_206 : (Cond.methodLink RX5 206 yX5_camsOf) ∈ wsG := wsT3 _ (List.mem_of_getElem? (i := 10) (by decide +kernel)) rfl
theorem w_ml_X7_252 : (Cond.methodLink RX7 252 yX7_hashWithGuards) ∈ wsG := wsT3 _ (List.mem_of_getElem? (i := 11) (by decide +kernel)) rfl
theorem w_im_yX7_hashWithGuards : (Cond.instanceMethod yX7_hashWithGuards) ∈ wsG := wsT3 _ (List.mem_of_getElem? (i := 13) (by decide +kernel)) rfl
theorem w_co_yX7_hashWithGuards : (Cond.code yX7_hashWithGuards cX7_hashWithGuards 5 (some FieldType.long)) ∈ wsG := wsT3 _ (List.mem_of_getElem? (i := 14) (by decide +kernel)) rfl
theorem w_ml_X7_173 : (Cond.methodLink RX7 173 yX5_guardNumber) ∈ wsG := wsT3 _ (List.mem_of_getElem? (i := 15) (by decide +kernel)) rfl
theorem w_im_yX5_guardNumber : (Cond.instanceMethod yX5_guardNumber) ∈ wsG := wsT3 _ (List.mem_of_getElem? (i := 16) (by decide +kernel)) rfl
theorem w_se_yX5_guardNumber : (Cond.selects RX5 yX5_guardNumber yX5_guardNumber) ∈ wsG := wsT3 _ (List.mem_of_getElem? (i := 17) (by decide +kernel)) rfl
theorem w_co_yX5_guardNumber : (Cond.code yX5_guardNumber cX5_guardNumber 3 (some FieldType.int)) ∈ wsG := wsT3 _ (List.mem_of_getElem? (i := 18) (by decide +kernel)) rfl
theorem w_ml_X7_255 : (Cond.methodLink RX7 255 yX7_hashWithSteps) ∈ wsG := wsT3 _ (List.mem_of_getElem? (i := 19) (by decide +kernel)) rfl
theorem w_im_yX7_hashWithSteps : (Cond.instanceMethod yX7_hashWithSteps) ∈ wsG := wsT3 _ (List.mem_of_getElem? (i := 21) (by decide +kernel)) rfl
theorem w_co_yX7_hashWithSteps : (Cond.code yX7_hashWithSteps cX7_hashWithSteps 5 (some FieldType.long)) ∈ wsG := wsT3 _ (List.mem_of_getElem? (i := 22) (by decide +kernel)) rfl
theorem w_ml_X7_188 : (Cond.methodLink RX7 188 yX1_skipsAt) ∈ wsG := wsT3 _ (List.mem_of_getElem? (i := 23) (by decide +kernel)) rfl
theorem w_im_yX1_skipsAt : (Cond.instanceMethod yX1_skipsAt) ∈ wsG := wsT3 _ (List.mem_of_getElem? (i := 24) (by decide +kernel)) rfl
theorem w_se_yX1_skipsAt : (Cond.selects RX1 yX1_skipsAt yX1_skipsAt) ∈ wsG := wsT3 _ (List.mem_of_getElem? (i := 25) (by decide +kernel)) rfl
theorem w_co_yX1_skipsAt : (Cond.code yX1_skipsAt cX1_skipsAt 2 (some FieldType.int)) ∈ wsG := wsT3 _ (List.mem_of_getElem? (i := 26) (by decide +kernel)) rfl
theorem w_ml_X7_161 : (Cond.methodLink RX7 161 yX5_hasCam) ∈ wsG := wsT3 _ (List.mem_of_getElem? (i := 27) (by decide +kernel)) rfl
theorem w_ml_X7_183 : (Cond.methodLink RX7 183 yX1_outAt) ∈ wsG := wsT3 _ (List.mem_of_getElem? (i := 28) (by decide +kernel)) rfl
theorem w_im_yX1_outAt : (Cond.instanceMethod yX1_outAt) ∈ wsG := wsT3 _ (List.mem_of_getElem? (i := 29) (by decide +kernel)) rfl
theorem w_se_yX1_outAt : (Cond.selects RX1 yX1_outAt yX1_outAt) ∈ wsG := wsT3 _ (List.mem_of_getElem? (i := 30) (by decide +kernel)) rfl
theorem w_co_yX1_outAt : (Cond.code yX1_outAt cX1_outAt 4 (some FieldType.int)) ∈ wsG := wsT3 _ (List.mem_of_getElem? (i := 31) (by decide +kernel)) rfl
theorem w_ml_X7_258 : (Cond.methodLink RX7 258 yX7_ticksToCycle) ∈ wsG := wsT3 _ (List.mem_of_getElem? (i := 32) (by decide +kernel)) rfl
theorem w_ml_L_80 : (Cond.methodLink RL 80 yL_setCam) ∈ wsG := wsT3 _ (List.mem_of_getElem? (i := 33) (by decide +kernel)) rfl
theorem w_st_yL_setCam : (Cond.static yL_setCam) ∈ wsG := wsT3 _ (List.mem_of_getElem? (i := 34) (by decide +kernel)) rfl
theorem w_cw_yL_setCam : (Cond.codeWith yL_setCam cL_setCam 6 (some FieldType.int) [((0), (12), (15), (13))]) ∈ wsG := wsT3 _ (List.mem_of_getElem? (i := 35) (by decide +kernel)) rfl
theorem w_cl_L_13 : (Cond.classLink RL 13 "java/lang/IndexOutOfBoundsException") ∈ wsG := wsT3 _ (List.mem_of_getElem? (i := 36) (by decide +kernel)) rfl
theorem w_ml_L_7 : (Cond.methodLink RL 7 yX7_setCam) ∈ wsG := wsT3 _ (List.mem_of_getElem? (i := 37) (by decide +kernel)) rfl
theorem w_im_yX7_setCam : (Cond.instanceMethod yX7_setCam) ∈ wsG := wsT3 _ (List.mem_of_getElem? (i := 38) (by decide +kernel)) rfl
theorem w_se_yX7_setCam : (Cond.selects RX7 yX7_setCam yX7_setCam) ∈ wsG := wsT3 _ (List.mem_of_getElem? (i := 39) (by decide +kernel)) rfl
theorem w_co_yX7_setCam : (Cond.code yX7_setCam cX7_setCam 4 (some FieldType.int)) ∈ wsG := wsT3 _ (List.mem_of_getElem? (i := 40) (by decide +kernel)) rfl
theorem w_ml_X7_36 : (Cond.methodLink RX7 36 yX7_requireCylinder) ∈ wsG := wsT3 _ (List.mem_of_getElem? (i := 41) (by decide +kernel)) rfl
theorem w_st_yX7_requireCylinder : (Cond.static yX7_requireCylinder) ∈ wsG := wsT3 _ (List.mem_of_getElem? (i := 42) (by decide +kernel)) rfl
theorem w_co_yX7_requireCylinder : (Cond.code yX7_requireCylinder cX7_requireCylinder 1 none) ∈ wsG := wsT3 _ (List.mem_of_getElem? (i := 43) (by decide +kernel)) rfl
theorem w_ml_X7_55 : (Cond.methodLink RX7 55 yX7_within) ∈ wsG := wsT3 _ (List.mem_of_getElem? (i := 44) (by decide +kernel)) rfl
theorem w_cl_X7_261 : (Cond.classLink RX7 261 "java/lang/IndexOutOfBoundsException") ∈ wsG := wsT3 _ (List.mem_of_getElem? (i := 45) (by decide +kernel)) rfl
theorem w_is_IndexOutOfBoundsException : (Cond.instantiable "java/lang/IndexOutOfBoundsException" 6) ∈ wsG := wsT3 _ (List.mem_of_getElem? (i := 46) (by decide +kernel)) rfl
theorem w_ly_IndexOutOfBoundsException_cause : (Cond.lays "java/lang/IndexOutOfBoundsException" "java/lang/Throwable" "cause" "Ljava/lang/Throwable;") ∈ wsG := wsT3 _ (List.mem_of_getElem? (i := 56) (by decide +kernel)) rfl
theorem w_ly_Throwable_cause : (Cond.lays "java/lang/Throwable" "java/lang/Throwable" "cause" "Ljava/lang/Throwable;") ∈ wsG := wsT3 _ (List.mem_of_getElem? (i := 57) (by decide +kernel)) rfl
theorem w_ly_IndexOutOfBoundsException_stackTrace : (Cond.lays "java/lang/IndexOutOfBoundsException" "java/lang/Throwable" "stackTrace" "[Ljava/lang/StackTraceElement;") ∈ wsG := wsT3 _ (List.mem_of_getElem? (i := 58) (by decide +kernel)) rfl
theorem w_ly_Throwable_stackTrace : (Cond.lays "java/lang/Throwable" "java/lang/Throwable" "stackTrace" "[Ljava/lang/StackTraceElement;") ∈ wsG := wsT3 _ (List.mem_of_getElem? (i := 59) (by decide +kernel)) rfl
theorem w_ly_IndexOutOfBoundsException_suppressedExceptions : (Cond.lays "java/lang/IndexOutOfBoundsException" "java/lang/Throwable" "suppressedExceptions" "Ljava/util/List;") ∈ wsG := wsT3 _ (List.mem_of_getElem? (i := 60) (by decide +kernel)) rfl
theorem w_ly_Throwable_suppressedExceptions : (Cond.lays "java/lang/Throwable" "java/lang/Throwable" "suppressedExceptions" "Ljava/util/List;") ∈ wsG := wsT3 _ (List.mem_of_getElem? (i := 61) (by decide +kernel)) rfl
theorem w_ly_IndexOutOfBoundsException_detailMessage : (Cond.lays "java/lang/IndexOutOfBoundsException" "java/lang/Throwable" "detailMessage" "Ljava/lang/String;") ∈ wsG := wsT3 _ (List.mem_of_getElem? (i := 62) (by decide +kernel)) rfl
theorem w_ly_Throwable_detailMessage : (Cond.lays "java/lang/Throwable" "java/lang/Throwable" "detailMessage" "Ljava/lang/String;") ∈ wsG := wsT3 _ (List.mem_of_getElem? (i := 63) (by decide +kernel)) rfl
theorem w_ly_IndexOutOfBoundsException_backtrace : (Cond.lays "java/lang/IndexOutOfBoundsException" "java/lang/Throwable" "backtrace" "Ljava/lang/Object;") ∈ wsG := wsT3 _ (List.mem_of_getElem? (i := 64) (by decide +kernel)) rfl
theorem w_ly_Throwable_backtrace : (Cond.lays "java/lang/Throwable" "java/lang/Throwable" "backtrace" "Ljava/lang/Object;") ∈ wsG := wsT3 _ (List.mem_of_getElem? (i := 65) (by decide +kernel)) rfl
theorem w_fl_Throwable_198 : (Cond.fieldLink "java/lang/Throwable" 198 "java/lang/Throwable" "backtrace" "Ljava/lang/Object;") ∈ wsG := wsT3 _ (List.mem_of_getElem? (i := 66) (by decide +kernel)) rfl
theorem w_ml_Throwable_1 : (Cond.methodLink "java/lang/Throwable" 1 objectInit) ∈ wsG := wsT3 _ (List.mem_of_getElem? (i := 70) (by decide +kernel)) rfl
theorem w_fl_Throwable_13 : (Cond.fieldLink "java/lang/Throwable" 13 "java/lang/Throwable" "UNASSIGNED_STACK" "[Ljava/lang/StackTraceElement;") ∈ wsG := wsT3 _ (List.mem_of_getElem? (i := 71) (by decide +kernel)) rfl
theorem w_fl_Throwable_20 : (Cond.fieldLink "java/lang/Throwable" 20 "java/lang/Throwable" "SUPPRESSED_SENTINEL" "Ljava/util/List;") ∈ wsG := wsT3 _ (List.mem_of_getElem? (i := 73) (by decide +kernel)) rfl
theorem w_is_Throwable : (Cond.instantiable "java/lang/Throwable" 6) ∈ wsG := wsT3 _ (List.mem_of_getElem? (i := 84) (by decide +kernel)) rfl
theorem w_fl_Throwable_31 : (Cond.fieldLink "java/lang/Throwable" 31 "java/lang/Throwable" "detailMessage" "Ljava/lang/String;") ∈ wsG := wsT3 _ (List.mem_of_getElem? (i := 100) (by decide +kernel)) rfl
theorem w_fl_Throwable_7 : (Cond.fieldLink "java/lang/Throwable" 7 "java/lang/Throwable" "cause" "Ljava/lang/Throwable;") ∈ wsG := wsT3 _ (List.mem_of_getElem? (i := 101) (by decide +kernel)) rfl
theorem w_fl_Throwable_17 : (Cond.fieldLink "java/lang/Throwable" 17 "java/lang/Throwable" "stackTrace" "[Ljava/lang/StackTraceElement;") ∈ wsG := wsT3 _ (List.mem_of_getElem? (i := 102) (by decide +kernel)) rfl
theorem w_fl_Throwable_24 : (Cond.fieldLink "java/lang/Throwable" 24 "java/lang/Throwable" "suppressedExceptions" "Ljava/util/List;") ∈ wsG := wsT3 _ (List.mem_of_getElem? (i := 103) (by decide +kernel)) rfl
theorem w_ly_IndexOutOfBoundsException_depth : (Cond.lays "java/lang/IndexOutOfBoundsException" "java/lang/Throwable" "depth" "I") ∈ wsG := wsT3 _ (List.mem_of_getElem? (i := 108) (by decide +kernel)) rfl
theorem w_ac_byte : (Cond.arrayClass FieldType.byte) ∈ wsG := wsT3 _ (List.mem_of_getElem? (i := 112) (by decide +kernel)) rfl
theorem w_ml_X7_40 : (Cond.methodLink RX7 40 yX7_requireStep) ∈ wsG := wsT3 _ (List.mem_of_getElem? (i := 113) (by decide +kernel)) rfl
theorem w_im_yX7_requireStep : (Cond.instanceMethod yX7_requireStep) ∈ wsG := wsT3 _ (List.mem_of_getElem? (i := 115) (by decide +kernel)) rfl
theorem w_co_yX7_requireStep : (Cond.code yX7_requireStep cX7_requireStep 2 none) ∈ wsG := wsT3 _ (List.mem_of_getElem? (i := 116) (by decide +kernel)) rfl
theorem w_ml_X7_47 : (Cond.methodLink RX7 47 yX5_putCam) ∈ wsG := wsT3 _ (List.mem_of_getElem? (i := 118) (by decide +kernel)) rfl
theorem w_im_yX5_putCam : (Cond.instanceMethod yX5_putCam) ∈ wsG := wsT3 _ (List.mem_of_getElem? (i := 119) (by decide +kernel)) rfl
theorem w_se_yX5_putCam : (Cond.selects RX5 yX5_putCam yX5_putCam) ∈ wsG := wsT3 _ (List.mem_of_getElem? (i := 120) (by decide +kernel)) rfl
theorem w_co_yX5_putCam : (Cond.code yX5_putCam cX5_putCam 5 none) ∈ wsG := wsT3 _ (List.mem_of_getElem? (i := 121) (by decide +kernel)) rfl
theorem w_ml_L_89 : (Cond.methodLink RL 89 yL_setPawl) ∈ wsG := wsT3 _ (List.mem_of_getElem? (i := 122) (by decide +kernel)) rfl
theorem w_st_yL_setPawl : (Cond.static yL_setPawl) ∈ wsG := wsT3 _ (List.mem_of_getElem? (i := 123) (by decide +kernel)) rfl
theorem w_cw_yL_setPawl : (Cond.codeWith yL_setPawl cL_setPawl 5 (some FieldType.int) [((0), (10), (13), (19))]) ∈ wsG := wsT3 _ (List.mem_of_getElem? (i := 124) (by decide +kernel)) rfl
theorem w_cl_L_19 : (Cond.classLink RL 19 "java/lang/IllegalArgumentException") ∈ wsG := wsT3 _ (List.mem_of_getElem? (i := 125) (by decide +kernel)) rfl
theorem w_ml_L_15 : (Cond.methodLink RL 15 yX7_setPawl) ∈ wsG := wsT3 _ (List.mem_of_getElem? (i := 126) (by decide +kernel)) rfl
theorem w_im_yX7_setPawl : (Cond.instanceMethod yX7_setPawl) ∈ wsG := wsT3 _ (List.mem_of_getElem? (i := 127) (by decide +kernel)) rfl
theorem w_se_yX7_setPawl : (Cond.selects RX7 yX7_setPawl yX7_setPawl) ∈ wsG := wsT3 _ (List.mem_of_getElem? (i := 128) (by decide +kernel)) rfl
theorem w_co_yX7_setPawl : (Cond.code yX7_setPawl cX7_setPawl 4 (some FieldType.int)) ∈ wsG := wsT3 _ (List.mem_of_getElem? (i := 129) (by decide +kernel)) rfl
theorem w_cl_X7_59 : (Cond.classLink RX7 59 "java/lang/IllegalArgumentException") ∈ wsG := wsT3 _ (List.mem_of_getElem? (i := 130) (by decide +kernel)) rfl
theorem w_is_IllegalArgumentException : (Cond.instantiable "java/lang/IllegalArgumentException" 6) ∈ wsG := wsT3 _ (List.mem_of_getElem? (i := 131) (by decide +kernel)) rfl
theorem w_ly_IllegalArgumentException_cause : (Cond.lays "java/lang/IllegalArgumentException" "java/lang/Throwable" "cause" "Ljava/lang/Throwable;") ∈ wsG := wsT3 _ (List.mem_of_getElem? (i := 134) (by decide +kernel)) rfl
theorem w_ly_IllegalArgumentException_stackTrace : (Cond.lays "java/lang/IllegalArgumentException" "java/lang/Throwable" "stackTrace" "[Ljava/lang/StackTraceElement;") ∈ wsG := wsT3 _ (List.mem_of_getElem? (i := 135) (by decide +kernel)) rfl
theorem w_ly_IllegalArgumentException_suppressedExceptions : (Cond.lays "java/lang/IllegalArgumentException" "java/lang/Throwable" "suppressedExceptions" "Ljava/util/List;") ∈ wsG := wsT3 _ (List.mem_of_getElem? (i := 136) (by decide +kernel)) rfl
theorem w_ly_IllegalArgumentException_detailMessage : (Cond.lays "java/lang/IllegalArgumentException" "java/lang/Throwable" "detailMessage" "Ljava/lang/String;") ∈ wsG := wsT3 _ (List.mem_of_getElem? (i := 137) (by decide +kernel)) rfl
theorem w_ly_IllegalArgumentException_backtrace : (Cond.lays "java/lang/IllegalArgumentException" "java/lang/Throwable" "backtrace" "Ljava/lang/Object;") ∈ wsG := wsT3 _ (List.mem_of_getElem? (i := 138) (by decide +kernel)) rfl
theorem w_ly_IllegalArgumentException_depth : (Cond.lays "java/lang/IllegalArgumentException" "java/lang/Throwable" "depth" "I") ∈ wsG := wsT3 _ (List.mem_of_getElem? (i := 144) (by decide +kernel)) rfl
theorem w_ml_L_93 : (Cond.methodLink RL 93 yL_setCylinder) ∈ wsG := wsT3 _ (List.mem_of_getElem? (i := 146) (by decide +kernel)) rfl
theorem w_st_yL_setCylinder : (Cond.static yL_setCylinder) ∈ wsG := wsT3 _ (List.mem_of_getElem? (i := 147) (by decide +kernel)) rfl
theorem w_cw_yL_setCylinder : (Cond.codeWith yL_setCylinder cL_setCylinder 7 (some FieldType.int) [((0), (14), (17), (13)), ((0), (14), (21), (19))]) ∈ wsG := wsT3 _ (List.mem_of_getElem? (i := 148) (by decide +kernel)) rfl
theorem w_ml_L_21 : (Cond.methodLink RL 21 yX7_setCylinder) ∈ wsG := wsT3 _ (List.mem_of_getElem? (i := 149) (by decide +kernel)) rfl
theorem w_im_yX7_setCylinder : (Cond.instanceMethod yX7_setCylinder) ∈ wsG := wsT3 _ (List.mem_of_getElem? (i := 150) (by decide +kernel)) rfl
theorem w_se_yX7_setCylinder : (Cond.selects RX7 yX7_setCylinder yX7_setCylinder) ∈ wsG := wsT3 _ (List.mem_of_getElem? (i := 151) (by decide +kernel)) rfl
theorem w_co_yX7_setCylinder : (Cond.code yX7_setCylinder cX7_setCylinder 5 (some FieldType.int)) ∈ wsG := wsT3 _ (List.mem_of_getElem? (i := 152) (by decide +kernel)) rfl
theorem w_ml_L_97 : (Cond.methodLink RL 97 yL_setAir) ∈ wsG := wsT3 _ (List.mem_of_getElem? (i := 154) (by decide +kernel)) rfl
theorem w_st_yL_setAir : (Cond.static yL_setAir) ∈ wsG := wsT3 _ (List.mem_of_getElem? (i := 155) (by decide +kernel)) rfl
theorem w_cw_yL_setAir : (Cond.codeWith yL_setAir cL_setAir 5 (some FieldType.int) [((0), (10), (13), (19))]) ∈ wsG := wsT3 _ (List.mem_of_getElem? (i := 156) (by decide +kernel)) rfl
theorem w_ml_L_25 : (Cond.methodLink RL 25 yX7_setAir) ∈ wsG := wsT3 _ (List.mem_of_getElem? (i := 157) (by decide +kernel)) rfl
theorem w_im_yX7_setAir : (Cond.instanceMethod yX7_setAir) ∈ wsG := wsT3 _ (List.mem_of_getElem? (i := 158) (by decide +kernel)) rfl
theorem w_se_yX7_setAir : (Cond.selects RX7 yX7_setAir yX7_setAir) ∈ wsG := wsT3 _ (List.mem_of_getElem? (i := 159) (by decide +kernel)) rfl
theorem w_co_yX7_setAir : (Cond.code yX7_setAir cX7_setAir 3 (some FieldType.int)) ∈ wsG := wsT3 _ (List.mem_of_getElem? (i := 160) (by decide +kernel)) rfl
theorem w_ml_X7_108 : (Cond.methodLink RX7 108 yX0_letOffSurplus) ∈ wsG := wsT3 _ (List.mem_of_getElem? (i := 162) (by decide +kernel)) rfl
theorem w_ml_L_100 : (Cond.methodLink RL 100 yL_addGuard) ∈ wsG := wsT3 _ (List.mem_of_getElem? (i := 163) (by decide +kernel)) rfl
theorem w_st_yL_addGuard : (Cond.static yL_addGuard) ∈ wsG := wsT3 _ (List.mem_of_getElem? (i := 164) (by decide +kernel)) rfl
theorem w_cw_yL_addGuard : (Cond.codeWith yL_addGuard cL_addGuard 6 (some FieldType.int) [((0), (12), (15), (13)), ((0), (12), (19), (19)), ((0), (12), (23), (32))]) ∈ wsG := wsT3 _ (List.mem_of_getElem? (i := 165) (by decide +kernel)) rfl
theorem w_cl_L_32 : (Cond.classLink RL 32 "java/lang/IllegalStateException") ∈ wsG := wsT3 _ (List.mem_of_getElem? (i := 166) (by decide +kernel)) rfl
theorem w_ml_L_28 : (Cond.methodLink RL 28 yX7_addGuard) ∈ wsG := wsT3 _ (List.mem_of_getElem? (i := 167) (by decide +kernel)) rfl
theorem w_im_yX7_addGuard : (Cond.instanceMethod yX7_addGuard) ∈ wsG := wsT3 _ (List.mem_of_getElem? (i := 168) (by decide +kernel)) rfl
theorem w_se_yX7_addGuard : (Cond.selects RX7 yX7_addGuard yX7_addGuard) ∈ wsG := wsT3 _ (List.mem_of_getElem? (i := 169) (by decide +kernel)) rfl
theorem w_co_yX7_addGuard : (Cond.code yX7_addGuard cX7_addGuard 4 (some FieldType.int)) ∈ wsG := wsT3 _ (List.mem_of_getElem? (i := 170) (by decide +kernel)) rfl
theorem w_cl_X7_125 : (Cond.classLink RX7 125 "java/lang/IllegalStateException") ∈ wsG := wsT3 _ (List.mem_of_getElem? (i := 172) (by decide +kernel)) rfl
theorem w_is_IllegalStateException : (Cond.instantiable "java/lang/IllegalStateException" 6) ∈ wsG := wsT3 _ (List.mem_of_getElem? (i := 173) (by decide +kernel)) rfl
theorem w_ly_IllegalStateException_cause : (Cond.lays "java/lang/IllegalStateException" "java/lang/Throwable" "cause" "Ljava/lang/Throwable;") ∈ wsG := wsT3 _ (List.mem_of_getElem? (i := 176) (by decide +kernel)) rfl
theorem w_ly_IllegalStateException_stackTrace : (Cond.lays "java/lang/IllegalStateException" "java/lang/Throwable" "stackTrace" "[Ljava/lang/StackTraceElement;") ∈ wsG := wsT3 _ (List.mem_of_getElem? (i := 177) (by decide +kernel)) rfl
theorem w_ly_IllegalStateException_suppressedExceptions : (Cond.lays "java/lang/IllegalStateException" "java/lang/Throwable" "suppressedExceptions" "Ljava/util/List;") ∈ wsG := wsT3 _ (List.mem_of_getElem? (i := 178) (by decide +kernel)) rfl
theorem w_ly_IllegalStateException_detailMessage : (Cond.lays "java/lang/IllegalStateException" "java/lang/Throwable" "detailMessage" "Ljava/lang/String;") ∈ wsG := wsT3 _ (List.mem_of_getElem? (i := 179) (by decide +kernel)) rfl
theorem w_ly_IllegalStateException_backtrace : (Cond.lays "java/lang/IllegalStateException" "java/lang/Throwable" "backtrace" "Ljava/lang/Object;") ∈ wsG := wsT3 _ (List.mem_of_getElem? (i := 180) (by decide +kernel)) rfl
theorem w_ly_IllegalStateException_depth : (Cond.lays "java/lang/IllegalStateException" "java/lang/Throwable" "depth" "I") ∈ wsG := wsT3 _ (List.mem_of_getElem? (i := 186) (by decide +kernel)) rfl
theorem w_ml_X7_130 : (Cond.methodLink RX7 130 yX3_putLast) ∈ wsG := wsT3 _ (List.mem_of_getElem? (i := 188) (by decide +kernel)) rfl
theorem w_im_yX3_putLast : (Cond.instanceMethod yX3_putLast) ∈ wsG := wsT3 _ (List.mem_of_getElem? (i := 189) (by decide +kernel)) rfl
theorem w_se_yX3_putLast : (Cond.selects RX3 yX3_putLast yX3_putLast) ∈ wsG := wsT3 _ (List.mem_of_getElem? (i := 190) (by decide +kernel)) rfl
theorem w_co_yX3_putLast : (Cond.code yX3_putLast cX3_putLast 4 (some FieldType.int)) ∈ wsG := wsT3 _ (List.mem_of_getElem? (i := 191) (by decide +kernel)) rfl
theorem w_ml_L_104 : (Cond.methodLink RL 104 yL_removeGuard) ∈ wsG := wsT3 _ (List.mem_of_getElem? (i := 193) (by decide +kernel)) rfl
theorem w_st_yL_removeGuard : (Cond.static yL_removeGuard) ∈ wsG := wsT3 _ (List.mem_of_getElem? (i := 194) (by decide +kernel)) rfl
theorem w_cw_yL_removeGuard : (Cond.codeWith yL_removeGuard cL_removeGuard 4 (some FieldType.int) [((0), (9), (12), (13))]) ∈ wsG := wsT3 _ (List.mem_of_getElem? (i := 195) (by decide +kernel)) rfl
theorem w_ml_L_34 : (Cond.methodLink RL 34 yX7_removeGuard) ∈ wsG := wsT3 _ (List.mem_of_getElem? (i := 196) (by decide +kernel)) rfl
theorem w_im_yX7_removeGuard : (Cond.instanceMethod yX7_removeGuard) ∈ wsG := wsT3 _ (List.mem_of_getElem? (i := 197) (by decide +kernel)) rfl
theorem w_se_yX7_removeGuard : (Cond.selects RX7 yX7_removeGuard yX7_removeGuard) ∈ wsG := wsT3 _ (List.mem_of_getElem? (i := 198) (by decide +kernel)) rfl
theorem w_co_yX7_removeGuard : (Cond.code yX7_removeGuard cX7_removeGuard 2 (some FieldType.int)) ∈ wsG := wsT3 _ (List.mem_of_getElem? (i := 199) (by decide +kernel)) rfl
theorem w_ml_X7_134 : (Cond.methodLink RX7 134 yX7_requireGuard) ∈ wsG := wsT3 _ (List.mem_of_getElem? (i := 200) (by decide +kernel)) rfl
theorem w_im_yX7_requireGuard : (Cond.instanceMethod yX7_requireGuard) ∈ wsG := wsT3 _ (List.mem_of_getElem? (i := 202) (by decide +kernel)) rfl
theorem w_co_yX7_requireGuard : (Cond.code yX7_requireGuard cX7_requireGuard 2 none) ∈ wsG := wsT3 _ (List.mem_of_getElem? (i := 203) (by decide +kernel)) rfl
theorem w_ml_X7_137 : (Cond.methodLink RX7 137 yX3_takeOut) ∈ wsG := wsT3 _ (List.mem_of_getElem? (i := 205) (by decide +kernel)) rfl
theorem w_im_yX3_takeOut : (Cond.instanceMethod yX3_takeOut) ∈ wsG := wsT3 _ (List.mem_of_getElem? (i := 206) (by decide +kernel)) rfl
theorem w_se_yX3_takeOut : (Cond.selects RX3 yX3_takeOut yX3_takeOut) ∈ wsG := wsT3 _ (List.mem_of_getElem? (i := 207) (by decide +kernel)) rfl
theorem w_co_yX3_takeOut : (Cond.code yX3_takeOut cX3_takeOut 3 none) ∈ wsG := wsT3 _ (List.mem_of_getElem? (i := 208) (by decide +kernel)) rfl
theorem w_ml_X3_33 : (Cond.methodLink RX3 33 Lib.Math.max.name) ∈ wsG := wsT3 _ (List.mem_of_getElem? (i := 209) (by decide +kernel)) rfl
theorem w_ml_L_108 : (Cond.methodLink RL 108 yL_turn) ∈ wsG := wsT3 _ (List.mem_of_getElem? (i := 210) (by decide +kernel)) rfl
theorem w_st_yL_turn : (Cond.static yL_turn) ∈ wsG := wsT3 _ (List.mem_of_getElem? (i := 211) (by decide +kernel)) rfl
theorem w_cw_yL_turn : (Cond.codeWith yL_turn cL_turn 4 (some FieldType.int) [((0), (9), (12), (13))]) ∈ wsG := wsT3 _ (List.mem_of_getElem? (i := 212) (by decide +kernel)) rfl
theorem w_ml_L_38 : (Cond.methodLink RL 38 yX7_turn) ∈ wsG := wsT3 _ (List.mem_of_getElem? (i := 213) (by decide +kernel)) rfl
theorem w_im_yX7_turn : (Cond.instanceMethod yX7_turn) ∈ wsG := wsT3 _ (List.mem_of_getElem? (i := 214) (by decide +kernel)) rfl
theorem w_se_yX7_turn : (Cond.selects RX7 yX7_turn yX7_turn) ∈ wsG := wsT3 _ (List.mem_of_getElem? (i := 215) (by decide +kernel)) rfl
theorem w_co_yX7_turn : (Cond.code yX7_turn cX7_turn 3 (some FieldType.int)) ∈ wsG := wsT3 _ (List.mem_of_getElem? (i := 216) (by decide +kernel)) rfl
theorem w_ml_L_111 : (Cond.methodLink RL 111 yL_run) ∈ wsG := wsT3 _ (List.mem_of_getElem? (i := 217) (by decide +kernel)) rfl
theorem w_st_yL_run : (Cond.static yL_run) ∈ wsG := wsT3 _ (List.mem_of_getElem? (i := 218) (by decide +kernel)) rfl
theorem w_cw_yL_run : (Cond.codeWith yL_run cL_run 4 (some FieldType.int) [((0), (9), (12), (19)), ((0), (9), (15), (32))]) ∈ wsG := wsT3 _ (List.mem_of_getElem? (i := 219) (by decide +kernel)) rfl
theorem w_ml_L_41 : (Cond.methodLink RL 41 yX7_run) ∈ wsG := wsT3 _ (List.mem_of_getElem? (i := 220) (by decide +kernel)) rfl
theorem w_im_yX7_run : (Cond.instanceMethod yX7_run) ∈ wsG := wsT3 _ (List.mem_of_getElem? (i := 221) (by decide +kernel)) rfl
theorem w_se_yX7_run : (Cond.selects RX7 yX7_run yX7_run) ∈ wsG := wsT3 _ (List.mem_of_getElem? (i := 222) (by decide +kernel)) rfl
theorem w_co_yX7_run : (Cond.code yX7_run cX7_run 4 (some FieldType.int)) ∈ wsG := wsT3 _ (List.mem_of_getElem? (i := 223) (by decide +kernel)) rfl
theorem w_ct_X7_151 : (Cond.constant RX7 151 (100000)) ∈ wsG := wsT3 _ (List.mem_of_getElem? (i := 225) (by decide +kernel)) rfl
theorem w_ml_L_114 : (Cond.methodLink RL 114 yL_cam) ∈ wsG := wsT3 _ (List.mem_of_getElem? (i := 227) (by decide +kernel)) rfl
theorem w_st_yL_cam : (Cond.static yL_cam) ∈ wsG := wsT3 _ (List.mem_of_getElem? (i := 228) (by decide +kernel)) rfl
theorem w_cw_yL_cam : (Cond.codeWith yL_cam cL_cam 5 (some FieldType.int) [((0), (17), (20), (13))]) ∈ wsG := wsT3 _ (List.mem_of_getElem? (i := 229) (by decide +kernel)) rfl
theorem w_ml_L_44 : (Cond.methodLink RL 44 yX7_cam) ∈ wsG := wsT3 _ (List.mem_of_getElem? (i := 230) (by decide +kernel)) rfl
theorem w_im_yX7_cam : (Cond.instanceMethod yX7_cam) ∈ wsG := wsT3 _ (List.mem_of_getElem? (i := 231) (by decide +kernel)) rfl
theorem w_se_yX7_cam : (Cond.selects RX7 yX7_cam yX7_cam) ∈ wsG := wsT3 _ (List.mem_of_getElem? (i := 232) (by decide +kernel)) rfl
theorem w_co_yX7_cam : (Cond.code yX7_cam cX7_cam 3 (some FieldType.boolean)) ∈ wsG := wsT3 _ (List.mem_of_getElem? (i := 233) (by decide +kernel)) rfl
theorem w_ml_L_117 : (Cond.methodLink RL 117 yL_cylinder) ∈ wsG := wsT3 _ (List.mem_of_getElem? (i := 234) (by decide +kernel)) rfl
theorem w_st_yL_cylinder : (Cond.static yL_cylinder) ∈ wsG := wsT3 _ (List.mem_of_getElem? (i := 235) (by decide +kernel)) rfl
theorem w_cw_yL_cylinder : (Cond.codeWith yL_cylinder cL_cylinder 5 (some FieldType.int) [((0), (10), (13), (13)), ((0), (10), (17), (19))]) ∈ wsG := wsT3 _ (List.mem_of_getElem? (i := 236) (by decide +kernel)) rfl
theorem w_ml_L_48 : (Cond.methodLink RL 48 yX7_cylinder) ∈ wsG := wsT3 _ (List.mem_of_getElem? (i := 237) (by decide +kernel)) rfl
theorem w_im_yX7_cylinder : (Cond.instanceMethod yX7_cylinder) ∈ wsG := wsT3 _ (List.mem_of_getElem? (i := 238) (by decide +kernel)) rfl
theorem w_se_yX7_cylinder : (Cond.selects RX7 yX7_cylinder yX7_cylinder) ∈ wsG := wsT3 _ (List.mem_of_getElem? (i := 239) (by decide +kernel)) rfl
theorem w_co_yX7_cylinder : (Cond.code yX7_cylinder cX7_cylinder 3 (some FieldType.int)) ∈ wsG := wsT4 _ (List.mem_of_getElem? (i := 0) (by decide +kernel)) rfl
theorem w_ml_X7_165 : (Cond.methodLink RX7 165 yX7_requireWhat) ∈ wsG := wsT4 _ (List.mem_of_getElem? (i := 1) (by decide +kernel)) rfl
theorem w_st_yX7_requireWhat : (Cond.static yX7_requireWhat) ∈ wsG := wsT4 _ (List.mem_of_getElem? (i := 2) (by decide +kernel)) rfl
theorem w_co_yX7_requireWhat : (Cond.code yX7_requireWhat cX7_requireWhat 2 none) ∈ wsG := wsT4 _ (List.mem_of_getElem? (i := 3) (by decide +kernel)) rfl
theorem w_ml_L_120 : (Cond.methodLink RL 120 yL_guard) ∈ wsG := wsT4 _ (List.mem_of_getElem? (i := 5) (by decide +kernel)) rfl
theorem w_st_yL_guard : (Cond.static yL_guard) ∈ wsG := wsT4 _ (List.mem_of_getElem? (i := 6) (by decide +kernel)) rfl
theorem w_cw_yL_guard : (Cond.codeWith yL_guard cL_guard 5 (some FieldType.int) [((0), (10), (13), (13)), ((0), (10), (17), (19))]) ∈ wsG := wsT4 _ (List.mem_of_getElem? (i := 7) (by decide +kernel)) rfl
theorem w_ml_L_51 : (Cond.methodLink RL 51 yX7_guard) ∈ wsG := wsT4 _ (List.mem_of_getElem? (i := 8) (by decide +kernel)) rfl
theorem w_im_yX7_guard : (Cond.instanceMethod yX7_guard) ∈ wsG := wsT4 _ (List.mem_of_getElem? (i := 9) (by decide +kernel)) rfl
theorem w_se_yX7_guard : (Cond.selects RX7 yX7_guard yX7_guard) ∈ wsG := wsT4 _ (List.mem_of_getElem? (i := 10) (by decide +kernel)) rfl
theorem w_co_yX7_guard : (Cond.code yX7_guard cX7_guard 3 (some FieldType.int)) ∈ wsG := wsT4 _ (List.mem_of_getElem? (i := 11) (by decide +kernel)) rfl
theorem w_ml_L_123 : (Cond.methodLink RL 123 yL_value) ∈ wsG := wsT4 _ (List.mem_of_getElem? (i := 12) (by decide +kernel)) rfl
theorem w_st_yL_value : (Cond.static yL_value) ∈ wsG := wsT4 _ (List.mem_of_getElem? (i := 13) (by decide +kernel)) rfl
theorem w_cw_yL_value : (Cond.codeWith yL_value cL_value 4 (some FieldType.int) [((0), (9), (12), (19))]) ∈ wsG := wsT4 _ (List.mem_of_getElem? (i := 14) (by decide +kernel)) rfl
theorem w_ml_L_54 : (Cond.methodLink RL 54 yX7_value) ∈ wsG := wsT4 _ (List.mem_of_getElem? (i := 15) (by decide +kernel)) rfl
theorem w_im_yX7_value : (Cond.instanceMethod yX7_value) ∈ wsG := wsT4 _ (List.mem_of_getElem? (i := 16) (by decide +kernel)) rfl
theorem w_se_yX7_value : (Cond.selects RX7 yX7_value yX7_value) ∈ wsG := wsT4 _ (List.mem_of_getElem? (i := 17) (by decide +kernel)) rfl
theorem w_co_yX7_value : (Cond.code yX7_value cX7_value 2 (some FieldType.int)) ∈ wsG := wsT4 _ (List.mem_of_getElem? (i := 18) (by decide +kernel)) rfl
theorem w_ml_L_126 : (Cond.methodLink RL 126 yL_chart) ∈ wsG := wsT4 _ (List.mem_of_getElem? (i := 19) (by decide +kernel)) rfl
theorem w_st_yL_chart : (Cond.static yL_chart) ∈ wsG := wsT4 _ (List.mem_of_getElem? (i := 20) (by decide +kernel)) rfl
theorem w_cw_yL_chart : (Cond.codeWith yL_chart cL_chart 5 (some FieldType.int) [((0), (10), (13), (13))]) ∈ wsG := wsT4 _ (List.mem_of_getElem? (i := 21) (by decide +kernel)) rfl
theorem w_ml_L_57 : (Cond.methodLink RL 57 yX7_chart) ∈ wsG := wsT4 _ (List.mem_of_getElem? (i := 22) (by decide +kernel)) rfl
theorem w_im_yX7_chart : (Cond.instanceMethod yX7_chart) ∈ wsG := wsT4 _ (List.mem_of_getElem? (i := 23) (by decide +kernel)) rfl
theorem w_se_yX7_chart : (Cond.selects RX7 yX7_chart yX7_chart) ∈ wsG := wsT4 _ (List.mem_of_getElem? (i := 24) (by decide +kernel)) rfl
theorem w_co_yX7_chart : (Cond.code yX7_chart cX7_chart 3 (some FieldType.int)) ∈ wsG := wsT4 _ (List.mem_of_getElem? (i := 25) (by decide +kernel)) rfl
theorem w_ml_L_129 : (Cond.methodLink RL 129 yL_skips) ∈ wsG := wsT4 _ (List.mem_of_getElem? (i := 26) (by decide +kernel)) rfl
theorem w_st_yL_skips : (Cond.static yL_skips) ∈ wsG := wsT4 _ (List.mem_of_getElem? (i := 27) (by decide +kernel)) rfl
theorem w_cw_yL_skips : (Cond.codeWith yL_skips cL_skips 4 (some FieldType.int) [((0), (9), (12), (13))]) ∈ wsG := wsT4 _ (List.mem_of_getElem? (i := 28) (by decide +kernel)) rfl
theorem w_ml_L_60 : (Cond.methodLink RL 60 yX7_skips) ∈ wsG := wsT4 _ (List.mem_of_getElem? (i := 29) (by decide +kernel)) rfl
theorem w_im_yX7_skips : (Cond.instanceMethod yX7_skips) ∈ wsG := wsT4 _ (List.mem_of_getElem? (i := 30) (by decide +kernel)) rfl
theorem w_se_yX7_skips : (Cond.selects RX7 yX7_skips yX7_skips) ∈ wsG := wsT4 _ (List.mem_of_getElem? (i := 31) (by decide +kernel)) rfl
theorem w_co_yX7_skips : (Cond.code yX7_skips cX7_skips 2 (some FieldType.int)) ∈ wsG := wsT4 _ (List.mem_of_getElem? (i := 32) (by decide +kernel)) rfl
theorem w_ml_L_132 : (Cond.methodLink RL 132 yL_ticksToOut) ∈ wsG := wsT4 _ (List.mem_of_getElem? (i := 33) (by decide +kernel)) rfl
theorem w_st_yL_ticksToOut : (Cond.static yL_ticksToOut) ∈ wsG := wsT4 _ (List.mem_of_getElem? (i := 34) (by decide +kernel)) rfl
theorem w_cw_yL_ticksToOut : (Cond.codeWith yL_ticksToOut cL_ticksToOut 4 (some FieldType.int) [((0), (9), (12), (13))]) ∈ wsG := wsT4 _ (List.mem_of_getElem? (i := 35) (by decide +kernel)) rfl
theorem w_ml_L_63 : (Cond.methodLink RL 63 yX7_ticksToOut) ∈ wsG := wsT4 _ (List.mem_of_getElem? (i := 36) (by decide +kernel)) rfl
theorem w_im_yX7_ticksToOut : (Cond.instanceMethod yX7_ticksToOut) ∈ wsG := wsT4 _ (List.mem_of_getElem? (i := 37) (by decide +kernel)) rfl
theorem w_se_yX7_ticksToOut : (Cond.selects RX7 yX7_ticksToOut yX7_ticksToOut) ∈ wsG := wsT4 _ (List.mem_of_getElem? (i := 38) (by decide +kernel)) rfl
theorem w_co_yX7_ticksToOut : (Cond.code yX7_ticksToOut cX7_ticksToOut 3 (some FieldType.int)) ∈ wsG := wsT4 _ (List.mem_of_getElem? (i := 39) (by decide +kernel)) rfl
theorem w_ml_L_139 : (Cond.methodLink RL 139 yL_leastCompressor) ∈ wsG := wsT4 _ (List.mem_of_getElem? (i := 40) (by decide +kernel)) rfl
theorem w_st_yL_leastCompressor : (Cond.static yL_leastCompressor) ∈ wsG := wsT4 _ (List.mem_of_getElem? (i := 41) (by decide +kernel)) rfl
theorem w_cw_yL_leastCompressor : (Cond.codeWith yL_leastCompressor cL_leastCompressor 4 (some FieldType.int) [((0), (9), (12), (19))]) ∈ wsG := wsT4 _ (List.mem_of_getElem? (i := 42) (by decide +kernel)) rfl
theorem w_ml_L_66 : (Cond.methodLink RL 66 yX7_leastCompressor) ∈ wsG := wsT4 _ (List.mem_of_getElem? (i := 43) (by decide +kernel)) rfl
theorem w_im_yX7_leastCompressor : (Cond.instanceMethod yX7_leastCompressor) ∈ wsG := wsT4 _ (List.mem_of_getElem? (i := 44) (by decide +kernel)) rfl
theorem w_se_yX7_leastCompressor : (Cond.selects RX7 yX7_leastCompressor yX7_leastCompressor) ∈ wsG := wsT4 _ (List.mem_of_getElem? (i := 45) (by decide +kernel)) rfl
theorem w_co_yX7_leastCompressor : (Cond.code yX7_leastCompressor cX7_leastCompressor 3 (some FieldType.int)) ∈ wsG := wsT4 _ (List.mem_of_getElem? (i := 46) (by decide +kernel)) rfl
theorem w_ml_X7_197 : (Cond.methodLink RX7 197 yX7_goesWithoutSkip) ∈ wsG := wsT4 _ (List.mem_of_getElem? (i := 47) (by decide +kernel)) rfl
theorem w_im_yX7_goesWithoutSkip : (Cond.instanceMethod yX7_goesWithoutSkip) ∈ wsG := wsT4 _ (List.mem_of_getElem? (i := 49) (by decide +kernel)) rfl
theorem w_co_yX7_goesWithoutSkip : (Cond.code yX7_goesWithoutSkip cX7_goesWithoutSkip 4 (some FieldType.boolean)) ∈ wsG := wsT4 _ (List.mem_of_getElem? (i := 50) (by decide +kernel)) rfl
theorem w_ml_L_156 : (Cond.methodLink RL 156 yL_append) ∈ wsG := wsT4 _ (List.mem_of_getElem? (i := 51) (by decide +kernel)) rfl
theorem w_st_yL_append : (Cond.static yL_append) ∈ wsG := wsT4 _ (List.mem_of_getElem? (i := 52) (by decide +kernel)) rfl
theorem w_cw_yL_append : (Cond.codeWith yL_append cL_append 4 (some FieldType.int) [((0), (9), (12), (19)), ((0), (9), (15), (32))]) ∈ wsG := wsT4 _ (List.mem_of_getElem? (i := 53) (by decide +kernel)) rfl
theorem w_ml_L_69 : (Cond.methodLink RL 69 yX7_append) ∈ wsG := wsT4 _ (List.mem_of_getElem? (i := 54) (by decide +kernel)) rfl
theorem w_im_yX7_append : (Cond.instanceMethod yX7_append) ∈ wsG := wsT4 _ (List.mem_of_getElem? (i := 55) (by decide +kernel)) rfl
theorem w_se_yX7_append : (Cond.selects RX7 yX7_append yX7_append) ∈ wsG := wsT4 _ (List.mem_of_getElem? (i := 56) (by decide +kernel)) rfl
theorem w_co_yX7_append : (Cond.code yX7_append cX7_append 2 (some FieldType.int)) ∈ wsG := wsT4 _ (List.mem_of_getElem? (i := 57) (by decide +kernel)) rfl
theorem w_ml_X7_221 : (Cond.methodLink RX7 221 yX6_putLast) ∈ wsG := wsT4 _ (List.mem_of_getElem? (i := 60) (by decide +kernel)) rfl
theorem w_im_yX6_putLast : (Cond.instanceMethod yX6_putLast) ∈ wsG := wsT4 _ (List.mem_of_getElem? (i := 61) (by decide +kernel)) rfl
theorem w_se_yX6_putLast : (Cond.selects RX6 yX6_putLast yX6_putLast) ∈ wsG := wsT4 _ (List.mem_of_getElem? (i := 62) (by decide +kernel)) rfl
theorem w_co_yX6_putLast : (Cond.code yX6_putLast cX6_putLast 2 none) ∈ wsG := wsT4 _ (List.mem_of_getElem? (i := 63) (by decide +kernel)) rfl
theorem w_ml_L_167 : (Cond.methodLink RL 167 yL_undo) ∈ wsG := wsT4 _ (List.mem_of_getElem? (i := 64) (by decide +kernel)) rfl
theorem w_st_yL_undo : (Cond.static yL_undo) ∈ wsG := wsT4 _ (List.mem_of_getElem? (i := 65) (by decide +kernel)) rfl
theorem w_cw_yL_undo : (Cond.codeWith yL_undo cL_undo 3 (some FieldType.int) [((0), (8), (11), (32))]) ∈ wsG := wsT4 _ (List.mem_of_getElem? (i := 66) (by decide +kernel)) rfl
theorem w_ml_L_72 : (Cond.methodLink RL 72 yX7_undo) ∈ wsG := wsT4 _ (List.mem_of_getElem? (i := 67) (by decide +kernel)) rfl
theorem w_im_yX7_undo : (Cond.instanceMethod yX7_undo) ∈ wsG := wsT4 _ (List.mem_of_getElem? (i := 68) (by decide +kernel)) rfl
theorem w_se_yX7_undo : (Cond.selects RX7 yX7_undo yX7_undo) ∈ wsG := wsT4 _ (List.mem_of_getElem? (i := 69) (by decide +kernel)) rfl
theorem w_co_yX7_undo : (Cond.code yX7_undo cX7_undo 1 (some FieldType.int)) ∈ wsG := wsT4 _ (List.mem_of_getElem? (i := 70) (by decide +kernel)) rfl
theorem w_ml_X7_239 : (Cond.methodLink RX7 239 yX4_restore) ∈ wsG := wsT4 _ (List.mem_of_getElem? (i := 72) (by decide +kernel)) rfl
theorem w_im_yX4_restore : (Cond.instanceMethod yX4_restore) ∈ wsG := wsT4 _ (List.mem_of_getElem? (i := 73) (by decide +kernel)) rfl
theorem w_se_yX4_restore : (Cond.selects RX4 yX4_restore yX4_restore) ∈ wsG := wsT4 _ (List.mem_of_getElem? (i := 74) (by decide +kernel)) rfl
theorem w_co_yX4_restore : (Cond.code yX4_restore cX4_restore 3 none) ∈ wsG := wsT4 _ (List.mem_of_getElem? (i := 75) (by decide +kernel)) rfl
theorem w_cl_L_77 : (Cond.classLink RL 77 RX8) ∈ wsG := wsT4 _ (List.mem_of_getElem? (i := 76) (by decide +kernel)) rfl
theorem w_is_X8 : (Cond.instantiable RX8 13) ∈ wsG := wsT4 _ (List.mem_of_getElem? (i := 77) (by decide +kernel)) rfl
theorem w_ml_L_79 : (Cond.methodLink RL 79 yX8_init) ∈ wsG := wsT4 _ (List.mem_of_getElem? (i := 78) (by decide +kernel)) rfl
theorem w_im_yX8_init : (Cond.instanceMethod yX8_init) ∈ wsG := wsT4 _ (List.mem_of_getElem? (i := 79) (by decide +kernel)) rfl
theorem w_co_yX8_init : (Cond.code yX8_init cX8_init 2 none) ∈ wsG := wsT4 _ (List.mem_of_getElem? (i := 80) (by decide +kernel)) rfl
theorem w_ml_X8_1 : (Cond.methodLink RX8 1 objectInit) ∈ wsG := wsT4 _ (List.mem_of_getElem? (i := 81) (by decide +kernel)) rfl
theorem w_ml_X8_28 : (Cond.methodLink RX8 28 yX8_empties) ∈ wsG := wsT4 _ (List.mem_of_getElem? (i := 82) (by decide +kernel)) rfl
theorem w_im_yX8_empties : (Cond.instanceMethod yX8_empties) ∈ wsG := wsT4 _ (List.mem_of_getElem? (i := 84) (by decide +kernel)) rfl
theorem w_co_yX8_empties : (Cond.code yX8_empties cX8_empties 2 none) ∈ wsG := wsT4 _ (List.mem_of_getElem? (i := 85) (by decide +kernel)) rfl
theorem w_fl_X8_7 : (Cond.fieldLink RX8 7 "CamDrumModel" "all" "[I") ∈ wsG := wsT4 _ (List.mem_of_getElem? (i := 86) (by decide +kernel)) rfl
theorem w_fl_X8_13 : (Cond.fieldLink RX8 13 "CamDrumModel" "saved" "[I") ∈ wsG := wsT4 _ (List.mem_of_getElem? (i := 87) (by decide +kernel)) rfl
theorem w_fl_X8_16 : (Cond.fieldLink RX8 16 "CamDrumModel" "aside" "[I") ∈ wsG := wsT4 _ (List.mem_of_getElem? (i := 88) (by decide +kernel)) rfl
theorem w_fl_X8_35 : (Cond.fieldLink RX8 35 "CamDrumModel" "savedMany" "I") ∈ wsG := wsT4 _ (List.mem_of_getElem? (i := 89) (by decide +kernel)) rfl
theorem w_fl_X8_31 : (Cond.fieldLink RX8 31 "CamDrumModel" "threw" "I") ∈ wsG := wsT4 _ (List.mem_of_getElem? (i := 90) (by decide +kernel)) rfl
theorem w_fl_X8_99 : (Cond.fieldLink RX8 99 "CamDrumModel" "wentOn" "Z") ∈ wsG := wsT4 _ (List.mem_of_getElem? (i := 91) (by decide +kernel)) rfl
theorem w_fl_X8_107 : (Cond.fieldLink RX8 107 "CamDrumModel" "wereOut" "Z") ∈ wsG := wsT4 _ (List.mem_of_getElem? (i := 92) (by decide +kernel)) rfl
theorem w_fl_X8_19 : (Cond.fieldLink RX8 19 "CamDrumModel" "first" "[I") ∈ wsG := wsT4 _ (List.mem_of_getElem? (i := 93) (by decide +kernel)) rfl
theorem w_fl_X8_22 : (Cond.fieldLink RX8 22 "CamDrumModel" "text" "[I") ∈ wsG := wsT4 _ (List.mem_of_getElem? (i := 94) (by decide +kernel)) rfl
theorem w_fl_X8_157 : (Cond.fieldLink RX8 157 "CamDrumModel" "textLong" "I") ∈ wsG := wsT4 _ (List.mem_of_getElem? (i := 95) (by decide +kernel)) rfl
theorem w_fl_X8_160 : (Cond.fieldLink RX8 160 "CamDrumModel" "place" "I") ∈ wsG := wsT4 _ (List.mem_of_getElem? (i := 96) (by decide +kernel)) rfl
theorem w_fl_X8_25 : (Cond.fieldLink RX8 25 "CamDrumModel" "told" "[I") ∈ wsG := wsT4 _ (List.mem_of_getElem? (i := 97) (by decide +kernel)) rfl
theorem w_fl_X8_174 : (Cond.fieldLink RX8 174 "CamDrumModel" "toldSteps" "I") ∈ wsG := wsT4 _ (List.mem_of_getElem? (i := 98) (by decide +kernel)) rfl
theorem w_ly_X8_all : (Cond.laysFinal "CamDrumModel" "CamDrumModel" "all" "[I") ∈ wsG := wsT4 _ (List.mem_of_getElem? (i := 99) (by decide +kernel)) rfl
theorem w_ly_X8_saved : (Cond.laysFinal "CamDrumModel" "CamDrumModel" "saved" "[I") ∈ wsG := wsT4 _ (List.mem_of_getElem? (i := 101) (by decide +kernel)) rfl
theorem w_ly_X8_aside : (Cond.laysFinal "CamDrumModel" "CamDrumModel" "aside" "[I") ∈ wsG := wsT4 _ (List.mem_of_getElem? (i := 103) (by decide +kernel)) rfl
theorem w_ly_X8_savedMany : (Cond.lays "CamDrumModel" "CamDrumModel" "savedMany" "I") ∈ wsG := wsT4 _ (List.mem_of_getElem? (i := 105) (by decide +kernel)) rfl
theorem w_ly_X8_threw : (Cond.lays "CamDrumModel" "CamDrumModel" "threw" "I") ∈ wsG := wsT4 _ (List.mem_of_getElem? (i := 107) (by decide +kernel)) rfl
theorem w_ly_X8_wentOn : (Cond.lays "CamDrumModel" "CamDrumModel" "wentOn" "Z") ∈ wsG := wsT4 _ (List.mem_of_getElem? (i := 109) (by decide +kernel)) rfl
theorem w_ly_X8_wereOut : (Cond.lays "CamDrumModel" "CamDrumModel" "wereOut" "Z") ∈ wsG := wsT4 _ (List.mem_of_getElem? (i := 111) (by decide +kernel)) rfl
theorem w_ly_X8_first : (Cond.laysFinal "CamDrumModel" "CamDrumModel" "first" "[I") ∈ wsG := wsT4 _ (List.mem_of_getElem? (i := 113) (by decide +kernel)) rfl
theorem w_ly_X8_text : (Cond.laysFinal "CamDrumModel" "CamDrumModel" "text" "[I") ∈ wsG := wsT4 _ (List.mem_of_getElem? (i := 115) (by decide +kernel)) rfl
theorem w_ly_X8_textLong : (Cond.lays "CamDrumModel" "CamDrumModel" "textLong" "I") ∈ wsG := wsT4 _ (List.mem_of_getElem? (i := 117) (by decide +kernel)) rfl
theorem w_ly_X8_place : (Cond.lays "CamDrumModel" "CamDrumModel" "place" "I") ∈ wsG := wsT4 _ (List.mem_of_getElem? (i := 119) (by decide +kernel)) rfl
theorem w_ly_X8_told : (Cond.laysFinal "CamDrumModel" "CamDrumModel" "told" "[I") ∈ wsG := wsT4 _ (List.mem_of_getElem? (i := 121) (by decide +kernel)) rfl
theorem w_ly_X8_toldSteps : (Cond.lays "CamDrumModel" "CamDrumModel" "toldSteps" "I") ∈ wsG := wsT4 _ (List.mem_of_getElem? (i := 123) (by decide +kernel)) rfl
theorem w_ml_L_86 : (Cond.methodLink RL 86 yX8_thrown) ∈ wsG := wsT4 _ (List.mem_of_getElem? (i := 126) (by decide +kernel)) rfl
theorem w_im_yX8_thrown : (Cond.instanceMethod yX8_thrown) ∈ wsG := wsT4 _ (List.mem_of_getElem? (i := 127) (by decide +kernel)) rfl
theorem w_se_yX8_thrown : (Cond.selects RX8 yX8_thrown yX8_thrown) ∈ wsG := wsT4 _ (List.mem_of_getElem? (i := 128) (by decide +kernel)) rfl
theorem w_co_yX8_thrown : (Cond.code yX8_thrown cX8_thrown 1 (some FieldType.int)) ∈ wsG := wsT4 _ (List.mem_of_getElem? (i := 129) (by decide +kernel)) rfl
theorem w_ml_L_85 : (Cond.methodLink RL 85 yX8_setCam) ∈ wsG := wsT4 _ (List.mem_of_getElem? (i := 130) (by decide +kernel)) rfl
theorem w_im_yX8_setCam : (Cond.instanceMethod yX8_setCam) ∈ wsG := wsT4 _ (List.mem_of_getElem? (i := 131) (by decide +kernel)) rfl
theorem w_se_yX8_setCam : (Cond.selects RX8 yX8_setCam yX8_setCam) ∈ wsG := wsT4 _ (List.mem_of_getElem? (i := 132) (by decide +kernel)) rfl
theorem w_co_yX8_setCam : (Cond.code yX8_setCam cX8_setCam 5 (some FieldType.int)) ∈ wsG := wsT4 _ (List.mem_of_getElem? (i := 133) (by decide +kernel)) rfl
theorem w_ml_X8_48 : (Cond.methodLink RX8 48 yX8_isCylinder) ∈ wsG := wsT4 _ (List.mem_of_getElem? (i := 134) (by decide +kernel)) rfl
theorem w_st_yX8_isCylinder : (Cond.static yX8_isCylinder) ∈ wsG := wsT4 _ (List.mem_of_getElem? (i := 135) (by decide +kernel)) rfl
theorem w_co_yX8_isCylinder : (Cond.code yX8_isCylinder cX8_isCylinder 1 (some FieldType.boolean)) ∈ wsG := wsT4 _ (List.mem_of_getElem? (i := 136) (by decide +kernel)) rfl
theorem w_ct_X8_38 : (Cond.constantLong RX8 38 (4)) ∈ wsG := wsT4 _ (List.mem_of_getElem? (i := 137) (by decide +kernel)) rfl
theorem w_ml_X8_40 : (Cond.methodLink RX8 40 yX8_in) ∈ wsG := wsT4 _ (List.mem_of_getElem? (i := 138) (by decide +kernel)) rfl
theorem w_st_yX8_in : (Cond.static yX8_in) ∈ wsG := wsT4 _ (List.mem_of_getElem? (i := 139) (by decide +kernel)) rfl
theorem w_co_yX8_in : (Cond.code yX8_in cX8_in 6 (some FieldType.boolean)) ∈ wsG := wsT4 _ (List.mem_of_getElem? (i := 140) (by decide +kernel)) rfl
theorem w_ml_X8_52 : (Cond.methodLink RX8 52 yX8_isStep) ∈ wsG := wsT4 _ (List.mem_of_getElem? (i := 141) (by decide +kernel)) rfl
theorem w_im_yX8_isStep : (Cond.instanceMethod yX8_isStep) ∈ wsG := wsT4 _ (List.mem_of_getElem? (i := 143) (by decide +kernel)) rfl
theorem w_co_yX8_isStep : (Cond.code yX8_isStep cX8_isStep 2 (some FieldType.boolean)) ∈ wsG := wsT4 _ (List.mem_of_getElem? (i := 144) (by decide +kernel)) rfl
theorem w_ml_X8_55 : (Cond.methodLink RX8 55 yX8_throwing) ∈ wsG := wsT4 _ (List.mem_of_getElem? (i := 145) (by decide +kernel)) rfl
theorem w_im_yX8_throwing : (Cond.instanceMethod yX8_throwing) ∈ wsG := wsT4 _ (List.mem_of_getElem? (i := 147) (by decide +kernel)) rfl
theorem w_co_yX8_throwing : (Cond.code yX8_throwing cX8_throwing 2 (some FieldType.int)) ∈ wsG := wsT4 _ (List.mem_of_getElem? (i := 148) (by decide +kernel)) rfl
theorem w_ml_X8_59 : (Cond.methodLink RX8 59 yX8_save) ∈ wsG := wsT4 _ (List.mem_of_getElem? (i := 149) (by decide +kernel)) rfl
theorem w_im_yX8_save : (Cond.instanceMethod yX8_save) ∈ wsG := wsT4 _ (List.mem_of_getElem? (i := 151) (by decide +kernel)) rfl
theorem w_co_yX8_save : (Cond.code yX8_save cX8_save 2 none) ∈ wsG := wsT4 _ (List.mem_of_getElem? (i := 152) (by decide +kernel)) rfl
theorem w_ml_X8_62 : (Cond.methodLink RX8 62 yX8_camsOf) ∈ wsG := wsT4 _ (List.mem_of_getElem? (i := 153) (by decide +kernel)) rfl
theorem w_im_yX8_camsOf : (Cond.instanceMethod yX8_camsOf) ∈ wsG := wsT4 _ (List.mem_of_getElem? (i := 155) (by decide +kernel)) rfl
theorem w_co_yX8_camsOf : (Cond.code yX8_camsOf cX8_camsOf 4 (some FieldType.int)) ∈ wsG := wsT4 _ (List.mem_of_getElem? (i := 156) (by decide +kernel)) rfl
theorem w_ml_X8_44 : (Cond.methodLink RX8 44 yX8_hasCam) ∈ wsG := wsT4 _ (List.mem_of_getElem? (i := 157) (by decide +kernel)) rfl
theorem w_im_yX8_hasCam : (Cond.instanceMethod yX8_hasCam) ∈ wsG := wsT4 _ (List.mem_of_getElem? (i := 159) (by decide +kernel)) rfl
theorem w_co_yX8_hasCam : (Cond.code yX8_hasCam cX8_hasCam 3 (some FieldType.boolean)) ∈ wsG := wsT4 _ (List.mem_of_getElem? (i := 160) (by decide +kernel)) rfl
theorem w_ml_X8_65 : (Cond.methodLink RX8 65 yX8_fine) ∈ wsG := wsT4 _ (List.mem_of_getElem? (i := 161) (by decide +kernel)) rfl
theorem w_im_yX8_fine : (Cond.instanceMethod yX8_fine) ∈ wsG := wsT4 _ (List.mem_of_getElem? (i := 163) (by decide +kernel)) rfl
theorem w_co_yX8_fine : (Cond.code yX8_fine cX8_fine 2 (some FieldType.int)) ∈ wsG := wsT4 _ (List.mem_of_getElem? (i := 164) (by decide +kernel)) rfl
theorem w_ml_L_92 : (Cond.methodLink RL 92 yX8_setPawl) ∈ wsG := wsT4 _ (List.mem_of_getElem? (i := 165) (by decide +kernel)) rfl
theorem w_im_yX8_setPawl : (Cond.instanceMethod yX8_setPawl) ∈ wsG := wsT4 _ (List.mem_of_getElem? (i := 166) (by decide +kernel)) rfl
theorem w_se_yX8_setPawl : (Cond.selects RX8 yX8_setPawl yX8_setPawl) ∈ wsG := wsT4 _ (List.mem_of_getElem? (i := 167) (by decide +kernel)) rfl
theorem w_co_yX8_setPawl : (Cond.code yX8_setPawl cX8_setPawl 4 (some FieldType.int)) ∈ wsG := wsT4 _ (List.mem_of_getElem? (i := 168) (by decide +kernel)) rfl
theorem w_ct_X8_68 : (Cond.constantLong RX8 68 (20)) ∈ wsG := wsT4 _ (List.mem_of_getElem? (i := 169) (by decide +kernel)) rfl
theorem w_ct_X8_70 : (Cond.constantLong RX8 70 (5000)) ∈ wsG := wsT4 _ (List.mem_of_getElem? (i := 170) (by decide +kernel)) rfl
theorem w_ml_L_96 : (Cond.methodLink RL 96 yX8_setCylinder) ∈ wsG := wsT4 _ (List.mem_of_getElem? (i := 171) (by decide +kernel)) rfl
theorem w_im_yX8_setCylinder : (Cond.instanceMethod yX8_setCylinder) ∈ wsG := wsT4 _ (List.mem_of_getElem? (i := 172) (by decide +kernel)) rfl
theorem w_se_yX8_setCylinder : (Cond.selects RX8 yX8_setCylinder yX8_setCylinder) ∈ wsG := wsT4 _ (List.mem_of_getElem? (i := 173) (by decide +kernel)) rfl
theorem w_co_yX8_setCylinder : (Cond.code yX8_setCylinder cX8_setCylinder 5 (some FieldType.int)) ∈ wsG := wsT4 _ (List.mem_of_getElem? (i := 174) (by decide +kernel)) rfl
theorem w_ct_X8_72 : (Cond.constantLong RX8 72 (9)) ∈ wsG := wsT4 _ (List.mem_of_getElem? (i := 175) (by decide +kernel)) rfl
theorem w_ct_X8_74 : (Cond.constantLong RX8 74 (50)) ∈ wsG := wsT4 _ (List.mem_of_getElem? (i := 176) (by decide +kernel)) rfl
theorem w_ml_X8_76 : (Cond.methodLink RX8 76 yX8_out) ∈ wsG := wsT4 _ (List.mem_of_getElem? (i := 177) (by decide +kernel)) rfl
theorem w_im_yX8_out : (Cond.instanceMethod yX8_out) ∈ wsG := wsT4 _ (List.mem_of_getElem? (i := 179) (by decide +kernel)) rfl
theorem w_co_yX8_out : (Cond.code yX8_out cX8_out 2 (some FieldType.int)) ∈ wsG := wsT4 _ (List.mem_of_getElem? (i := 180) (by decide +kernel)) rfl
theorem w_ml_L_99 : (Cond.methodLink RL 99 yX8_setAir) ∈ wsG := wsT4 _ (List.mem_of_getElem? (i := 181) (by decide +kernel)) rfl
theorem w_im_yX8_setAir : (Cond.instanceMethod yX8_setAir) ∈ wsG := wsT4 _ (List.mem_of_getElem? (i := 182) (by decide +kernel)) rfl
theorem w_se_yX8_setAir : (Cond.selects RX8 yX8_setAir yX8_setAir) ∈ wsG := wsT4 _ (List.mem_of_getElem? (i := 183) (by decide +kernel)) rfl
theorem w_co_yX8_setAir : (Cond.code yX8_setAir cX8_setAir 3 (some FieldType.int)) ∈ wsG := wsT4 _ (List.mem_of_getElem? (i := 184) (by decide +kernel)) rfl
theorem w_ct_X8_79 : (Cond.constantLong RX8 79 (100)) ∈ wsG := wsT4 _ (List.mem_of_getElem? (i := 185) (by decide +kernel)) rfl
theorem w_ct_X8_81 : (Cond.constantLong RX8 81 (9999)) ∈ wsG := wsT4 _ (List.mem_of_getElem? (i := 186) (by decide +kernel)) rfl
theorem w_ct_X8_83 : (Cond.constantLong RX8 83 (500)) ∈ wsG := wsT4 _ (List.mem_of_getElem? (i := 187) (by decide +kernel)) rfl
theorem w_ml_X8_85 : (Cond.methodLink RX8 85 yX8_letsOff) ∈ wsG := wsT4 _ (List.mem_of_getElem? (i := 188) (by decide +kernel)) rfl
theorem w_im_yX8_letsOff : (Cond.instanceMethod yX8_letsOff) ∈ wsG := wsT4 _ (List.mem_of_getElem? (i := 190) (by decide +kernel)) rfl
theorem w_co_yX8_letsOff : (Cond.code yX8_letsOff cX8_letsOff 2 none) ∈ wsG := wsT4 _ (List.mem_of_getElem? (i := 191) (by decide +kernel)) rfl
theorem w_ml_L_103 : (Cond.methodLink RL 103 yX8_addGuard) ∈ wsG := wsT4 _ (List.mem_of_getElem? (i := 192) (by decide +kernel)) rfl
theorem w_im_yX8_addGuard : (Cond.instanceMethod yX8_addGuard) ∈ wsG := wsT4 _ (List.mem_of_getElem? (i := 193) (by decide +kernel)) rfl
theorem w_se_yX8_addGuard : (Cond.selects RX8 yX8_addGuard yX8_addGuard) ∈ wsG := wsT4 _ (List.mem_of_getElem? (i := 194) (by decide +kernel)) rfl
theorem w_co_yX8_addGuard : (Cond.code yX8_addGuard cX8_addGuard 5 (some FieldType.int)) ∈ wsG := wsT4 _ (List.mem_of_getElem? (i := 195) (by decide +kernel)) rfl
theorem w_ct_X8_88 : (Cond.constantLong RX8 88 (99)) ∈ wsG := wsT4 _ (List.mem_of_getElem? (i := 196) (by decide +kernel)) rfl
theorem w_ml_L_107 : (Cond.methodLink RL 107 yX8_removeGuard) ∈ wsG := wsT4 _ (List.mem_of_getElem? (i := 197) (by decide +kernel)) rfl
theorem w_im_yX8_removeGuard : (Cond.instanceMethod yX8_removeGuard) ∈ wsG := wsT4 _ (List.mem_of_getElem? (i := 198) (by decide +kernel)) rfl
theorem w_se_yX8_removeGuard : (Cond.selects RX8 yX8_removeGuard yX8_removeGuard) ∈ wsG := wsT4 _ (List.mem_of_getElem? (i := 199) (by decide +kernel)) rfl
theorem w_co_yX8_removeGuard : (Cond.code yX8_removeGuard cX8_removeGuard 3 (some FieldType.int)) ∈ wsG := wsT4 _ (List.mem_of_getElem? (i := 200) (by decide +kernel)) rfl
theorem w_ml_X8_90 : (Cond.methodLink RX8 90 yX8_isGuard) ∈ wsG := wsT4 _ (List.mem_of_getElem? (i := 201) (by decide +kernel)) rfl
theorem w_im_yX8_isGuard : (Cond.instanceMethod yX8_isGuard) ∈ wsG := wsT4 _ (List.mem_of_getElem? (i := 203) (by decide +kernel)) rfl
theorem w_co_yX8_isGuard : (Cond.code yX8_isGuard cX8_isGuard 2 (some FieldType.boolean)) ∈ wsG := wsT4 _ (List.mem_of_getElem? (i := 204) (by decide +kernel)) rfl
theorem w_ml_L_110 : (Cond.methodLink RL 110 yX8_turn) ∈ wsG := wsT4 _ (List.mem_of_getElem? (i := 205) (by decide +kernel)) rfl
theorem w_im_yX8_turn : (Cond.instanceMethod yX8_turn) ∈ wsG := wsT4 _ (List.mem_of_getElem? (i := 206) (by decide +kernel)) rfl
theorem w_se_yX8_turn : (Cond.selects RX8 yX8_turn yX8_turn) ∈ wsG := wsT4 _ (List.mem_of_getElem? (i := 207) (by decide +kernel)) rfl
theorem w_co_yX8_turn : (Cond.code yX8_turn cX8_turn 3 (some FieldType.int)) ∈ wsG := wsT4 _ (List.mem_of_getElem? (i := 208) (by decide +kernel)) rfl
theorem w_ml_L_113 : (Cond.methodLink RL 113 yX8_run) ∈ wsG := wsT4 _ (List.mem_of_getElem? (i := 209) (by decide +kernel)) rfl
theorem w_im_yX8_run : (Cond.instanceMethod yX8_run) ∈ wsG := wsT4 _ (List.mem_of_getElem? (i := 210) (by decide +kernel)) rfl
theorem w_se_yX8_run : (Cond.selects RX8 yX8_run yX8_run) ∈ wsG := wsT4 _ (List.mem_of_getElem? (i := 211) (by decide +kernel)) rfl
theorem w_co_yX8_run : (Cond.code yX8_run cX8_run 4 (some FieldType.int)) ∈ wsG := wsT4 _ (List.mem_of_getElem? (i := 212) (by decide +kernel)) rfl
theorem w_ct_X8_117 : (Cond.constant RX8 117 (100000)) ∈ wsG := wsT4 _ (List.mem_of_getElem? (i := 213) (by decide +kernel)) rfl
theorem w_ml_X8_118 : (Cond.methodLink RX8 118 yX8_tick) ∈ wsG := wsT4 _ (List.mem_of_getElem? (i := 214) (by decide +kernel)) rfl
theorem w_im_yX8_tick : (Cond.instanceMethod yX8_tick) ∈ wsG := wsT4 _ (List.mem_of_getElem? (i := 216) (by decide +kernel)) rfl
theorem w_co_yX8_tick : (Cond.code yX8_tick cX8_tick 2 none) ∈ wsG := wsT4 _ (List.mem_of_getElem? (i := 217) (by decide +kernel)) rfl
theorem w_ml_X8_103 : (Cond.methodLink RX8 103 yX8_areOut) ∈ wsG := wsT4 _ (List.mem_of_getElem? (i := 218) (by decide +kernel)) rfl
theorem w_im_yX8_areOut : (Cond.instanceMethod yX8_areOut) ∈ wsG := wsT4 _ (List.mem_of_getElem? (i := 220) (by decide +kernel)) rfl
theorem w_co_yX8_areOut : (Cond.code yX8_areOut cX8_areOut 3 (some FieldType.boolean)) ∈ wsG := wsT4 _ (List.mem_of_getElem? (i := 221) (by decide +kernel)) rfl
theorem w_ml_X8_110 : (Cond.methodLink RX8 110 yX8_moves) ∈ wsG := wsT4 _ (List.mem_of_getElem? (i := 222) (by decide +kernel)) rfl
theorem w_im_yX8_moves : (Cond.instanceMethod yX8_moves) ∈ wsG := wsT4 _ (List.mem_of_getElem? (i := 224) (by decide +kernel)) rfl
theorem w_co_yX8_moves : (Cond.code yX8_moves cX8_moves 6 none) ∈ wsG := wsT4 _ (List.mem_of_getElem? (i := 225) (by decide +kernel)) rfl
theorem w_ml_X8_96 : (Cond.methodLink RX8 96 yX8_mayMove) ∈ wsG := wsT4 _ (List.mem_of_getElem? (i := 226) (by decide +kernel)) rfl
theorem w_im_yX8_mayMove : (Cond.instanceMethod yX8_mayMove) ∈ wsG := wsT4 _ (List.mem_of_getElem? (i := 228) (by decide +kernel)) rfl
theorem w_co_yX8_mayMove : (Cond.code yX8_mayMove cX8_mayMove 5 (some FieldType.int)) ∈ wsG := wsT4 _ (List.mem_of_getElem? (i := 229) (by decide +kernel)) rfl
theorem w_ml_X8_93 : (Cond.methodLink RX8 93 yX8_holds) ∈ wsG := wsT4 _ (List.mem_of_getElem? (i := 230) (by decide +kernel)) rfl
theorem w_im_yX8_holds : (Cond.instanceMethod yX8_holds) ∈ wsG := wsT4 _ (List.mem_of_getElem? (i := 232) (by decide +kernel)) rfl
theorem w_co_yX8_holds : (Cond.code yX8_holds cX8_holds 2 (some FieldType.boolean)) ∈ wsG := wsT4 _ (List.mem_of_getElem? (i := 233) (by decide +kernel)) rfl
theorem w_ml_X8_114 : (Cond.methodLink RX8 114 yX8_leaks) ∈ wsG := wsT4 _ (List.mem_of_getElem? (i := 234) (by decide +kernel)) rfl
theorem w_im_yX8_leaks : (Cond.instanceMethod yX8_leaks) ∈ wsG := wsT4 _ (List.mem_of_getElem? (i := 236) (by decide +kernel)) rfl
theorem w_co_yX8_leaks : (Cond.code yX8_leaks cX8_leaks 4 none) ∈ wsG := wsT4 _ (List.mem_of_getElem? (i := 237) (by decide +kernel)) rfl
theorem w_ml_L_116 : (Cond.methodLink RL 116 yX8_cam) ∈ wsG := wsT4 _ (List.mem_of_getElem? (i := 238) (by decide +kernel)) rfl
theorem w_im_yX8_cam : (Cond.instanceMethod yX8_cam) ∈ wsG := wsT4 _ (List.mem_of_getElem? (i := 239) (by decide +kernel)) rfl
theorem w_se_yX8_cam : (Cond.selects RX8 yX8_cam yX8_cam) ∈ wsG := wsT5 _ (List.mem_of_getElem? (i := 0) (by decide +kernel)) rfl
theorem w_co_yX8_cam : (Cond.code yX8_cam cX8_cam 4 (some FieldType.boolean)) ∈ wsG := wsT5 _ (List.mem_of_getElem? (i := 1) (by decide +kernel)) rfl
theorem w_ml_L_119 : (Cond.methodLink RL 119 yX8_cylinder) ∈ wsG := wsT5 _ (List.mem_of_getElem? (i := 2) (by decide +kernel)) rfl
theorem w_im_yX8_cylinder : (Cond.instanceMethod yX8_cylinder) ∈ wsG := wsT5 _ (List.mem_of_getElem? (i := 3) (by decide +kernel)) rfl
theorem w_se_yX8_cylinder : (Cond.selects RX8 yX8_cylinder yX8_cylinder) ∈ wsG := wsT5 _ (List.mem_of_getElem? (i := 4) (by decide +kernel)) rfl
theorem w_co_yX8_cylinder : (Cond.code yX8_cylinder cX8_cylinder 3 (some FieldType.int)) ∈ wsG := wsT5 _ (List.mem_of_getElem? (i := 5) (by decide +kernel)) rfl
theorem w_ct_X8_121 : (Cond.constantLong RX8 121 (7)) ∈ wsG := wsT5 _ (List.mem_of_getElem? (i := 6) (by decide +kernel)) rfl
theorem w_ml_X8_123 : (Cond.methodLink RX8 123 yX8_cylinderOf) ∈ wsG := wsT5 _ (List.mem_of_getElem? (i := 7) (by decide +kernel)) rfl
theorem w_im_yX8_cylinderOf : (Cond.instanceMethod yX8_cylinderOf) ∈ wsG := wsT5 _ (List.mem_of_getElem? (i := 9) (by decide +kernel)) rfl
theorem w_co_yX8_cylinderOf : (Cond.code yX8_cylinderOf cX8_cylinderOf 3 (some FieldType.int)) ∈ wsG := wsT5 _ (List.mem_of_getElem? (i := 10) (by decide +kernel)) rfl
theorem w_ml_L_122 : (Cond.methodLink RL 122 yX8_guard) ∈ wsG := wsT5 _ (List.mem_of_getElem? (i := 11) (by decide +kernel)) rfl
theorem w_im_yX8_guard : (Cond.instanceMethod yX8_guard) ∈ wsG := wsT5 _ (List.mem_of_getElem? (i := 12) (by decide +kernel)) rfl
theorem w_se_yX8_guard : (Cond.selects RX8 yX8_guard yX8_guard) ∈ wsG := wsT5 _ (List.mem_of_getElem? (i := 13) (by decide +kernel)) rfl
theorem w_co_yX8_guard : (Cond.code yX8_guard cX8_guard 3 (some FieldType.int)) ∈ wsG := wsT5 _ (List.mem_of_getElem? (i := 14) (by decide +kernel)) rfl
theorem w_ct_X8_127 : (Cond.constantLong RX8 127 (3)) ∈ wsG := wsT5 _ (List.mem_of_getElem? (i := 15) (by decide +kernel)) rfl
theorem w_ml_X8_129 : (Cond.methodLink RX8 129 yX8_guardOf) ∈ wsG := wsT5 _ (List.mem_of_getElem? (i := 16) (by decide +kernel)) rfl
theorem w_im_yX8_guardOf : (Cond.instanceMethod yX8_guardOf) ∈ wsG := wsT5 _ (List.mem_of_getElem? (i := 18) (by decide +kernel)) rfl
theorem w_co_yX8_guardOf : (Cond.code yX8_guardOf cX8_guardOf 3 (some FieldType.int)) ∈ wsG := wsT5 _ (List.mem_of_getElem? (i := 19) (by decide +kernel)) rfl
theorem w_ml_L_125 : (Cond.methodLink RL 125 yX8_value) ∈ wsG := wsT5 _ (List.mem_of_getElem? (i := 20) (by decide +kernel)) rfl
theorem w_im_yX8_value : (Cond.instanceMethod yX8_value) ∈ wsG := wsT5 _ (List.mem_of_getElem? (i := 21) (by decide +kernel)) rfl
theorem w_se_yX8_value : (Cond.selects RX8 yX8_value yX8_value) ∈ wsG := wsT5 _ (List.mem_of_getElem? (i := 22) (by decide +kernel)) rfl
theorem w_co_yX8_value : (Cond.code yX8_value cX8_value 2 (some FieldType.int)) ∈ wsG := wsT5 _ (List.mem_of_getElem? (i := 23) (by decide +kernel)) rfl
theorem w_ct_X8_132 : (Cond.constantLong RX8 132 (15)) ∈ wsG := wsT5 _ (List.mem_of_getElem? (i := 24) (by decide +kernel)) rfl
theorem w_ml_L_128 : (Cond.methodLink RL 128 yX8_chart) ∈ wsG := wsT5 _ (List.mem_of_getElem? (i := 25) (by decide +kernel)) rfl
theorem w_im_yX8_chart : (Cond.instanceMethod yX8_chart) ∈ wsG := wsT5 _ (List.mem_of_getElem? (i := 26) (by decide +kernel)) rfl
theorem w_se_yX8_chart : (Cond.selects RX8 yX8_chart yX8_chart) ∈ wsG := wsT5 _ (List.mem_of_getElem? (i := 27) (by decide +kernel)) rfl
theorem w_co_yX8_chart : (Cond.code yX8_chart cX8_chart 3 (some FieldType.int)) ∈ wsG := wsT5 _ (List.mem_of_getElem? (i := 28) (by decide +kernel)) rfl
theorem w_ml_L_131 : (Cond.methodLink RL 131 yX8_skips) ∈ wsG := wsT5 _ (List.mem_of_getElem? (i := 29) (by decide +kernel)) rfl
theorem w_im_yX8_skips : (Cond.instanceMethod yX8_skips) ∈ wsG := wsT5 _ (List.mem_of_getElem? (i := 30) (by decide +kernel)) rfl
theorem w_se_yX8_skips : (Cond.selects RX8 yX8_skips yX8_skips) ∈ wsG := wsT5 _ (List.mem_of_getElem? (i := 31) (by decide +kernel)) rfl
theorem w_co_yX8_skips : (Cond.code yX8_skips cX8_skips 2 (some FieldType.int)) ∈ wsG := wsT5 _ (List.mem_of_getElem? (i := 32) (by decide +kernel)) rfl
theorem w_ml_L_134 : (Cond.methodLink RL 134 yX8_ticksToOut) ∈ wsG := wsT5 _ (List.mem_of_getElem? (i := 33) (by decide +kernel)) rfl
theorem w_im_yX8_ticksToOut : (Cond.instanceMethod yX8_ticksToOut) ∈ wsG := wsT5 _ (List.mem_of_getElem? (i := 34) (by decide +kernel)) rfl
theorem w_se_yX8_ticksToOut : (Cond.selects RX8 yX8_ticksToOut yX8_ticksToOut) ∈ wsG := wsT5 _ (List.mem_of_getElem? (i := 35) (by decide +kernel)) rfl
theorem w_co_yX8_ticksToOut : (Cond.code yX8_ticksToOut cX8_ticksToOut 4 (some FieldType.int)) ∈ wsG := wsT5 _ (List.mem_of_getElem? (i := 36) (by decide +kernel)) rfl
theorem w_ml_X8_134 : (Cond.methodLink RX8 134 yX8_laysAside) ∈ wsG := wsT5 _ (List.mem_of_getElem? (i := 37) (by decide +kernel)) rfl
theorem w_im_yX8_laysAside : (Cond.instanceMethod yX8_laysAside) ∈ wsG := wsT5 _ (List.mem_of_getElem? (i := 39) (by decide +kernel)) rfl
theorem w_co_yX8_laysAside : (Cond.code yX8_laysAside cX8_laysAside 2 none) ∈ wsG := wsT5 _ (List.mem_of_getElem? (i := 40) (by decide +kernel)) rfl
theorem w_ml_X8_137 : (Cond.methodLink RX8 137 yX8_takesBack) ∈ wsG := wsT5 _ (List.mem_of_getElem? (i := 41) (by decide +kernel)) rfl
theorem w_im_yX8_takesBack : (Cond.instanceMethod yX8_takesBack) ∈ wsG := wsT5 _ (List.mem_of_getElem? (i := 43) (by decide +kernel)) rfl
theorem w_co_yX8_takesBack : (Cond.code yX8_takesBack cX8_takesBack 2 none) ∈ wsG := wsT5 _ (List.mem_of_getElem? (i := 44) (by decide +kernel)) rfl
theorem w_ml_L_138 : (Cond.methodLink RL 138 yX8_ticksToCycle) ∈ wsG := wsT5 _ (List.mem_of_getElem? (i := 45) (by decide +kernel)) rfl
theorem w_im_yX8_ticksToCycle : (Cond.instanceMethod yX8_ticksToCycle) ∈ wsG := wsT5 _ (List.mem_of_getElem? (i := 46) (by decide +kernel)) rfl
theorem w_se_yX8_ticksToCycle : (Cond.selects RX8 yX8_ticksToCycle yX8_ticksToCycle) ∈ wsG := wsT5 _ (List.mem_of_getElem? (i := 47) (by decide +kernel)) rfl
theorem w_co_yX8_ticksToCycle : (Cond.code yX8_ticksToCycle cX8_ticksToCycle 1 (some FieldType.int)) ∈ wsG := wsT5 _ (List.mem_of_getElem? (i := 48) (by decide +kernel)) rfl
theorem w_ml_X8_143 : (Cond.methodLink RX8 143 yX8_toCycle) ∈ wsG := wsT5 _ (List.mem_of_getElem? (i := 49) (by decide +kernel)) rfl
theorem w_im_yX8_toCycle : (Cond.instanceMethod yX8_toCycle) ∈ wsG := wsT5 _ (List.mem_of_getElem? (i := 51) (by decide +kernel)) rfl
theorem w_co_yX8_toCycle : (Cond.code yX8_toCycle cX8_toCycle 2 (some FieldType.int)) ∈ wsG := wsT5 _ (List.mem_of_getElem? (i := 52) (by decide +kernel)) rfl
theorem w_ml_X8_140 : (Cond.methodLink RX8 140 yX8_passes) ∈ wsG := wsT5 _ (List.mem_of_getElem? (i := 53) (by decide +kernel)) rfl
theorem w_im_yX8_passes : (Cond.instanceMethod yX8_passes) ∈ wsG := wsT5 _ (List.mem_of_getElem? (i := 55) (by decide +kernel)) rfl
theorem w_co_yX8_passes : (Cond.code yX8_passes cX8_passes 4 (some FieldType.int)) ∈ wsG := wsT5 _ (List.mem_of_getElem? (i := 56) (by decide +kernel)) rfl
theorem w_ml_L_141 : (Cond.methodLink RL 141 yX8_leastCompressor) ∈ wsG := wsT5 _ (List.mem_of_getElem? (i := 57) (by decide +kernel)) rfl
theorem w_im_yX8_leastCompressor : (Cond.instanceMethod yX8_leastCompressor) ∈ wsG := wsT5 _ (List.mem_of_getElem? (i := 58) (by decide +kernel)) rfl
theorem w_se_yX8_leastCompressor : (Cond.selects RX8 yX8_leastCompressor yX8_leastCompressor) ∈ wsG := wsT5 _ (List.mem_of_getElem? (i := 59) (by decide +kernel)) rfl
theorem w_co_yX8_leastCompressor : (Cond.code yX8_leastCompressor cX8_leastCompressor 6 (some FieldType.int)) ∈ wsG := wsT5 _ (List.mem_of_getElem? (i := 60) (by decide +kernel)) rfl
theorem w_ct_X8_147 : (Cond.constantLong RX8 147 (300)) ∈ wsG := wsT5 _ (List.mem_of_getElem? (i := 61) (by decide +kernel)) rfl
theorem w_ml_L_145 : (Cond.methodLink RL 145 yX8_shortestDwell) ∈ wsG := wsT5 _ (List.mem_of_getElem? (i := 62) (by decide +kernel)) rfl
theorem w_im_yX8_shortestDwell : (Cond.instanceMethod yX8_shortestDwell) ∈ wsG := wsT5 _ (List.mem_of_getElem? (i := 63) (by decide +kernel)) rfl
theorem w_se_yX8_shortestDwell : (Cond.selects RX8 yX8_shortestDwell yX8_shortestDwell) ∈ wsG := wsT5 _ (List.mem_of_getElem? (i := 64) (by decide +kernel)) rfl
theorem w_co_yX8_shortestDwell : (Cond.code yX8_shortestDwell cX8_shortestDwell 3 (some FieldType.int)) ∈ wsG := wsT5 _ (List.mem_of_getElem? (i := 65) (by decide +kernel)) rfl
theorem w_ml_X8_149 : (Cond.methodLink RX8 149 yX8_does) ∈ wsG := wsT5 _ (List.mem_of_getElem? (i := 66) (by decide +kernel)) rfl
theorem w_im_yX8_does : (Cond.instanceMethod yX8_does) ∈ wsG := wsT5 _ (List.mem_of_getElem? (i := 68) (by decide +kernel)) rfl
theorem w_co_yX8_does : (Cond.code yX8_does cX8_does 4 (some FieldType.boolean)) ∈ wsG := wsT5 _ (List.mem_of_getElem? (i := 69) (by decide +kernel)) rfl
theorem w_ml_L_150 : (Cond.methodLink RL 150 yX8_repeats) ∈ wsG := wsT5 _ (List.mem_of_getElem? (i := 70) (by decide +kernel)) rfl
theorem w_im_yX8_repeats : (Cond.instanceMethod yX8_repeats) ∈ wsG := wsT5 _ (List.mem_of_getElem? (i := 71) (by decide +kernel)) rfl
theorem w_se_yX8_repeats : (Cond.selects RX8 yX8_repeats yX8_repeats) ∈ wsG := wsT5 _ (List.mem_of_getElem? (i := 72) (by decide +kernel)) rfl
theorem w_co_yX8_repeats : (Cond.code yX8_repeats cX8_repeats 4 (some FieldType.boolean)) ∈ wsG := wsT5 _ (List.mem_of_getElem? (i := 73) (by decide +kernel)) rfl
theorem w_ml_X8_152 : (Cond.methodLink RX8 152 yX8_behind) ∈ wsG := wsT5 _ (List.mem_of_getElem? (i := 74) (by decide +kernel)) rfl
theorem w_im_yX8_behind : (Cond.instanceMethod yX8_behind) ∈ wsG := wsT5 _ (List.mem_of_getElem? (i := 76) (by decide +kernel)) rfl
theorem w_co_yX8_behind : (Cond.code yX8_behind cX8_behind 2 (some FieldType.int)) ∈ wsG := wsT5 _ (List.mem_of_getElem? (i := 77) (by decide +kernel)) rfl
theorem w_ml_L_155 : (Cond.methodLink RL 155 yX8_useful) ∈ wsG := wsT5 _ (List.mem_of_getElem? (i := 78) (by decide +kernel)) rfl
theorem w_im_yX8_useful : (Cond.instanceMethod yX8_useful) ∈ wsG := wsT5 _ (List.mem_of_getElem? (i := 79) (by decide +kernel)) rfl
theorem w_se_yX8_useful : (Cond.selects RX8 yX8_useful yX8_useful) ∈ wsG := wsT5 _ (List.mem_of_getElem? (i := 80) (by decide +kernel)) rfl
theorem w_co_yX8_useful : (Cond.code yX8_useful cX8_useful 5 (some FieldType.double)) ∈ wsG := wsT5 _ (List.mem_of_getElem? (i := 81) (by decide +kernel)) rfl
theorem w_ml_L_158 : (Cond.methodLink RL 158 yX8_append) ∈ wsG := wsT5 _ (List.mem_of_getElem? (i := 82) (by decide +kernel)) rfl
theorem w_im_yX8_append : (Cond.instanceMethod yX8_append) ∈ wsG := wsT5 _ (List.mem_of_getElem? (i := 83) (by decide +kernel)) rfl
theorem w_se_yX8_append : (Cond.selects RX8 yX8_append yX8_append) ∈ wsG := wsT5 _ (List.mem_of_getElem? (i := 84) (by decide +kernel)) rfl
theorem w_co_yX8_append : (Cond.code yX8_append cX8_append 2 (some FieldType.int)) ∈ wsG := wsT5 _ (List.mem_of_getElem? (i := 85) (by decide +kernel)) rfl
theorem w_ct_X8_155 : (Cond.constantLong RX8 155 (127)) ∈ wsG := wsT5 _ (List.mem_of_getElem? (i := 86) (by decide +kernel)) rfl
theorem w_ml_L_162 : (Cond.methodLink RL 162 yX8_clearText) ∈ wsG := wsT5 _ (List.mem_of_getElem? (i := 87) (by decide +kernel)) rfl
theorem w_im_yX8_clearText : (Cond.instanceMethod yX8_clearText) ∈ wsG := wsT5 _ (List.mem_of_getElem? (i := 88) (by decide +kernel)) rfl
theorem w_se_yX8_clearText : (Cond.selects RX8 yX8_clearText yX8_clearText) ∈ wsG := wsT5 _ (List.mem_of_getElem? (i := 89) (by decide +kernel)) rfl
theorem w_co_yX8_clearText : (Cond.code yX8_clearText cX8_clearText 2 (some FieldType.int)) ∈ wsG := wsT5 _ (List.mem_of_getElem? (i := 90) (by decide +kernel)) rfl
theorem w_ml_L_166 : (Cond.methodLink RL 166 yX8_parse) ∈ wsG := wsT5 _ (List.mem_of_getElem? (i := 91) (by decide +kernel)) rfl
theorem w_im_yX8_parse : (Cond.instanceMethod yX8_parse) ∈ wsG := wsT5 _ (List.mem_of_getElem? (i := 92) (by decide +kernel)) rfl
theorem w_se_yX8_parse : (Cond.selects RX8 yX8_parse yX8_parse) ∈ wsG := wsT5 _ (List.mem_of_getElem? (i := 93) (by decide +kernel)) rfl
theorem w_co_yX8_parse : (Cond.code yX8_parse cX8_parse 3 (some FieldType.int)) ∈ wsG := wsT5 _ (List.mem_of_getElem? (i := 94) (by decide +kernel)) rfl
theorem w_ml_X8_188 : (Cond.methodLink RX8 188 yX8_readsText) ∈ wsG := wsT5 _ (List.mem_of_getElem? (i := 95) (by decide +kernel)) rfl
theorem w_im_yX8_readsText : (Cond.instanceMethod yX8_readsText) ∈ wsG := wsT5 _ (List.mem_of_getElem? (i := 97) (by decide +kernel)) rfl
theorem w_co_yX8_readsText : (Cond.code yX8_readsText cX8_readsText 2 (some FieldType.boolean)) ∈ wsG := wsT5 _ (List.mem_of_getElem? (i := 98) (by decide +kernel)) rfl
theorem w_ml_X8_177 : (Cond.methodLink RX8 177 yX8_passesByte) ∈ wsG := wsT5 _ (List.mem_of_getElem? (i := 99) (by decide +kernel)) rfl
theorem w_im_yX8_passesByte : (Cond.instanceMethod yX8_passesByte) ∈ wsG := wsT5 _ (List.mem_of_getElem? (i := 101) (by decide +kernel)) rfl
theorem w_co_yX8_passesByte : (Cond.code yX8_passesByte cX8_passesByte 3 (some FieldType.boolean)) ∈ wsG := wsT5 _ (List.mem_of_getElem? (i := 102) (by decide +kernel)) rfl
theorem w_ml_X8_163 : (Cond.methodLink RX8 163 yX8_here) ∈ wsG := wsT5 _ (List.mem_of_getElem? (i := 103) (by decide +kernel)) rfl
theorem w_im_yX8_here : (Cond.instanceMethod yX8_here) ∈ wsG := wsT5 _ (List.mem_of_getElem? (i := 105) (by decide +kernel)) rfl
theorem w_co_yX8_here : (Cond.code yX8_here cX8_here 1 (some FieldType.int)) ∈ wsG := wsT5 _ (List.mem_of_getElem? (i := 106) (by decide +kernel)) rfl
theorem w_ml_X8_182 : (Cond.methodLink RX8 182 yX8_readsSteps) ∈ wsG := wsT5 _ (List.mem_of_getElem? (i := 107) (by decide +kernel)) rfl
theorem w_im_yX8_readsSteps : (Cond.instanceMethod yX8_readsSteps) ∈ wsG := wsT5 _ (List.mem_of_getElem? (i := 109) (by decide +kernel)) rfl
theorem w_co_yX8_readsSteps : (Cond.code yX8_readsSteps cX8_readsSteps 3 (some FieldType.boolean)) ∈ wsG := wsT5 _ (List.mem_of_getElem? (i := 110) (by decide +kernel)) rfl
theorem w_ct_X8_166 : (Cond.constantLong RX8 166 (48)) ∈ wsG := wsT5 _ (List.mem_of_getElem? (i := 111) (by decide +kernel)) rfl
theorem w_ct_X8_168 : (Cond.constantLong RX8 168 (57)) ∈ wsG := wsT5 _ (List.mem_of_getElem? (i := 112) (by decide +kernel)) rfl
theorem w_ct_X8_170 : (Cond.constantLong RX8 170 (2)) ∈ wsG := wsT5 _ (List.mem_of_getElem? (i := 113) (by decide +kernel)) rfl
theorem w_ct_X8_172 : (Cond.constantLong RX8 172 (16)) ∈ wsG := wsT5 _ (List.mem_of_getElem? (i := 114) (by decide +kernel)) rfl
theorem w_ml_X8_185 : (Cond.methodLink RX8 185 yX8_readsTrack) ∈ wsG := wsT5 _ (List.mem_of_getElem? (i := 115) (by decide +kernel)) rfl
theorem w_im_yX8_readsTrack : (Cond.instanceMethod yX8_readsTrack) ∈ wsG := wsT5 _ (List.mem_of_getElem? (i := 117) (by decide +kernel)) rfl
theorem w_co_yX8_readsTrack : (Cond.code yX8_readsTrack cX8_readsTrack 3 (some FieldType.boolean)) ∈ wsG := wsT5 _ (List.mem_of_getElem? (i := 118) (by decide +kernel)) rfl
theorem w_ct_X8_180 : (Cond.constantLong RX8 180 (52)) ∈ wsG := wsT5 _ (List.mem_of_getElem? (i := 119) (by decide +kernel)) rfl
theorem w_ml_L_170 : (Cond.methodLink RL 170 yX8_undo) ∈ wsG := wsT5 _ (List.mem_of_getElem? (i := 120) (by decide +kernel)) rfl
theorem w_im_yX8_undo : (Cond.instanceMethod yX8_undo) ∈ wsG := wsT5 _ (List.mem_of_getElem? (i := 121) (by decide +kernel)) rfl
theorem w_se_yX8_undo : (Cond.selects RX8 yX8_undo yX8_undo) ∈ wsG := wsT5 _ (List.mem_of_getElem? (i := 122) (by decide +kernel)) rfl
theorem w_co_yX8_undo : (Cond.code yX8_undo cX8_undo 2 (some FieldType.int)) ∈ wsG := wsT5 _ (List.mem_of_getElem? (i := 123) (by decide +kernel)) rfl
theorem w_ml_L_175 : (Cond.methodLink RL 175 yX8_digest) ∈ wsG := wsT5 _ (List.mem_of_getElem? (i := 124) (by decide +kernel)) rfl
theorem w_im_yX8_digest : (Cond.instanceMethod yX8_digest) ∈ wsG := wsT5 _ (List.mem_of_getElem? (i := 125) (by decide +kernel)) rfl
theorem w_se_yX8_digest : (Cond.selects RX8 yX8_digest yX8_digest) ∈ wsG := wsT5 _ (List.mem_of_getElem? (i := 126) (by decide +kernel)) rfl
theorem w_co_yX8_digest : (Cond.code yX8_digest cX8_digest 4 (some FieldType.long)) ∈ wsG := wsT5 _ (List.mem_of_getElem? (i := 127) (by decide +kernel)) rfl
theorem w_ct_X8_193 : (Cond.constantLong RX8 193 (107477)) ∈ wsG := wsT5 _ (List.mem_of_getElem? (i := 128) (by decide +kernel)) rfl
theorem w_ct_X8_191 : (Cond.constantLong RX8 191 (31)) ∈ wsG := wsT5 _ (List.mem_of_getElem? (i := 129) (by decide +kernel)) rfl
theorem w_ml_X8_195 : (Cond.methodLink RX8 195 yX8_hashSteps) ∈ wsG := wsT5 _ (List.mem_of_getElem? (i := 130) (by decide +kernel)) rfl
theorem w_im_yX8_hashSteps : (Cond.instanceMethod yX8_hashSteps) ∈ wsG := wsT5 _ (List.mem_of_getElem? (i := 132) (by decide +kernel)) rfl
theorem w_co_yX8_hashSteps : (Cond.code yX8_hashSteps cX8_hashSteps 7 (some FieldType.long)) ∈ wsG := wsT5 _ (List.mem_of_getElem? (i := 133) (by decide +kernel)) rfl
theorem w_ac_long : (Cond.arrayClass FieldType.long) ∈ wsG := wsT5 _ (List.mem_of_getElem? (i := 134) (by decide +kernel)) rfl
theorem w_se_yX5_moveDrum : (Cond.selects RX5 yX5_moveDrum yX5_moveDrum) ∈ wsG := wsT0 _ (List.mem_of_getElem? (i := 0) (by decide +kernel)) rfl
theorem w_se_yX5_moveOut : (Cond.selects RX5 yX5_moveOut yX5_moveOut) ∈ wsG := wsT0 _ (List.mem_of_getElem? (i := 1) (by decide +kernel)) rfl
theorem w_se_yX5_holds : (Cond.selects RX5 yX5_holds yX5_holds) ∈ wsG := wsT0 _ (List.mem_of_getElem? (i := 2) (by decide +kernel)) rfl
theorem w_se_yX5_moveIn : (Cond.selects RX5 yX5_moveIn yX5_moveIn) ∈ wsG := wsT0 _ (List.mem_of_getElem? (i := 3) (by decide +kernel)) rfl
theorem w_se_yX5_leakAt : (Cond.selects RX5 yX5_leakAt yX5_leakAt) ∈ wsG := wsT0 _ (List.mem_of_getElem? (i := 4) (by decide +kernel)) rfl
theorem w_se_yX7_dwellSuffices : (Cond.selects RX7 yX7_dwellSuffices yX7_dwellSuffices) ∈ wsG := wsT0 _ (List.mem_of_getElem? (i := 5) (by decide +kernel)) rfl
theorem w_se_yX6_byteAt : (Cond.selects RX6 yX6_byteAt yX6_byteAt) ∈ wsG := wsT0 _ (List.mem_of_getElem? (i := 6) (by decide +kernel)) rfl
theorem w_se_yX6_readSteps : (Cond.selects RX6 yX6_readSteps yX6_readSteps) ∈ wsG := wsT0 _ (List.mem_of_getElem? (i := 7) (by decide +kernel)) rfl
theorem w_se_yX6_isDigitAt : (Cond.selects RX6 yX6_isDigitAt yX6_isDigitAt) ∈ wsG := wsT0 _ (List.mem_of_getElem? (i := 8) (by decide +kernel)) rfl
theorem w_se_yX6_passSign : (Cond.selects RX6 yX6_passSign yX6_passSign) ∈ wsG := wsT0 _ (List.mem_of_getElem? (i := 9) (by decide +kernel)) rfl
theorem w_se_yX6_readTrack : (Cond.selects RX6 yX6_readTrack yX6_readTrack) ∈ wsG := wsT0 _ (List.mem_of_getElem? (i := 10) (by decide +kernel)) rfl
theorem w_se_yX4_newestPlace : (Cond.selects RX4 yX4_newestPlace yX4_newestPlace) ∈ wsG := wsT0 _ (List.mem_of_getElem? (i := 11) (by decide +kernel)) rfl
theorem w_se_yX7_hashWithCylinders : (Cond.selects RX7 yX7_hashWithCylinders yX7_hashWithCylinders) ∈ wsG := wsT0 _ (List.mem_of_getElem? (i := 12) (by decide +kernel)) rfl
theorem w_se_yX7_hashWithGuards : (Cond.selects RX7 yX7_hashWithGuards yX7_hashWithGuards) ∈ wsG := wsT0 _ (List.mem_of_getElem? (i := 13) (by decide +kernel)) rfl
theorem w_se_yX7_hashWithSteps : (Cond.selects RX7 yX7_hashWithSteps yX7_hashWithSteps) ∈ wsG := wsT0 _ (List.mem_of_getElem? (i := 14) (by decide +kernel)) rfl
theorem w_se_yX7_requireStep : (Cond.selects RX7 yX7_requireStep yX7_requireStep) ∈ wsG := wsT0 _ (List.mem_of_getElem? (i := 16) (by decide +kernel)) rfl
theorem w_se_yX7_requireGuard : (Cond.selects RX7 yX7_requireGuard yX7_requireGuard) ∈ wsG := wsT0 _ (List.mem_of_getElem? (i := 17) (by decide +kernel)) rfl
theorem w_se_yX7_goesWithoutSkip : (Cond.selects RX7 yX7_goesWithoutSkip yX7_goesWithoutSkip) ∈ wsG := wsT0 _ (List.mem_of_getElem? (i := 18) (by decide +kernel)) rfl
theorem w_se_yX8_empties : (Cond.selects RX8 yX8_empties yX8_empties) ∈ wsG := wsT0 _ (List.mem_of_getElem? (i := 19) (by decide +kernel)) rfl
theorem w_se_yX8_isStep : (Cond.selects RX8 yX8_isStep yX8_isStep) ∈ wsG := wsT0 _ (List.mem_of_getElem? (i := 20) (by decide +kernel)) rfl
theorem w_se_yX8_throwing : (Cond.selects RX8 yX8_throwing yX8_throwing) ∈ wsG := wsT0 _ (List.mem_of_getElem? (i := 21) (by decide +kernel)) rfl
theorem w_se_yX8_save : (Cond.selects RX8 yX8_save yX8_save) ∈ wsG := wsT0 _ (List.mem_of_getElem? (i := 22) (by decide +kernel)) rfl
theorem w_se_yX8_camsOf : (Cond.selects RX8 yX8_camsOf yX8_camsOf) ∈ wsG := wsT0 _ (List.mem_of_getElem? (i := 23) (by decide +kernel)) rfl
theorem w_se_yX8_hasCam : (Cond.selects RX8 yX8_hasCam yX8_hasCam) ∈ wsG := wsT0 _ (List.mem_of_getElem? (i := 24) (by decide +kernel)) rfl
theorem w_se_yX8_fine : (Cond.selects RX8 yX8_fine yX8_fine) ∈ wsG := wsT0 _ (List.mem_of_getElem? (i := 25) (by decide +kernel)) rfl
theorem w_se_yX8_out : (Cond.selects RX8 yX8_out yX8_out) ∈ wsG := wsT0 _ (List.mem_of_getElem? (i := 26) (by decide +kernel)) rfl
theorem w_se_yX8_letsOff : (Cond.selects RX8 yX8_letsOff yX8_letsOff) ∈ wsG := wsT0 _ (List.mem_of_getElem? (i := 27) (by decide +kernel)) rfl
theorem w_se_yX8_isGuard : (Cond.selects RX8 yX8_isGuard yX8_isGuard) ∈ wsG := wsT0 _ (List.mem_of_getElem? (i := 28) (by decide +kernel)) rfl
theorem w_se_yX8_tick : (Cond.selects RX8 yX8_tick yX8_tick) ∈ wsG := wsT0 _ (List.mem_of_getElem? (i := 29) (by decide +kernel)) rfl
theorem w_se_yX8_areOut : (Cond.selects RX8 yX8_areOut yX8_areOut) ∈ wsG := wsT0 _ (List.mem_of_getElem? (i := 30) (by decide +kernel)) rfl
theorem w_se_yX8_moves : (Cond.selects RX8 yX8_moves yX8_moves) ∈ wsG := wsT0 _ (List.mem_of_getElem? (i := 31) (by decide +kernel)) rfl
theorem w_se_yX8_mayMove : (Cond.selects RX8 yX8_mayMove yX8_mayMove) ∈ wsG := wsT0 _ (List.mem_of_getElem? (i := 32) (by decide +kernel)) rfl
theorem w_se_yX8_holds : (Cond.selects RX8 yX8_holds yX8_holds) ∈ wsG := wsT0 _ (List.mem_of_getElem? (i := 33) (by decide +kernel)) rfl
theorem w_se_yX8_leaks : (Cond.selects RX8 yX8_leaks yX8_leaks) ∈ wsG := wsT0 _ (List.mem_of_getElem? (i := 34) (by decide +kernel)) rfl
theorem w_se_yX8_cylinderOf : (Cond.selects RX8 yX8_cylinderOf yX8_cylinderOf) ∈ wsG := wsT0 _ (List.mem_of_getElem? (i := 35) (by decide +kernel)) rfl
theorem w_se_yX8_guardOf : (Cond.selects RX8 yX8_guardOf yX8_guardOf) ∈ wsG := wsT0 _ (List.mem_of_getElem? (i := 36) (by decide +kernel)) rfl
theorem w_se_yX8_laysAside : (Cond.selects RX8 yX8_laysAside yX8_laysAside) ∈ wsG := wsT0 _ (List.mem_of_getElem? (i := 37) (by decide +kernel)) rfl
theorem w_se_yX8_takesBack : (Cond.selects RX8 yX8_takesBack yX8_takesBack) ∈ wsG := wsT0 _ (List.mem_of_getElem? (i := 38) (by decide +kernel)) rfl
theorem w_se_yX8_toCycle : (Cond.selects RX8 yX8_toCycle yX8_toCycle) ∈ wsG := wsT0 _ (List.mem_of_getElem? (i := 39) (by decide +kernel)) rfl
theorem w_se_yX8_passes : (Cond.selects RX8 yX8_passes yX8_passes) ∈ wsG := wsT0 _ (List.mem_of_getElem? (i := 40) (by decide +kernel)) rfl
theorem w_se_yX8_does : (Cond.selects RX8 yX8_does yX8_does) ∈ wsG := wsT0 _ (List.mem_of_getElem? (i := 41) (by decide +kernel)) rfl
theorem w_se_yX8_behind : (Cond.selects RX8 yX8_behind yX8_behind) ∈ wsG := wsT0 _ (List.mem_of_getElem? (i := 42) (by decide +kernel)) rfl
theorem w_se_yX8_readsText : (Cond.selects RX8 yX8_readsText yX8_readsText) ∈ wsG := wsT0 _ (List.mem_of_getElem? (i := 43) (by decide +kernel)) rfl
theorem w_se_yX8_passesByte : (Cond.selects RX8 yX8_passesByte yX8_passesByte) ∈ wsG := wsT0 _ (List.mem_of_getElem? (i := 44) (by decide +kernel)) rfl
theorem w_se_yX8_here : (Cond.selects RX8 yX8_here yX8_here) ∈ wsG := wsT0 _ (List.mem_of_getElem? (i := 45) (by decide +kernel)) rfl
theorem w_se_yX8_readsSteps : (Cond.selects RX8 yX8_readsSteps yX8_readsSteps) ∈ wsG := wsT0 _ (List.mem_of_getElem? (i := 46) (by decide +kernel)) rfl
theorem w_se_yX8_readsTrack : (Cond.selects RX8 yX8_readsTrack yX8_readsTrack) ∈ wsG := wsT0 _ (List.mem_of_getElem? (i := 47) (by decide +kernel)) rfl
theorem w_se_yX8_hashSteps : (Cond.selects RX8 yX8_hashSteps yX8_hashSteps) ∈ wsG := wsT0 _ (List.mem_of_getElem? (i := 48) (by decide +kernel)) rfl
theorem wsI_X0 : ∀ w ∈ wsX00, w ∈ wsG := by
  show ∀ w ∈ [Cond.lays "CamDrum$Air" "CamDrum$Air" "tank" "I", Cond.lays "CamDrum$Air" "CamDrum$Air" "capacity" "I", Cond.lays "CamDrum$Air" "CamDrum$Air" "compressor" "I", Cond.lays "CamDrum$Air" "CamDrum$Air" "made" "I", Cond.lays "CamDrum$Air" "CamDrum$Air" "letOff" "I", Cond.lays "CamDrum$Air" "CamDrum$Air" "used" "I", Cond.lays "CamDrum$Air" "CamDrum$Air" "leaked" "I"], w ∈ wsG
  exact List.forall_mem_cons.mpr ⟨w_ly_X0_tank, List.forall_mem_cons.mpr ⟨w_ly_X0_capacity, List.forall_mem_cons.mpr ⟨w_ly_X0_compressor, List.forall_mem_cons.mpr ⟨w_ly_X0_made, List.forall_mem_cons.mpr ⟨w_ly_X0_letOff, List.forall_mem_cons.mpr ⟨w_ly_X0_used, List.forall_mem_cons.mpr ⟨w_ly_X0_leaked, fun _ h => absurd h List.not_mem_nil⟩⟩⟩⟩⟩⟩⟩
theorem wsI_X1 : ∀ w ∈ wsX10, w ∈ wsG := by
  show ∀ w ∈ [Cond.laysFinal "CamDrum$Chart" "CamDrum$Chart" "out" "[I", Cond.laysFinal "CamDrum$Chart" "CamDrum$Chart" "skipped" "[I"], w ∈ wsG
  exact List.forall_mem_cons.mpr ⟨w_ly_X1_out, List.forall_mem_cons.mpr ⟨w_ly_X1_skipped, fun _ h => absurd h List.not_mem_nil⟩⟩
theorem wsI_X2 : ∀ w ∈ wsX20, w ∈ wsG := by
  show ∀ w ∈ [Cond.laysFinal "CamDrum$Cylinders" "CamDrum$Cylinders" "out" "[I", Cond.laysFinal "CamDrum$Cylinders" "CamDrum$Cylinders" "size" "[I", Cond.laysFinal "CamDrum$Cylinders" "CamDrum$Cylinders" "speed" "[I", Cond.laysFinal "CamDrum$Cylinders" "CamDrum$Cylinders" "leak" "[I", Cond.laysFinal "CamDrum$Cylinders" "CamDrum$Cylinders" "used" "[I", Cond.laysFinal "CamDrum$Cylinders" "CamDrum$Cylinders" "leaked" "[I"], w ∈ wsG
  exact List.forall_mem_cons.mpr ⟨w_ly_X2_out, List.forall_mem_cons.mpr ⟨w_ly_X2_size, List.forall_mem_cons.mpr ⟨w_ly_X2_speed, List.forall_mem_cons.mpr ⟨w_ly_X2_leak, List.forall_mem_cons.mpr ⟨w_ly_X2_used, List.forall_mem_cons.mpr ⟨w_ly_X2_leaked, fun _ h => absurd h List.not_mem_nil⟩⟩⟩⟩⟩⟩
theorem wsI_X3 : ∀ w ∈ wsX30, w ∈ wsG := by
  show ∀ w ∈ [Cond.laysFinal "CamDrum$Guards" "CamDrum$Guards" "guarded" "[I", Cond.laysFinal "CamDrum$Guards" "CamDrum$Guards" "other" "[I", Cond.laysFinal "CamDrum$Guards" "CamDrum$Guards" "bound" "[I", Cond.lays "CamDrum$Guards" "CamDrum$Guards" "count" "I"], w ∈ wsG
  exact List.forall_mem_cons.mpr ⟨w_ly_X3_guarded, List.forall_mem_cons.mpr ⟨w_ly_X3_other, List.forall_mem_cons.mpr ⟨w_ly_X3_bound, List.forall_mem_cons.mpr ⟨w_ly_X3_count, fun _ h => absurd h List.not_mem_nil⟩⟩⟩⟩
theorem wsI_X4 : ∀ w ∈ wsX40, w ∈ wsG := by
  show ∀ w ∈ [Cond.laysFinal "CamDrum$History" "CamDrum$History" "kept" "[LCamDrum$Machine;", Cond.lays "CamDrum$History" "CamDrum$History" "newest" "I", Cond.lays "CamDrum$History" "CamDrum$History" "count" "I"], w ∈ wsG
  exact List.forall_mem_cons.mpr ⟨w_ly_X4_kept, List.forall_mem_cons.mpr ⟨w_ly_X4_newest, List.forall_mem_cons.mpr ⟨w_ly_X4_count, fun _ h => absurd h List.not_mem_nil⟩⟩⟩
theorem wsI_X5 : ∀ w ∈ wsX50, w ∈ wsG := by
  show ∀ w ∈ [Cond.lays "CamDrum$Machine" "CamDrum$Machine" "steps" "I", Cond.lays "CamDrum$Machine" "CamDrum$Machine" "step" "I", Cond.lays "CamDrum$Machine" "CamDrum$Machine" "stand" "I", Cond.lays "CamDrum$Machine" "CamDrum$Machine" "dwell" "I", Cond.lays "CamDrum$Machine" "CamDrum$Machine" "least" "I", Cond.lays "CamDrum$Machine" "CamDrum$Machine" "ticks" "I", Cond.lays "CamDrum$Machine" "CamDrum$Machine" "cycles" "I", Cond.lays "CamDrum$Machine" "CamDrum$Machine" "skipped" "I", Cond.laysFinal "CamDrum$Machine" "CamDrum$Machine" "tracks" "[I", Cond.laysFinal "CamDrum$Machine" "CamDrum$Machine" "air" "LCamDrum$Air;", Cond.laysFinal "CamDrum$Machine" "CamDrum$Machine" "cylinders" "LCamDrum$Cylinders;", Cond.laysFinal "CamDrum$Machine" "CamDrum$Machine" "guards" "LCamDrum$Guards;", Cond.laysFinal "CamDrum$Machine" "CamDrum$Machine" "chart" "LCamDrum$Chart;"], w ∈ wsG
  exact List.forall_mem_cons.mpr ⟨w_ly_X5_steps, List.forall_mem_cons.mpr ⟨w_ly_X5_step, List.forall_mem_cons.mpr ⟨w_ly_X5_stand, List.forall_mem_cons.mpr ⟨w_ly_X5_dwell, List.forall_mem_cons.mpr ⟨w_ly_X5_least, List.forall_mem_cons.mpr ⟨w_ly_X5_ticks, List.forall_mem_cons.mpr ⟨w_ly_X5_cycles, List.forall_mem_cons.mpr ⟨w_ly_X5_skipped, List.forall_mem_cons.mpr ⟨w_ly_X5_tracks, List.forall_mem_cons.mpr ⟨w_ly_X5_air, List.forall_mem_cons.mpr ⟨w_ly_X5_cylinders, List.forall_mem_cons.mpr ⟨w_ly_X5_guards, List.forall_mem_cons.mpr ⟨w_ly_X5_chart, fun _ h => absurd h List.not_mem_nil⟩⟩⟩⟩⟩⟩⟩⟩⟩⟩⟩⟩⟩
theorem wsI_X6 : ∀ w ∈ wsX60, w ∈ wsG := by
  show ∀ w ∈ [Cond.laysFinal "CamDrum$TrackText" "CamDrum$TrackText" "bytes" "[I", Cond.lays "CamDrum$TrackText" "CamDrum$TrackText" "length" "I", Cond.laysFinal "CamDrum$TrackText" "CamDrum$TrackText" "tracks" "[I", Cond.lays "CamDrum$TrackText" "CamDrum$TrackText" "steps" "I", Cond.lays "CamDrum$TrackText" "CamDrum$TrackText" "fault" "I", Cond.lays "CamDrum$TrackText" "CamDrum$TrackText" "at" "I"], w ∈ wsG
  exact List.forall_mem_cons.mpr ⟨w_ly_X6_bytes, List.forall_mem_cons.mpr ⟨w_ly_X6_length, List.forall_mem_cons.mpr ⟨w_ly_X6_tracks, List.forall_mem_cons.mpr ⟨w_ly_X6_steps, List.forall_mem_cons.mpr ⟨w_ly_X6_fault, List.forall_mem_cons.mpr ⟨w_ly_X6_at, fun _ h => absurd h List.not_mem_nil⟩⟩⟩⟩⟩⟩
theorem wsI_X7 : ∀ w ∈ wsX70, w ∈ wsG := by
  show ∀ w ∈ [Cond.laysFinal "CamDrum" "CamDrum" "now" "LCamDrum$Machine;", Cond.laysFinal "CamDrum" "CamDrum" "history" "LCamDrum$History;", Cond.laysFinal "CamDrum" "CamDrum" "text" "LCamDrum$TrackText;", Cond.laysFinal "CamDrum" "CamDrum" "trial" "LCamDrum$Machine;", Cond.laysFinal "CamDrum" "CamDrum" "earlier" "LCamDrum$Machine;"], w ∈ wsG
  exact List.forall_mem_cons.mpr ⟨w_ly_X7_now, List.forall_mem_cons.mpr ⟨w_ly_X7_history, List.forall_mem_cons.mpr ⟨w_ly_X7_text, List.forall_mem_cons.mpr ⟨w_ly_X7_trial, List.forall_mem_cons.mpr ⟨w_ly_X7_earlier, fun _ h => absurd h List.not_mem_nil⟩⟩⟩⟩⟩
theorem wsI_X8 : ∀ w ∈ wsX80, w ∈ wsG := by
  show ∀ w ∈ [Cond.laysFinal "CamDrumModel" "CamDrumModel" "all" "[I", Cond.laysFinal "CamDrumModel" "CamDrumModel" "saved" "[I", Cond.laysFinal "CamDrumModel" "CamDrumModel" "aside" "[I", Cond.lays "CamDrumModel" "CamDrumModel" "savedMany" "I", Cond.lays "CamDrumModel" "CamDrumModel" "threw" "I", Cond.lays "CamDrumModel" "CamDrumModel" "wentOn" "Z", Cond.lays "CamDrumModel" "CamDrumModel" "wereOut" "Z", Cond.laysFinal "CamDrumModel" "CamDrumModel" "first" "[I", Cond.laysFinal "CamDrumModel" "CamDrumModel" "text" "[I", Cond.lays "CamDrumModel" "CamDrumModel" "textLong" "I", Cond.lays "CamDrumModel" "CamDrumModel" "place" "I", Cond.laysFinal "CamDrumModel" "CamDrumModel" "told" "[I", Cond.lays "CamDrumModel" "CamDrumModel" "toldSteps" "I"], w ∈ wsG
  exact List.forall_mem_cons.mpr ⟨w_ly_X8_all, List.forall_mem_cons.mpr ⟨w_ly_X8_saved, List.forall_mem_cons.mpr ⟨w_ly_X8_aside, List.forall_mem_cons.mpr ⟨w_ly_X8_savedMany, List.forall_mem_cons.mpr ⟨w_ly_X8_threw, List.forall_mem_cons.mpr ⟨w_ly_X8_wentOn, List.forall_mem_cons.mpr ⟨w_ly_X8_wereOut, List.forall_mem_cons.mpr ⟨w_ly_X8_first, List.forall_mem_cons.mpr ⟨w_ly_X8_text, List.forall_mem_cons.mpr ⟨w_ly_X8_textLong, List.forall_mem_cons.mpr ⟨w_ly_X8_place, List.forall_mem_cons.mpr ⟨w_ly_X8_told, List.forall_mem_cons.mpr ⟨w_ly_X8_toldSteps, fun _ h => absurd h List.not_mem_nil⟩⟩⟩⟩⟩⟩⟩⟩⟩⟩⟩⟩⟩
end
section
/-! MY LAYER. One list of words (wsG) for every contract; a contract zM says: from the world w the method returns rv and leaves the world wo. -/
abbrev zCs : Type := ClassId × ClassId × ClassId
abbrev zT (cs : zCs) : List (ClassId × FieldType) := [(cs.1, .int), (cs.2.1, .long), (cs.2.2, .object RX5)]
def zNestL : List (String × Nat × MethodName × String) := [(RX7, 9, yX5_init, RX7), (RX5, 27, yX0_init, RX7), (RX5, 41, yX3_init, RX7), (RX4, 17, yX5_init, RX7), (RX7, 25, yX6_init, RX7), (RX5, 68, yX7_copyRow, RX7), (RX2, 36, yX7_copyRow, RX7), (RX3, 21, yX7_copyRow, RX7), (RX1, 24, yX7_copyRow, RX7), (RX1, 28, yX7_within, RX7), (RX6, 47, yX7_within, RX7), (RX4, 39, yX7_within, RX7), (RX3, 29, yX7_within, RX7)]
def zIO : String := "java/lang/IndexOutOfBoundsException"
def zIA : String := "java/lang/IllegalArgumentException"
def zIS : String := "java/lang/IllegalStateException"
def zCastL : List (String × String) := [(zIO, zIO), (zIA, zIA), (zIS, zIS)]
def zDeclL : List MethodName := [Bundle.initS "java/lang/RuntimeException", Bundle.initS "java/lang/Exception", Bundle.initS "java/lang/Throwable"]
def zNcL : List (String × String) := [(zIA, zIO), (zIS, zIO), (zIO, zIA), (zIS, zIA), (zIO, zIS), (zIA, zIS)]
def zStrL : List (Nat × String) := [(263, "there is no such cylinder or track"), (266, "there is no such step"), (61, "dwell or least is out of range"), (73, "size, speed or leak is out of range"), (94, "capacity or compressor is out of range"), (114, "both cylinders are the same, or bound is out of range"), (127, "there are 4 guards"), (273, "there is no such guard"), (146, "ticks is out of range"), (152, "there would be more than 100000 ticks"), (275, "what is out of range"), (214, "value is out of range"), (219, "the text has 100 bytes"), (237, "there is no saved state")]
/-- what every contract takes of the tables beside the words, and of the two statics of Throwable -/
def zE (A : Nat → Prop) (U : State) : Prop :=
  (∀ q ∈ zNestL, va_Nw (.methodLinkNest q.1 q.2.1 q.2.2.1 q.2.2.2) U) ∧ (∀ q ∈ zCastL, va_Nw (.castable q.1 q.2) U) ∧ (∀ q ∈ zDeclL, va_Nw (.declares q) U) ∧ (∀ q ∈ zNcL, va_Nc q.1 q.2 U) ∧ va_AO RX5 U ∧
  (∀ q ∈ zStrL, ∃ sa, vk_R RX7 q.1 q.2 sa U) ∧ vx_Zq Bundle.tN "UNASSIGNED_STACK" Bundle.steD A U U.heap ∧ vx_Zq Bundle.tN "SUPPRESSED_SENTINEL" Bundle.listD A U U.heap
theorem zE.next {A A' : Nat → Prop} {s U : State} {H : Heap} {locs : List Loc} (h : zE A s) (hS : va_S A s.heap H locs) (hA : ∀ q, A' q → A q) (hU : U.heap = H) (hW : s.WarmedH U.vm) : zE A' U := by
  obtain ⟨h1, h2, h3, h4, h5, h6, h7, h8⟩ := h
  refine ⟨fun q hq => va_Nw.warmM hW (h1 q hq), fun q hq => va_Nw.warmC hW (h2 q hq), fun q hq => va_Nw.warmD hW (h3 q hq), fun q hq => va_Nc.moved hW.alike (h4 q hq), va_AO.moved hW.alike h5, fun q hq => ?_, ?_, ?_⟩
  · obtain ⟨sa, h⟩ := h6 q hq
    exact ⟨sa, vk_R.warm hW h⟩
  · rw [hU]
    exact vx_Zq.moved hW.alike (vx_Zq.narrow (vx_Zq.kept h7 hS.2.1) hA)
  · rw [hU]
    exact vx_Zq.moved hW.alike (vx_Zq.narrow (vx_Zq.kept h8 hS.2.1) hA)
theorem zE.blind {A : Nat → Prop} {U : State} {g : JFrame} {mk : MethodId} {a : Array Value} (h : zE A U) : zE A (U.calling g mk a) := by
  obtain ⟨h1, h2, h3, h4, h5, h6, h7, h8⟩ := h
  refine ⟨fun q hq => va_Nw.same rfl rfl (h1 q hq), fun q hq => va_Nw.same rfl rfl (h2 q hq), fun q hq => va_Nw.same rfl rfl (h3 q hq), fun q hq => va_Nc.moved (Vm.Alike.refl U.vm) (h4 q hq), va_AO.moved (Vm.Alike.refl U.vm) h5, fun q hq => ?_, vx_Zq.moved (u := U) (U := U.calling g mk a) (Vm.Alike.refl U.vm) h7, vx_Zq.moved (u := U) (U := U.calling g mk a) (Vm.Alike.refl U.vm) h8⟩
  obtain ⟨sa, h⟩ := h6 q hq
  exact ⟨sa, vk_R.same rfl h⟩
/-- a method's start -/
def zPre (D : va_G) (cs : zCs) (w : va_W) (sz : Nat) : State → Prop := fun U =>
  U.heap.size = sz ∧ va_P D vwCl w U.heap ∧ va_K D vwCl (zT cs) U ∧ va_D (fun _ => True) w ∧ zE (va_A w sz) U
theorem zPre.blind {D : va_G} {cs : zCs} {av : List Value} {w : va_W} {sz : Nat} : FrameBlind (va_Pc av (zPre D cs w sz)) := fun _ U g mk q => by
  obtain ⟨q0, q1, qP, qK, qD, qE⟩ := q
  exact ⟨q0, q1, qP, va_K.moved (u := U) (U := U.calling g mk _) (Vm.Alike.refl U.vm) qK, qD, qE.blind⟩
/-- a method's end: it returned rv, and left the world wo -/
def zQ (D : va_G) (cs : zCs) (rv : Option Value) (wo : va_W) (A : Nat → Prop) : Array Value → State → Outcome → State → Prop := fun _ st o t =>
  (o = .returned rv ∧ va_P D vwCl wo t.heap ∧ va_K D vwCl (zT cs) t ∧ va_D A wo) ∧ va_F A st t
/-- the contract -/
def zM (l : Launch) (D : va_G) (cs : zCs) (y : MethodName) (cb : ByteArray) (ml : Nat) (ret : Option FieldType) (fr lo mc ms : Nat) (av : List Value) (w : va_W) (rv : Option Value) (wo : va_W) : Prop :=
  ∀ sz : Nat, Met l y (Cond.code y cb ml ret :: wsG) ({ frames := fr, cells := mc, slots := ms, locals := lo } : Room) (va_Pc av (zPre D cs w sz)) (zQ D cs rv wo (va_A w sz)) mc ms (va_A w sz)
theorem z_good {y : MethodName} {cb : ByteArray} {ml : Nat} {ret : Option FieldType} (hc : Cond.code y cb ml ret ∈ wsG) : GoodIn wsG (Cond.code y cb ml ret :: wsG) := fun w hw => by
  rcases List.mem_cons.mp hw with rfl | h
  · exact ⟨hc, wsG_good _ hc⟩
  · exact ⟨h, wsG_good _ h⟩
/-- a method's body, from its entry -/
theorem zM.of {l : Launch} {D : va_G} {cs : zCs} {y : MethodName} {cb : ByteArray} {ml : Nat} {ret : Option FieldType} {fr lo mc ms : Nat} {av : List Value} {w : va_W} {rv : Option Value} {wo : va_W} {own : String}
    (hy : plainName y.cls = true) (hl : (lg_sl av).length ≤ ml) (ho : y.cls = own)
    (body : ∀ (p : Program) (e : Env) (s : State) (m : MethodId) (below : List Frame) (meth : Method) (c : Code) (A : Nat → Prop) (ls : Array Slot), p.tables.exec = Jvm.exec → c.code = cb → meth.sig.returnType = ret → c.maxLocals = ml → s.vm.findClass own = some m.cls → (∀ w ∈ wsG, w.before av.toArray s = true) → meth.locks = false → meth.name = y.name → zE A s → va_K D vwCl (zT cs) s → (∀ q : Nat, s.heap.size ≤ q → A q) → va_P D vwCl w s.heap → va_D A w → va_S A s.heap s.heap [] → lv_has ls ml (lv_args 0 av) →
      W p l e ({ frames := fr, cells := mc, slots := ms, locals := lo } : Room) s m av.toArray below meth c s.heap [] 0 0 (MQ below (zQ D cs rv wo A) av.toArray s mc ms A) (F0 m 0 ls [])) : zM l D cs y cb ml ret fr lo mc ms av w rv wo := by
  subst ho
  intro sz
  refine Met.ofW (cc := cb) (maxL := ml) (ret := ret) hy rfl ?_
  intro p e s m args below meth c s₁ B hml hv
  obtain ⟨rfl, hsz, hP, hK, hD0, hE⟩ := hv
  have hts := atoms_spec (ws := Cond.code y cb ml ret :: wsG) B.pre
  subst hsz
  have hD := hD0.self (sz := s.heap.size)
  have hlv := lv_entry av (n := ml) hl
  rw [lg_entry_eq]
  exact body p e s m below meth c _ _ B.exec B.bytes B.returns hml (findClass_of_methodNamed B.named) (fun w hw => hts w (List.mem_cons_of_mem _ hw)) B.notSynchronized (name_of_methodNamed B.named B.method).1 hE hK (fun q h => Or.inr h) hP hD va_S.rf hlv
/-- places of a world replaced, in place -/
def z_pick (k : Nat) : List Nat → va_W → Option (Nat × va_E)
  | i :: is, q :: w => if i = k then some q else z_pick k is w
  | _, _ => none
def z_ins : Nat → va_W → List Nat → va_W → va_W
  | _, [], _, _ => []
  | k, q :: ws, is, w => (match z_pick k is w with | some q' => q' | none => q) :: z_ins (k + 1) ws is w
theorem z_pick_some {k : Nat} {q : Nat × va_E} : ∀ {is : List Nat} {w : va_W}, z_pick k is w = some q → ∃ j : Nat, is[j]? = some k ∧ w[j]? = some q
  | [], w, h => by simp [z_pick] at h
  | i :: is, [], h => by simp [z_pick] at h
  | i :: is, x :: w, h => by
    unfold z_pick at h
    by_cases hik : i = k
    · rw [if_pos hik] at h
      cases h
      exact ⟨0, by simp [hik], rfl⟩
    · rw [if_neg hik] at h
      obtain ⟨j, h1, h2⟩ := z_pick_some h
      exact ⟨j + 1, by simpa using h1, by simpa using h2⟩
theorem z_pick_none {k : Nat} : ∀ {is : List Nat} {w : va_W}, is.length = w.length → z_pick k is w = none → k ∉ is
  | [], _, _, _ => List.not_mem_nil
  | i :: is, [], h, _ => by simp at h
  | i :: is, x :: w, hl, h => by
    unfold z_pick at h
    by_cases hik : i = k
    · rw [if_pos hik] at h
      cases h
    · rw [if_neg hik] at h
      intro hm
      rcases List.mem_cons.mp hm with e | hm
      · exact hik e.symm
      · exact z_pick_none (by simpa using hl) h hm
theorem z_ins_get : ∀ {b : Nat} {ws : va_W} {is : List Nat} {w : va_W} {k : Nat} {q : Nat × va_E}, (z_ins b ws is w)[k]? = some q → z_pick (b + k) is w = some q ∨ (z_pick (b + k) is w = none ∧ ws[k]? = some q)
  | b, [], is, w, k, q, h => by simp [z_ins] at h
  | b, x :: ws, is, w, 0, q, h => by
    unfold z_ins at h
    rw [List.getElem?_cons_zero] at h
    rw [Nat.add_zero]
    cases hp : z_pick b is w with
    | none => rw [hp] at h; exact Or.inr ⟨rfl, h⟩
    | some y => rw [hp] at h; exact Or.inl h
  | b, x :: ws, is, w, k + 1, q, h => by
    unfold z_ins at h
    rw [List.getElem?_cons_succ] at h
    have := z_ins_get h
    rw [show b + (k + 1) = b + 1 + k by omega]
    rw [List.getElem?_cons_succ]
    exact this
theorem z_join {A0 : Nat → Prop} {D : va_G} {cl : List vw_C} {ws wc w1 : va_W} {H H1 : Heap} (hP : va_P D cl ws H) (hD : va_D A0 ws) (isC : List Nat) (hC : isC.map (fun i => ws[i]?) = wc.map some) (hn : va_nd isC = true) (hlen : w1.map (fun q => q.1) = wc.map (fun q => q.1))
    (hk : ∀ q : Nat, q < H.size → ¬ va_A wc H.size q → H1[q]? = H[q]?) (hP1 : va_P D cl w1 H1) : va_P D cl (z_ins 0 ws isC w1) H1 ∧ va_D A0 (z_ins 0 ws isC w1) := by
  have hl1 : isC.length = wc.length := by have := congrArg List.length hC; simpa using this
  have hl2 : isC.length = w1.length := by
    have := congrArg List.length hlen
    simp at this
    omega
  have atC : ∀ (j : Nat) (q : Nat × va_E), w1[j]? = some q → ∃ (i : Nat) (e : va_E), isC[j]? = some i ∧ ws[i]? = some (q.1, e) := by
    intro j q hq
    have h1 : (w1.map (fun q => q.1))[j]? = some q.1 := by rw [List.getElem?_map, hq]; rfl
    rw [hlen, List.getElem?_map] at h1
    cases hw : wc[j]? with
    | none => rw [hw] at h1; cases h1
    | some r =>
      rw [hw] at h1
      have h2 : (isC.map (fun i => ws[i]?))[j]? = some (some r) := by rw [hC, List.getElem?_map, hw]; rfl
      rw [List.getElem?_map] at h2
      cases hi : isC[j]? with
      | none => rw [hi] at h2; cases h2
      | some i =>
        rw [hi] at h2
        have h3 : ws[i]? = some r := Option.some.inj h2
        have h4 : r.1 = q.1 := Option.some.inj h1
        exact ⟨i, r.2, rfl, by rw [h3, ← h4]⟩
  have key : ∀ (k : Nat) (q : Nat × va_E), (z_ins 0 ws isC w1)[k]? = some q → (∃ j : Nat, isC[j]? = some k ∧ w1[j]? = some q) ∨ (k ∉ isC ∧ ws[k]? = some q) := by
    intro k q hq
    rcases z_ins_get hq with h | ⟨h1, h2⟩
    · rw [Nat.zero_add] at h
      exact Or.inl (z_pick_some h)
    · rw [Nat.zero_add] at h1
      exact Or.inr ⟨z_pick_none hl2 h1, h2⟩
  have addr : ∀ (k : Nat) (q : Nat × va_E), (z_ins 0 ws isC w1)[k]? = some q → ∃ e, ws[k]? = some (q.1, e) := by
    intro k q hq
    rcases key k q hq with ⟨j, h1, h2⟩ | ⟨_, h2⟩
    · obtain ⟨i, e, h3, h4⟩ := atC j q h2
      rw [h1] at h3
      cases h3
      exact ⟨e, h4⟩
    · exact ⟨q.2, h2⟩
  refine ⟨fun k q hq => ?_, fun i j x y hx hy hxy => ?_, fun k q hq => ?_⟩
  · rcases key k q hq with ⟨j, h1, h2⟩ | ⟨h1, h2⟩
    · exact hP1 j q h2
    · refine (hP k q h2).kept (hk q.1 (hP k q h2).lt (fun hA => ?_))
      rcases hA with ⟨k2, e, h⟩ | h
      · have h3 : (isC.map (fun i => ws[i]?))[k2]? = some (some (q.1, e)) := by rw [hC, List.getElem?_map, h]; rfl
        rw [List.getElem?_map] at h3
        cases hi : isC[k2]? with
        | none => rw [hi] at h3; cases h3
        | some i =>
          rw [hi] at h3
          have h4 : ws[i]? = some (q.1, e) := Option.some.inj h3
          have := hD.1 k i q (q.1, e) h2 h4 rfl
          subst this
          exact h1 (List.mem_of_getElem? hi)
      · have := (hP k q h2).lt
        omega
  · obtain ⟨e1, g1⟩ := addr i x hx
    obtain ⟨e2, g2⟩ := addr j y hy
    exact hD.1 i j (x.1, e1) (y.1, e2) g1 g2 hxy
  · obtain ⟨e1, g1⟩ := addr k q hq
    exact hD.2 k (q.1, e1) g1
section ZK
variable {p : Program} {l : Launch} {e : Env} {R : Room} {s : State} {m : MethodId} {args : Array Value} {below : List Frame} {meth : Method} {c : Code} {H : Heap} {locs : List Loc} {cells slots : Nat} {Q : State → Prop}
variable {pc : Nat} {ls : Array Slot} {rest st0 : List Value} {A : Nat → Prop} {mc ms : Nat} {D : va_G} {cs : zCs} {ws wc wo wn : va_W} {rv : Option Value} {a : Array Value}
/-- behind a call that returned: its cells in their places -/
theorem z_go (hr : va_Run p l e R s m args below meth c H locs cells slots mc ms (F0 m pc ls st0) rest (zQ D cs rv wo (va_A wc H.size) a) (va_A wc H.size)) (hP : va_P D vwCl ws H) (hD : va_D A ws) (hS : va_S A s.heap H locs) (hA : ∀ q : Nat, s.heap.size ≤ q → A q)
    (isC : List Nat) (hC : isC.map (fun i => ws[i]?) = wc.map some) (hn : va_nd isC = true) (hlen : wo.map (fun q => q.1) = wc.map (fun q => q.1)) (hN : z_ins 0 ws isC wo = wn)
    (kk : ∀ (H1 : Heap) (locs1 : List Loc), va_P D vwCl wn H1 → va_D A wn → va_S A s.heap H1 locs1 → W p l e R s m args below meth c H1 locs1 (cells + mc) (slots + ms) Q (F0 m (pc + 3) ls (rv.toList ++ rest))) : W p l e R s m args below meth c H locs cells slots Q (F0 m pc ls st0) := by
  intro T hT X
  obtain ⟨v, st₀, t, T', L, h0, X', hL, e1, e2, ⟨⟨hv, hP1, hK1, hD1⟩, hz, hk⟩, st⟩ := hr T hT X
  cases hv
  rw [h0] at hz hk
  have hF := va_free (wc := wc) hD hS hA isC hC
  obtain ⟨hP2, hD2⟩ := z_join (H1 := t.heap) hP hD isC hC hn hlen hk hP1
  rw [hN] at hP2 hD2
  obtain ⟨t2, a1, b1⟩ := kk T'.heap (locs ++ L) (by rw [e1]; exact hP2) hD2
    ⟨Nat.le_trans hS.1 (by rw [e1]; exact hz), fun q h1 h2 => by rw [e1, hk q (Nat.lt_of_lt_of_le h1 hS.1) (fun z => h2 (hF q z))]; exact hS.2.1 q h1 h2, fun q hq => by
      rcases List.mem_append.mp hq with h | h
      · exact hS.2.2 q h
      · exact hF _ (hL q h)⟩ T' rfl X'
  exact ⟨t2, st t2 a1, b1⟩
theorem z_pre {av : List Value} (hE : zE A s) (hK : va_K D vwCl (zT cs) s) (hP : va_P D vwCl ws H) (hD : va_D A ws) (hS : va_S A s.heap H locs) (hA : ∀ q : Nat, s.heap.size ≤ q → A q) (isC : List Nat) (hC : isC.map (fun i => ws[i]?) = wc.map some) (hn : va_nd isC = true) : PreS s H (va_Pc av (zPre D cs wc H.size)) av := by
  refine ⟨zPre.blind, fun U hU hW => ⟨rfl, by rw [hU], ?_, va_K.moved hW.alike hK, (hD.sub isC hn hC).weaken (fun _ _ _ _ => trivial), hE.next hS (va_free (wc := wc) hD hS hA isC hC) hU hW⟩⟩
  rw [hU]
  intro k q hq
  have h1 : (isC.map (fun i => ws[i]?))[k]? = some (some q) := by rw [hC, List.getElem?_map, hq]; rfl
  rw [List.getElem?_map] at h1
  cases hi : isC[k]? with
  | none => rw [hi] at h1; cases h1
  | some i =>
    rw [hi] at h1
    exact hP i q (Option.some.inj h1)
end ZK
/-- what a callee's name gives -/
def zY (y : MethodName) (cb : ByteArray) (ml : Nat) (ret : Option FieldType) (n : Nat) : Prop :=
  Cond.code y cb ml ret ∈ wsG ∧ Cond.initialized y.cls ∈ wsG ∧ (y.cls ≠ "java/lang/invoke/MethodHandle" ∧ y.cls ≠ "java/lang/invoke/VarHandle" ∧ (parseMethodDescriptor y.desc).map (fun d => d.parameters.length) = some n)
theorem z_ins_nil {b : Nat} {ws w : va_W} : z_ins b ws [] w = ws := by
  induction ws generalizing b with
  | nil => rfl
  | cons x ws ih => simp [z_ins, z_pick, ih]
section ZC
variable {p : Program} {l : Launch} {e : Env} {R : Room} {s : State} {m : MethodId} {args : Array Value} {below : List Frame} {meth : Method} {c : Code} {H : Heap} {locs : List Loc} {cells slots : Nat} {Q : State → Prop}
variable {pc : Nat} {ls : Array Slot} {A : Nat → Prop} {mc ms : Nat} {D : va_G} {cs : zCs} {ws wc wo wn : va_W} {rv : Option Value}
variable {cc cb : ByteArray} {nL n index ml fr lo : Nat} {own host : String} {y : MethodName} {ret : Option FieldType}
theorem z_callV (F : CallFix p m c cc nL s args wsG own) (hy : zY y cb ml ret n) (hi : Cond.instanceMethod y ∈ wsG) (hse : Cond.selects y.cls y y ∈ wsG) (hl : Cond.methodLink own index y ∈ wsG) {b : Nat} (As rest : List Value) (hM : zM l D cs y cb ml ret fr lo mc ms (.ref b :: As) wc rv wo)
    (hE : zE A s) (hK : va_K D vwCl (zT cs) s) (hA : ∀ q : Nat, s.heap.size ≤ q → A q) (hP : va_P D vwCl ws H) (hD : va_D A ws) (hS : va_S A s.heap H locs)
    (isC : List Nat) (hC : isC.map (fun i => ws[i]?) = wc.map some) (hnd : va_nd isC = true) (hlen : wo.map (fun q => q.1) = wc.map (fun q => q.1)) (hN : z_ins 0 ws isC wo = wn)
    (ci : Nat) {r : vw_C} {fs : List Value} (hcl : vwCl[ci]? = some r) (hr0 : wc[0]? = some (b, .inr (ci, fs))) (hrC : r.1 = y.cls)
    (hn : As.length = n) (hsz : ls.size = nL) (hW : (rest.map fun v => v.category).sum ≤ 8) (hR : fr + 1 ≤ R.frames ∧ 8 + (ml + 11) + lo ≤ R.locals) (hf : cells + mc ≤ R.cells ∧ slots + ms ≤ R.slots) (hdg : decode cc pc = .ok (.invokevirtual index, 3))
    (kk : ∀ (H1 : Heap) (locs1 : List Loc), va_P D vwCl wn H1 → va_D A wn → va_S A s.heap H1 locs1 → W p l e R s m args below meth c H1 locs1 (cells + mc) (slots + ms) Q (F0 m (pc + 3) ls (rv.toList ++ rest))) : W p l e R s m args below meth c H locs cells slots Q (F0 m pc ls (As.reverse ++ .ref b :: rest)) := by
  have hp := z_pre (av := .ref b :: As) hE hK hP hD hS hA isC hC hnd
  have hPc : va_P D vwCl wc H := by
    intro k q hq
    have h1 : (isC.map (fun i => ws[i]?))[k]? = some (some q) := by rw [hC, List.getElem?_map, hq]; rfl
    rw [List.getElem?_map] at h1
    cases hi : isC[k]? with
    | none => rw [hi] at h1; cases h1
    | some i =>
      rw [hi] at h1
      exact hP i q (Option.some.inj h1)
  have hcw : CallW R s args own y.cls index y cb ml ret (Cond.code y cb ml ret :: wsG) ({ frames := fr, cells := mc, slots := ms, locals := lo } : Room) mc ms n :=
    ⟨callB_of n F.2.2.2.2 (z_good hy.1) rfl rfl rfl (F.2.2.2.2 _ hy.2.1) (F.2.2.2.2 _ hl) hy.2.2 hR, F.2.2.2.2 _ hi, F.2.2.2.2 _ hse⟩
  refine z_go (va_runV (As := As) (rest := rest) F (hM H.size) hcw ⟨hp.1, ?_, hp.2⟩ rfl hn hsz rfl (by show 2 * 0 + _ ≤ 8; omega) hdg hf) hP hD hS hA isC hC hnd hlen hN kk
  have := va_recv hK hPc (ci := ci) (q0 := 0) hcl hr0
  rw [hrC] at this
  exact this
theorem z_callS (F : CallFix p m c cc nL s args wsG own) (hy : zY y cb ml ret n) (hst : Cond.static y ∈ wsG) (hl : Cond.methodLink own index y ∈ wsG) (As rest : List Value) (hM : zM l D cs y cb ml ret fr lo mc ms As wc rv wo)
    (hE : zE A s) (hK : va_K D vwCl (zT cs) s) (hA : ∀ q : Nat, s.heap.size ≤ q → A q) (hP : va_P D vwCl ws H) (hD : va_D A ws) (hS : va_S A s.heap H locs)
    (isC : List Nat) (hC : isC.map (fun i => ws[i]?) = wc.map some) (hnd : va_nd isC = true) (hlen : wo.map (fun q => q.1) = wc.map (fun q => q.1)) (hN : z_ins 0 ws isC wo = wn)
    (hn : As.length = n) (hsz : ls.size = nL) (hW : (rest.map fun v => v.category).sum ≤ 8) (hR : fr + 1 ≤ R.frames ∧ 8 + (ml + 11) + lo ≤ R.locals) (hf : cells + mc ≤ R.cells ∧ slots + ms ≤ R.slots) (hdg : decode cc pc = .ok (.invokestatic index, 3))
    (kk : ∀ (H1 : Heap) (locs1 : List Loc), va_P D vwCl wn H1 → va_D A wn → va_S A s.heap H1 locs1 → W p l e R s m args below meth c H1 locs1 (cells + mc) (slots + ms) Q (F0 m (pc + 3) ls (rv.toList ++ rest))) : W p l e R s m args below meth c H locs cells slots Q (F0 m pc ls (As.reverse ++ rest)) := by
  have hp := z_pre (av := As) hE hK hP hD hS hA isC hC hnd
  exact z_go (va_runS (As := As) (rest := rest) F (hM H.size) ⟨callB_of n F.2.2.2.2 (z_good hy.1) rfl rfl rfl (F.2.2.2.2 _ hy.2.1) (F.2.2.2.2 _ hl) hy.2.2 hR, F.2.2.2.2 _ hst⟩ hp rfl hn hsz rfl (by show 2 * 0 + _ ≤ 8; omega) hdg hf) hP hD hS hA isC hC hnd hlen hN kk
theorem z_callSN (F : CallFix p m c cc nL s args wsG own) (hy : zY y cb ml ret n) (hst : Cond.static y ∈ wsG) (hl : (own, index, y, host) ∈ zNestL) (As rest : List Value) (hM : zM l D cs y cb ml ret fr lo mc ms As wc rv wo)
    (hE : zE A s) (hK : va_K D vwCl (zT cs) s) (hA : ∀ q : Nat, s.heap.size ≤ q → A q) (hP : va_P D vwCl ws H) (hD : va_D A ws) (hS : va_S A s.heap H locs)
    (isC : List Nat) (hC : isC.map (fun i => ws[i]?) = wc.map some) (hnd : va_nd isC = true) (hlen : wo.map (fun q => q.1) = wc.map (fun q => q.1)) (hN : z_ins 0 ws isC wo = wn)
    (hn : As.length = n) (hsz : ls.size = nL) (hW : (rest.map fun v => v.category).sum ≤ 8) (hR : fr + 1 ≤ R.frames ∧ 8 + (ml + 11) + lo ≤ R.locals) (hf : cells + mc ≤ R.cells ∧ slots + ms ≤ R.slots) (hdg : decode cc pc = .ok (.invokestatic index, 3))
    (kk : ∀ (H1 : Heap) (locs1 : List Loc), va_P D vwCl wn H1 → va_D A wn → va_S A s.heap H1 locs1 → W p l e R s m args below meth c H1 locs1 (cells + mc) (slots + ms) Q (F0 m (pc + 3) ls (rv.toList ++ rest))) : W p l e R s m args below meth c H locs cells slots Q (F0 m pc ls (As.reverse ++ rest)) := by
  have hp := z_pre (av := As) hE hK hP hD hS hA isC hC hnd
  exact z_go (va_runSN (As := As) (rest := rest) F (hM H.size) ⟨va_cnB n F.2.2.2.2 (z_good hy.1) rfl rfl rfl (hE.1 _ hl) (F.2.2.2.2 _ hy.2.1) hy.2.2 hR, F.2.2.2.2 _ hst, trivial⟩ hp rfl hn hsz rfl (by show 2 * 0 + _ ≤ 8; omega) hdg hf) hP hD hS hA isC hC hnd hlen hN kk
/-- the ends -/
theorem z_end {t : State} (hK : va_K D vwCl (zT cs) s) (hP : va_P D vwCl ws H) (hD : va_D A ws) (hS : va_S A s.heap H locs) {v : Option Value} (hv : v = rv) (hw : ws = wo) (ht : t.heap = H) (hW : s.WarmedH t.vm) : zQ D cs rv wo A args s (.returned v) t := by
  subst hv; subst hw
  exact ⟨⟨rfl, by rw [ht]; exact hP, va_K.moved hW.alike hK, hD⟩, hS.F ht⟩
theorem z_iret (hx : p.tables.exec = Jvm.exec) (hb : c.code = cc) (hr : meth.sig.returnType = some .int) (hlk : meth.locks = false) (hK : va_K D vwCl (zT cs) s) (hP : va_P D vwCl ws H) (hD : va_D A ws) (hS : va_S A s.heap H locs) (hdg : decode cc pc = .ok (.ireturn, 1)) {v : Int32} (hv : some (.int v) = rv) (hw : ws = wo) :
    W p l e R s m args below meth c H locs cells slots (MQ below (zQ D cs rv wo A) args s cells slots A) (F0 m pc ls [.int v]) :=
  W.iret hx hb hr (fun _ ht hW => z_end hK hP hD hS hv hw ht hW) hS.2.2 hdg hlk
theorem z_zret (hx : p.tables.exec = Jvm.exec) (hb : c.code = cc) (hr : meth.sig.returnType = some .boolean) (hlk : meth.locks = false) (hK : va_K D vwCl (zT cs) s) (hP : va_P D vwCl ws H) (hD : va_D A ws) (hS : va_S A s.heap H locs) (hdg : decode cc pc = .ok (.ireturn, 1)) {v : Int32} (hn : narrow .boolean (.int v) = .int v) (hv : some (.int v) = rv) (hw : ws = wo) :
    W p l e R s m args below meth c H locs cells slots (MQ below (zQ D cs rv wo A) args s cells slots A) (F0 m pc ls [.int v]) :=
  W.zret hx hb hr hn (fun _ ht hW => z_end hK hP hD hS hv hw ht hW) hS.2.2 hdg hlk
theorem z_vret (hx : p.tables.exec = Jvm.exec) (hb : c.code = cc) (hr : meth.sig.returnType = none) (hlk : meth.locks = false) (hK : va_K D vwCl (zT cs) s) (hP : va_P D vwCl ws H) (hD : va_D A ws) (hS : va_S A s.heap H locs) (hdg : decode cc pc = .ok (.return_, 1)) (hv : none = rv) (hw : ws = wo) :
    W p l e R s m args below meth c H locs cells slots (MQ below (zQ D cs rv wo A) args s cells slots A) (F0 m pc ls []) :=
  W.vret hx hb hr (fun _ ht hW => z_end hK hP hD hS hv hw ht hW) hS.2.2 hdg hlk
theorem z_lret (hx : p.tables.exec = Jvm.exec) (hb : c.code = cc) (hr : meth.sig.returnType = some .long) (hlk : meth.locks = false) (hK : va_K D vwCl (zT cs) s) (hP : va_P D vwCl ws H) (hD : va_D A ws) (hS : va_S A s.heap H locs) (hdg : decode cc pc = .ok (.lreturn, 1)) {v : Int64} (hv : some (.long v) = rv) (hw : ws = wo) :
    W p l e R s m args below meth c H locs cells slots (MQ below (zQ D cs rv wo A) args s cells slots A) (F0 m pc ls [.long v]) :=
  W.lret hx hb hr (fun _ ht hW => z_end hK hP hD hS hv hw ht hW) hS.2.2 hdg hlk
theorem z_dret (hx : p.tables.exec = Jvm.exec) (hb : c.code = cc) (hr : meth.sig.returnType = some .double) (hlk : meth.locks = false) (hK : va_K D vwCl (zT cs) s) (hP : va_P D vwCl ws H) (hD : va_D A ws) (hS : va_S A s.heap H locs) (hdg : decode cc pc = .ok (.dreturn, 1)) {v : UInt64} (hv : some (.double v) = rv) (hw : ws = wo) :
    W p l e R s m args below meth c H locs cells slots (MQ below (zQ D cs rv wo A) args s cells slots A) (F0 m pc ls [.double v]) :=
  W.dret hx hb hr (fun _ ht hW => z_end hK hP hD hS hv hw ht hW) hS.2.2 hdg hlk
/-- an int of an array, read and written at a known place; its contents are what they are below its length -/
theorem z_ext {w1 w2 : va_W} {a : Nat} {cA : ClassId} {k : Nat} {f g : Nat → Int32} (h : ∀ j : Nat, j < k → f j = g j) (hP : va_P D vwCl (w1 ++ (a, .inl (cA, k, .inl f)) :: w2) H) : va_P D vwCl (w1 ++ (a, .inl (cA, k, .inl g)) :: w2) H := by
  have hc : vp_cell cA (k, .inl f) = vp_cell cA (k, .inl g) := by
    rw [vp_cell_i, vp_cell_i]
    unfold arrV
    congr 1
    apply Array.ext
    · simp
    · intro i h1 h2
      simp at h1 h2 ⊢
      exact h i h1
  intro i q hq
  by_cases hi : i < w1.length
  · rw [List.getElem?_append_left hi] at hq
    exact hP i q (by rw [List.getElem?_append_left hi]; exact hq)
  · have hi := Nat.le_of_not_lt hi
    rw [List.getElem?_append_right hi] at hq
    have h2 := fun q => hP i q
    rw [List.getElem?_append_right hi] at h2
    cases hz : i - w1.length with
    | zero =>
      rw [hz] at hq h2
      cases hq
      have := h2 _ rfl
      show H[a]? = some (vp_cell cA (k, .inl g))
      rw [← hc]
      exact this
    | succ z =>
      rw [hz, List.getElem?_cons_succ] at hq h2
      exact h2 q hq
theorem z_extD {w1 w2 : va_W} {a : Nat} {e1 e2 : va_E} (hD : va_D A (w1 ++ (a, e1) :: w2)) : va_D A (w1 ++ (a, e2) :: w2) := by
  have key : ∀ (k : Nat) (q : Nat × va_E), (w1 ++ (a, e2) :: w2)[k]? = some q → ∃ e, (w1 ++ (a, e1) :: w2)[k]? = some (q.1, e) := by
    intro k q hq
    by_cases hi : k < w1.length
    · rw [List.getElem?_append_left hi] at hq ⊢
      exact ⟨q.2, hq⟩
    · have hi := Nat.le_of_not_lt hi
      rw [List.getElem?_append_right hi] at hq ⊢
      cases hz : k - w1.length with
      | zero =>
        rw [hz] at hq
        cases hq
        exact ⟨e1, rfl⟩
      | succ z =>
        rw [hz, List.getElem?_cons_succ] at hq
        rw [List.getElem?_cons_succ]
        exact ⟨q.2, hq⟩
  refine ⟨fun i j x y hx hy hxy => ?_, fun k q hq => ?_⟩
  · obtain ⟨e3, g1⟩ := key i x hx
    obtain ⟨e4, g2⟩ := key j y hy
    exact hD.1 i j (x.1, e3) (y.1, e4) g1 g2 hxy
  · obtain ⟨e3, g1⟩ := key k q hq
    exact hD.2 k (q.1, e3) g1
theorem z_top {x y : Int32} {rest : List Value} (h : x = y) (k : W p l e R s m args below meth c H locs cells slots Q (F0 m pc ls (.int y :: rest))) : W p l e R s m args below meth c H locs cells slots Q (F0 m pc ls (.int x :: rest)) := h ▸ k
theorem z_topl {x y : Int64} {rest : List Value} (h : x = y) (k : W p l e R s m args below meth c H locs cells slots Q (F0 m pc ls (.long y :: rest))) : W p l e R s m args below meth c H locs cells slots Q (F0 m pc ls (.long x :: rest)) := h ▸ k
end ZC
/-- a truth as the machine has it -/
def bI (P : Prop) [Decidable P] : Int32 := if P then 1 else 0
theorem bI_t {P : Prop} [Decidable P] (h : P) : bI P = 1 := if_pos h
theorem bI_f {P : Prop} [Decidable P] (h : ¬ P) : bI P = 0 := if_neg h
theorem bI_0 {P : Prop} [Decidable P] : bI P = 0 ↔ ¬ P := by
  unfold bI
  by_cases h : P
  · rw [if_pos h]; exact ⟨fun q => absurd q (by decide), fun q => absurd h q⟩
  · rw [if_neg h]; exact ⟨fun _ => h, fun _ => rfl⟩
theorem bI_nar {P : Prop} [Decidable P] : narrow .boolean (.int (bI P)) = .int (bI P) := by
  unfold bI
  by_cases h : P
  · rw [if_pos h]; rfl
  · rw [if_neg h]; rfl
theorem bI_fit {P : Prop} [Decidable P] : fits .boolean (.int (bI P)) = true := by
  unfold bI
  by_cases h : P
  · rw [if_pos h]; rfl
  · rw [if_neg h]; rfl
theorem bI_congr {P Q : Prop} [Decidable P] [Decidable Q] (h : P ↔ Q) : bI P = bI Q := by
  unfold bI
  by_cases hp : P
  · rw [if_pos hp, if_pos (h.mp hp)]
  · rw [if_neg hp, if_neg (fun q => hp (h.mpr q))]
end
section
theorem zY_J6_bitCount_0f7a4 : zY yJ6_bitCount_0f7a4 cJ6_bitCount_0f7a4 1 (some FieldType.int) 1 := ⟨w_co_yJ6_bitCount_0f7a4, w_in_J6, by decide +kernel⟩
theorem zY_J7_fill_53178 : zY yJ7_fill_53178 cJ7_fill_53178 4 none 2 := ⟨w_co_yJ7_fill_53178, w_in_J7, by decide +kernel⟩
theorem zY_X0_compress : zY yX0_compress cX0_compress 1 none 0 := ⟨w_co_yX0_compress, w_in_X0, by decide +kernel⟩
theorem zY_X0_copyFrom : zY yX0_copyFrom cX0_copyFrom 2 none 1 := ⟨w_co_yX0_copyFrom, w_in_X0, by decide +kernel⟩
theorem zY_X0_enoughToMove : zY yX0_enoughToMove cX0_enoughToMove 2 (some FieldType.int) 1 := ⟨w_co_yX0_enoughToMove, w_in_X0, by decide +kernel⟩
theorem zY_X0_init : zY yX0_init cX0_init 1 none 0 := ⟨w_co_yX0_init, w_in_X0, by decide +kernel⟩
theorem zY_X0_leakOut : zY yX0_leakOut cX0_leakOut 3 (some FieldType.int) 1 := ⟨w_co_yX0_leakOut, w_in_X0, by decide +kernel⟩
theorem zY_X0_letOffSurplus : zY yX0_letOffSurplus cX0_letOffSurplus 2 none 0 := ⟨w_co_yX0_letOffSurplus, w_in_X0, by decide +kernel⟩
theorem zY_X0_use : zY yX0_use cX0_use 2 none 1 := ⟨w_co_yX0_use, w_in_X0, by decide +kernel⟩
theorem zY_X1_copyFrom : zY yX1_copyFrom cX1_copyFrom 2 none 1 := ⟨w_co_yX1_copyFrom, w_in_X1, by decide +kernel⟩
theorem zY_X1_countSkip : zY yX1_countSkip cX1_countSkip 2 none 1 := ⟨w_co_yX1_countSkip, w_in_X1, by decide +kernel⟩
theorem zY_X1_forget : zY yX1_forget cX1_forget 1 none 0 := ⟨w_co_yX1_forget, w_in_X1, by decide +kernel⟩
theorem zY_X1_init : zY yX1_init cX1_init 1 none 0 := ⟨w_co_yX1_init, w_in_X1, by decide +kernel⟩
theorem zY_X1_note : zY yX1_note cX1_note 5 none 3 := ⟨w_co_yX1_note, w_in_X1, by decide +kernel⟩
theorem zY_X1_outAt : zY yX1_outAt cX1_outAt 4 (some FieldType.int) 2 := ⟨w_co_yX1_outAt, w_in_X1, by decide +kernel⟩
theorem zY_X1_skipsAt : zY yX1_skipsAt cX1_skipsAt 2 (some FieldType.int) 1 := ⟨w_co_yX1_skipsAt, w_in_X1, by decide +kernel⟩
theorem zY_X2_copyFrom : zY yX2_copyFrom cX2_copyFrom 2 none 1 := ⟨w_co_yX2_copyFrom, w_in_X2, by decide +kernel⟩
theorem zY_X2_init : zY yX2_init cX2_init 1 none 0 := ⟨w_co_yX2_init, w_in_X2, by decide +kernel⟩
theorem zY_X3_copyFrom : zY yX3_copyFrom cX3_copyFrom 2 none 1 := ⟨w_co_yX3_copyFrom, w_in_X3, by decide +kernel⟩
theorem zY_X3_init : zY yX3_init cX3_init 1 none 0 := ⟨w_co_yX3_init, w_in_X3, by decide +kernel⟩
theorem zY_X3_putLast : zY yX3_putLast cX3_putLast 4 (some FieldType.int) 3 := ⟨w_co_yX3_putLast, w_in_X3, by decide +kernel⟩
theorem zY_X3_takeOut : zY yX3_takeOut cX3_takeOut 3 none 1 := ⟨w_co_yX3_takeOut, w_in_X3, by decide +kernel⟩
theorem zY_X4_init : zY yX4_init cX4_init 2 none 0 := ⟨w_co_yX4_init, w_in_X4, by decide +kernel⟩
theorem zY_X4_newestPlace : zY yX4_newestPlace cX4_newestPlace 1 (some (FieldType.object "CamDrum$Machine")) 0 := ⟨w_co_yX4_newestPlace, w_in_X4, by decide +kernel⟩
theorem zY_X4_restore : zY yX4_restore cX4_restore 3 none 1 := ⟨w_co_yX4_restore, w_in_X4, by decide +kernel⟩
theorem zY_X4_save : zY yX4_save cX4_save 3 none 1 := ⟨w_co_yX4_save, w_in_X4, by decide +kernel⟩
theorem zY_X5_allDueAreOut : zY yX5_allDueAreOut cX5_allDueAreOut 2 (some FieldType.boolean) 0 := ⟨w_co_yX5_allDueAreOut, w_in_X5, by decide +kernel⟩
theorem zY_X5_camsOf : zY yX5_camsOf cX5_camsOf 2 (some FieldType.int) 1 := ⟨w_co_yX5_camsOf, w_in_X5, by decide +kernel⟩
theorem zY_X5_copyFrom : zY yX5_copyFrom cX5_copyFrom 2 none 1 := ⟨w_co_yX5_copyFrom, w_in_X5, by decide +kernel⟩
theorem zY_X5_cylinderNumber : zY yX5_cylinderNumber cX5_cylinderNumber 3 (some FieldType.int) 2 := ⟨w_co_yX5_cylinderNumber, w_in_X5, by decide +kernel⟩
theorem zY_X5_guardNumber : zY yX5_guardNumber cX5_guardNumber 3 (some FieldType.int) 2 := ⟨w_co_yX5_guardNumber, w_in_X5, by decide +kernel⟩
theorem zY_X5_hasCam : zY yX5_hasCam cX5_hasCam 3 (some FieldType.boolean) 2 := ⟨w_co_yX5_hasCam, w_in_X5, by decide +kernel⟩
theorem zY_X5_holds : zY yX5_holds cX5_holds 3 (some FieldType.boolean) 1 := ⟨w_co_yX5_holds, w_in_X5, by decide +kernel⟩
theorem zY_X5_init : zY yX5_init cX5_init 1 none 0 := ⟨w_co_yX5_init, w_in_X5, by decide +kernel⟩
theorem zY_X5_leakAt : zY yX5_leakAt cX5_leakAt 2 none 1 := ⟨w_co_yX5_leakAt, w_in_X5, by decide +kernel⟩
theorem zY_X5_moveDrum : zY yX5_moveDrum cX5_moveDrum 1 (some FieldType.int) 0 := ⟨w_co_yX5_moveDrum, w_in_X5, by decide +kernel⟩
theorem zY_X5_moveIn : zY yX5_moveIn cX5_moveIn 2 none 1 := ⟨w_co_yX5_moveIn, w_in_X5, by decide +kernel⟩
theorem zY_X5_moveOut : zY yX5_moveOut cX5_moveOut 4 none 1 := ⟨w_co_yX5_moveOut, w_in_X5, by decide +kernel⟩
theorem zY_X5_number : zY yX5_number cX5_number 2 (some FieldType.int) 1 := ⟨w_co_yX5_number, w_in_X5, by decide +kernel⟩
theorem zY_X5_putCam : zY yX5_putCam cX5_putCam 5 none 3 := ⟨w_co_yX5_putCam, w_in_X5, by decide +kernel⟩
theorem zY_X5_roomByGuards : zY yX5_roomByGuards cX5_roomByGuards 4 (some FieldType.int) 1 := ⟨w_co_yX5_roomByGuards, w_in_X5, by decide +kernel⟩
theorem zY_X5_standAt : zY yX5_standAt cX5_standAt 2 none 1 := ⟨w_co_yX5_standAt, w_in_X5, by decide +kernel⟩
theorem zY_X5_standsAs : zY yX5_standsAs cX5_standsAs 3 (some FieldType.boolean) 1 := ⟨w_co_yX5_standsAs, w_in_X5, by decide +kernel⟩
theorem zY_X5_takeTracks : zY yX5_takeTracks cX5_takeTracks 2 none 1 := ⟨w_co_yX5_takeTracks, w_in_X5, by decide +kernel⟩
theorem zY_X5_tick : zY yX5_tick cX5_tick 3 (some FieldType.int) 0 := ⟨w_co_yX5_tick, w_in_X5, by decide +kernel⟩
theorem zY_X5_tickUntilCycleEnds : zY yX5_tickUntilCycleEnds cX5_tickUntilCycleEnds 3 (some FieldType.int) 1 := ⟨w_co_yX5_tickUntilCycleEnds, w_in_X5, by decide +kernel⟩
theorem zY_X6_byteAt : zY yX6_byteAt cX6_byteAt 2 (some FieldType.int) 1 := ⟨w_co_yX6_byteAt, w_in_X6, by decide +kernel⟩
theorem zY_X6_init : zY yX6_init cX6_init 1 none 0 := ⟨w_co_yX6_init, w_in_X6, by decide +kernel⟩
theorem zY_X6_isDigitAt : zY yX6_isDigitAt cX6_isDigitAt 2 (some FieldType.boolean) 1 := ⟨w_co_yX6_isDigitAt, w_in_X6, by decide +kernel⟩
theorem zY_X6_passSign : zY yX6_passSign cX6_passSign 2 none 1 := ⟨w_co_yX6_passSign, w_in_X6, by decide +kernel⟩
theorem zY_X6_putLast : zY yX6_putLast cX6_putLast 2 none 1 := ⟨w_co_yX6_putLast, w_in_X6, by decide +kernel⟩
theorem zY_X6_read : zY yX6_read cX6_read 3 none 1 := ⟨w_co_yX6_read, w_in_X6, by decide +kernel⟩
theorem zY_X6_readSteps : zY yX6_readSteps cX6_readSteps 5 none 0 := ⟨w_co_yX6_readSteps, w_in_X6, by decide +kernel⟩
theorem zY_X6_readTrack : zY yX6_readTrack cX6_readTrack 4 none 0 := ⟨w_co_yX6_readTrack, w_in_X6, by decide +kernel⟩
theorem zY_X7_addGuard : zY yX7_addGuard cX7_addGuard 4 (some FieldType.int) 3 := ⟨w_co_yX7_addGuard, w_in_X7, by decide +kernel⟩
theorem zY_X7_append : zY yX7_append cX7_append 2 (some FieldType.int) 1 := ⟨w_co_yX7_append, w_in_X7, by decide +kernel⟩
theorem zY_X7_cam : zY yX7_cam cX7_cam 3 (some FieldType.boolean) 2 := ⟨w_co_yX7_cam, w_in_X7, by decide +kernel⟩
theorem zY_X7_chart : zY yX7_chart cX7_chart 3 (some FieldType.int) 2 := ⟨w_co_yX7_chart, w_in_X7, by decide +kernel⟩
theorem zY_X7_clearText : zY yX7_clearText cX7_clearText 2 (some FieldType.int) 0 := ⟨w_co_yX7_clearText, w_in_X7, by decide +kernel⟩
theorem zY_X7_copyRow : zY yX7_copyRow cX7_copyRow 2 none 2 := ⟨w_co_yX7_copyRow, w_in_X7, by decide +kernel⟩
theorem zY_X7_cylinder : zY yX7_cylinder cX7_cylinder 3 (some FieldType.int) 2 := ⟨w_co_yX7_cylinder, w_in_X7, by decide +kernel⟩
theorem zY_X7_digest : zY yX7_digest cX7_digest 4 (some FieldType.long) 0 := ⟨w_co_yX7_digest, w_in_X7, by decide +kernel⟩
theorem zY_X7_dwellSuffices : zY yX7_dwellSuffices cX7_dwellSuffices 5 (some FieldType.boolean) 1 := ⟨w_co_yX7_dwellSuffices, w_in_X7, by decide +kernel⟩
theorem zY_X7_goesWithoutSkip : zY yX7_goesWithoutSkip cX7_goesWithoutSkip 4 (some FieldType.boolean) 2 := ⟨w_co_yX7_goesWithoutSkip, w_in_X7, by decide +kernel⟩
theorem zY_X7_guard : zY yX7_guard cX7_guard 3 (some FieldType.int) 2 := ⟨w_co_yX7_guard, w_in_X7, by decide +kernel⟩
theorem zY_X7_hashWith : zY yX7_hashWith cX7_hashWith 3 (some FieldType.long) 2 := ⟨w_co_yX7_hashWith, w_in_X7, by decide +kernel⟩
theorem zY_X7_hashWithCylinders : zY yX7_hashWithCylinders cX7_hashWithCylinders 5 (some FieldType.long) 1 := ⟨w_co_yX7_hashWithCylinders, w_in_X7, by decide +kernel⟩
theorem zY_X7_hashWithGuards : zY yX7_hashWithGuards cX7_hashWithGuards 5 (some FieldType.long) 1 := ⟨w_co_yX7_hashWithGuards, w_in_X7, by decide +kernel⟩
theorem zY_X7_hashWithSteps : zY yX7_hashWithSteps cX7_hashWithSteps 5 (some FieldType.long) 1 := ⟨w_co_yX7_hashWithSteps, w_in_X7, by decide +kernel⟩
theorem zY_X7_init : zY yX7_init cX7_init 1 none 0 := ⟨w_co_yX7_init, w_in_X7, by decide +kernel⟩
theorem zY_X7_leastCompressor : zY yX7_leastCompressor cX7_leastCompressor 3 (some FieldType.int) 1 := ⟨w_co_yX7_leastCompressor, w_in_X7, by decide +kernel⟩
theorem zY_X7_parse : zY yX7_parse cX7_parse 3 (some FieldType.int) 0 := ⟨w_co_yX7_parse, w_in_X7, by decide +kernel⟩
theorem zY_X7_removeGuard : zY yX7_removeGuard cX7_removeGuard 2 (some FieldType.int) 1 := ⟨w_co_yX7_removeGuard, w_in_X7, by decide +kernel⟩
theorem zY_X7_repeats : zY yX7_repeats cX7_repeats 2 (some FieldType.boolean) 0 := ⟨w_co_yX7_repeats, w_in_X7, by decide +kernel⟩
theorem zY_X7_requireCylinder : zY yX7_requireCylinder cX7_requireCylinder 1 none 1 := ⟨w_co_yX7_requireCylinder, w_in_X7, by decide +kernel⟩
theorem zY_X7_requireGuard : zY yX7_requireGuard cX7_requireGuard 2 none 1 := ⟨w_co_yX7_requireGuard, w_in_X7, by decide +kernel⟩
theorem zY_X7_requireStep : zY yX7_requireStep cX7_requireStep 2 none 1 := ⟨w_co_yX7_requireStep, w_in_X7, by decide +kernel⟩
theorem zY_X7_requireWhat : zY yX7_requireWhat cX7_requireWhat 2 none 2 := ⟨w_co_yX7_requireWhat, w_in_X7, by decide +kernel⟩
theorem zY_X7_run : zY yX7_run cX7_run 4 (some FieldType.int) 1 := ⟨w_co_yX7_run, w_in_X7, by decide +kernel⟩
theorem zY_X7_setAir : zY yX7_setAir cX7_setAir 3 (some FieldType.int) 2 := ⟨w_co_yX7_setAir, w_in_X7, by decide +kernel⟩
theorem zY_X7_setCam : zY yX7_setCam cX7_setCam 4 (some FieldType.int) 3 := ⟨w_co_yX7_setCam, w_in_X7, by decide +kernel⟩
theorem zY_X7_setCylinder : zY yX7_setCylinder cX7_setCylinder 5 (some FieldType.int) 4 := ⟨w_co_yX7_setCylinder, w_in_X7, by decide +kernel⟩
theorem zY_X7_setPawl : zY yX7_setPawl cX7_setPawl 4 (some FieldType.int) 2 := ⟨w_co_yX7_setPawl, w_in_X7, by decide +kernel⟩
theorem zY_X7_shortestDwell : zY yX7_shortestDwell cX7_shortestDwell 2 (some FieldType.int) 0 := ⟨w_co_yX7_shortestDwell, w_in_X7, by decide +kernel⟩
theorem zY_X7_skips : zY yX7_skips cX7_skips 2 (some FieldType.int) 1 := ⟨w_co_yX7_skips, w_in_X7, by decide +kernel⟩
theorem zY_X7_ticksToCycle : zY yX7_ticksToCycle cX7_ticksToCycle 1 (some FieldType.int) 0 := ⟨w_co_yX7_ticksToCycle, w_in_X7, by decide +kernel⟩
theorem zY_X7_ticksToOut : zY yX7_ticksToOut cX7_ticksToOut 3 (some FieldType.int) 1 := ⟨w_co_yX7_ticksToOut, w_in_X7, by decide +kernel⟩
theorem zY_X7_turn : zY yX7_turn cX7_turn 3 (some FieldType.int) 1 := ⟨w_co_yX7_turn, w_in_X7, by decide +kernel⟩
theorem zY_X7_undo : zY yX7_undo cX7_undo 1 (some FieldType.int) 0 := ⟨w_co_yX7_undo, w_in_X7, by decide +kernel⟩
theorem zY_X7_useful : zY yX7_useful cX7_useful 1 (some FieldType.double) 0 := ⟨w_co_yX7_useful, w_in_X7, by decide +kernel⟩
theorem zY_X7_value : zY yX7_value cX7_value 2 (some FieldType.int) 1 := ⟨w_co_yX7_value, w_in_X7, by decide +kernel⟩
theorem zY_X7_within : zY yX7_within cX7_within 3 (some FieldType.boolean) 3 := ⟨w_co_yX7_within, w_in_X7, by decide +kernel⟩
theorem zY_X8_addGuard : zY yX8_addGuard cX8_addGuard 5 (some FieldType.int) 3 := ⟨w_co_yX8_addGuard, w_in_X8, by decide +kernel⟩
theorem zY_X8_append : zY yX8_append cX8_append 2 (some FieldType.int) 1 := ⟨w_co_yX8_append, w_in_X8, by decide +kernel⟩
theorem zY_X8_areOut : zY yX8_areOut cX8_areOut 3 (some FieldType.boolean) 0 := ⟨w_co_yX8_areOut, w_in_X8, by decide +kernel⟩
theorem zY_X8_behind : zY yX8_behind cX8_behind 2 (some FieldType.int) 1 := ⟨w_co_yX8_behind, w_in_X8, by decide +kernel⟩
theorem zY_X8_cam : zY yX8_cam cX8_cam 4 (some FieldType.boolean) 2 := ⟨w_co_yX8_cam, w_in_X8, by decide +kernel⟩
theorem zY_X8_camsOf : zY yX8_camsOf cX8_camsOf 4 (some FieldType.int) 1 := ⟨w_co_yX8_camsOf, w_in_X8, by decide +kernel⟩
theorem zY_X8_chart : zY yX8_chart cX8_chart 3 (some FieldType.int) 2 := ⟨w_co_yX8_chart, w_in_X8, by decide +kernel⟩
theorem zY_X8_clearText : zY yX8_clearText cX8_clearText 2 (some FieldType.int) 0 := ⟨w_co_yX8_clearText, w_in_X8, by decide +kernel⟩
theorem zY_X8_cylinder : zY yX8_cylinder cX8_cylinder 3 (some FieldType.int) 2 := ⟨w_co_yX8_cylinder, w_in_X8, by decide +kernel⟩
theorem zY_X8_cylinderOf : zY yX8_cylinderOf cX8_cylinderOf 3 (some FieldType.int) 2 := ⟨w_co_yX8_cylinderOf, w_in_X8, by decide +kernel⟩
theorem zY_X8_digest : zY yX8_digest cX8_digest 4 (some FieldType.long) 0 := ⟨w_co_yX8_digest, w_in_X8, by decide +kernel⟩
theorem zY_X8_does : zY yX8_does cX8_does 4 (some FieldType.boolean) 1 := ⟨w_co_yX8_does, w_in_X8, by decide +kernel⟩
theorem zY_X8_empties : zY yX8_empties cX8_empties 2 none 0 := ⟨w_co_yX8_empties, w_in_X8, by decide +kernel⟩
theorem zY_X8_fine : zY yX8_fine cX8_fine 2 (some FieldType.int) 1 := ⟨w_co_yX8_fine, w_in_X8, by decide +kernel⟩
theorem zY_X8_guard : zY yX8_guard cX8_guard 3 (some FieldType.int) 2 := ⟨w_co_yX8_guard, w_in_X8, by decide +kernel⟩
theorem zY_X8_guardOf : zY yX8_guardOf cX8_guardOf 3 (some FieldType.int) 2 := ⟨w_co_yX8_guardOf, w_in_X8, by decide +kernel⟩
theorem zY_X8_hasCam : zY yX8_hasCam cX8_hasCam 3 (some FieldType.boolean) 2 := ⟨w_co_yX8_hasCam, w_in_X8, by decide +kernel⟩
theorem zY_X8_hashSteps : zY yX8_hashSteps cX8_hashSteps 7 (some FieldType.long) 1 := ⟨w_co_yX8_hashSteps, w_in_X8, by decide +kernel⟩
theorem zY_X8_here : zY yX8_here cX8_here 1 (some FieldType.int) 0 := ⟨w_co_yX8_here, w_in_X8, by decide +kernel⟩
theorem zY_X8_holds : zY yX8_holds cX8_holds 2 (some FieldType.boolean) 1 := ⟨w_co_yX8_holds, w_in_X8, by decide +kernel⟩
theorem zY_X8_in : zY yX8_in cX8_in 6 (some FieldType.boolean) 3 := ⟨w_co_yX8_in, w_in_X8, by decide +kernel⟩
theorem zY_X8_init : zY yX8_init cX8_init 2 none 0 := ⟨w_co_yX8_init, w_in_X8, by decide +kernel⟩
theorem zY_X8_isCylinder : zY yX8_isCylinder cX8_isCylinder 1 (some FieldType.boolean) 1 := ⟨w_co_yX8_isCylinder, w_in_X8, by decide +kernel⟩
theorem zY_X8_isGuard : zY yX8_isGuard cX8_isGuard 2 (some FieldType.boolean) 1 := ⟨w_co_yX8_isGuard, w_in_X8, by decide +kernel⟩
theorem zY_X8_isStep : zY yX8_isStep cX8_isStep 2 (some FieldType.boolean) 1 := ⟨w_co_yX8_isStep, w_in_X8, by decide +kernel⟩
theorem zY_X8_laysAside : zY yX8_laysAside cX8_laysAside 2 none 0 := ⟨w_co_yX8_laysAside, w_in_X8, by decide +kernel⟩
theorem zY_X8_leaks : zY yX8_leaks cX8_leaks 4 none 1 := ⟨w_co_yX8_leaks, w_in_X8, by decide +kernel⟩
theorem zY_X8_leastCompressor : zY yX8_leastCompressor cX8_leastCompressor 6 (some FieldType.int) 1 := ⟨w_co_yX8_leastCompressor, w_in_X8, by decide +kernel⟩
theorem zY_X8_letsOff : zY yX8_letsOff cX8_letsOff 2 none 0 := ⟨w_co_yX8_letsOff, w_in_X8, by decide +kernel⟩
theorem zY_X8_mayMove : zY yX8_mayMove cX8_mayMove 5 (some FieldType.int) 1 := ⟨w_co_yX8_mayMove, w_in_X8, by decide +kernel⟩
theorem zY_X8_moves : zY yX8_moves cX8_moves 6 none 1 := ⟨w_co_yX8_moves, w_in_X8, by decide +kernel⟩
theorem zY_X8_out : zY yX8_out cX8_out 2 (some FieldType.int) 1 := ⟨w_co_yX8_out, w_in_X8, by decide +kernel⟩
theorem zY_X8_parse : zY yX8_parse cX8_parse 3 (some FieldType.int) 0 := ⟨w_co_yX8_parse, w_in_X8, by decide +kernel⟩
theorem zY_X8_passes : zY yX8_passes cX8_passes 4 (some FieldType.int) 1 := ⟨w_co_yX8_passes, w_in_X8, by decide +kernel⟩
theorem zY_X8_passesByte : zY yX8_passesByte cX8_passesByte 3 (some FieldType.boolean) 1 := ⟨w_co_yX8_passesByte, w_in_X8, by decide +kernel⟩
theorem zY_X8_readsSteps : zY yX8_readsSteps cX8_readsSteps 3 (some FieldType.boolean) 0 := ⟨w_co_yX8_readsSteps, w_in_X8, by decide +kernel⟩
theorem zY_X8_readsText : zY yX8_readsText cX8_readsText 2 (some FieldType.boolean) 0 := ⟨w_co_yX8_readsText, w_in_X8, by decide +kernel⟩
theorem zY_X8_readsTrack : zY yX8_readsTrack cX8_readsTrack 3 (some FieldType.boolean) 0 := ⟨w_co_yX8_readsTrack, w_in_X8, by decide +kernel⟩
theorem zY_X8_removeGuard : zY yX8_removeGuard cX8_removeGuard 3 (some FieldType.int) 1 := ⟨w_co_yX8_removeGuard, w_in_X8, by decide +kernel⟩
theorem zY_X8_repeats : zY yX8_repeats cX8_repeats 4 (some FieldType.boolean) 0 := ⟨w_co_yX8_repeats, w_in_X8, by decide +kernel⟩
theorem zY_X8_run : zY yX8_run cX8_run 4 (some FieldType.int) 1 := ⟨w_co_yX8_run, w_in_X8, by decide +kernel⟩
theorem zY_X8_save : zY yX8_save cX8_save 2 none 0 := ⟨w_co_yX8_save, w_in_X8, by decide +kernel⟩
theorem zY_X8_setAir : zY yX8_setAir cX8_setAir 3 (some FieldType.int) 2 := ⟨w_co_yX8_setAir, w_in_X8, by decide +kernel⟩
theorem zY_X8_setCam : zY yX8_setCam cX8_setCam 5 (some FieldType.int) 3 := ⟨w_co_yX8_setCam, w_in_X8, by decide +kernel⟩
theorem zY_X8_setCylinder : zY yX8_setCylinder cX8_setCylinder 5 (some FieldType.int) 4 := ⟨w_co_yX8_setCylinder, w_in_X8, by decide +kernel⟩
theorem zY_X8_setPawl : zY yX8_setPawl cX8_setPawl 4 (some FieldType.int) 2 := ⟨w_co_yX8_setPawl, w_in_X8, by decide +kernel⟩
theorem zY_X8_shortestDwell : zY yX8_shortestDwell cX8_shortestDwell 3 (some FieldType.int) 0 := ⟨w_co_yX8_shortestDwell, w_in_X8, by decide +kernel⟩
theorem zY_X8_skips : zY yX8_skips cX8_skips 2 (some FieldType.int) 1 := ⟨w_co_yX8_skips, w_in_X8, by decide +kernel⟩
theorem zY_X8_takesBack : zY yX8_takesBack cX8_takesBack 2 none 0 := ⟨w_co_yX8_takesBack, w_in_X8, by decide +kernel⟩
theorem zY_X8_throwing : zY yX8_throwing cX8_throwing 2 (some FieldType.int) 1 := ⟨w_co_yX8_throwing, w_in_X8, by decide +kernel⟩
theorem zY_X8_thrown : zY yX8_thrown cX8_thrown 1 (some FieldType.int) 0 := ⟨w_co_yX8_thrown, w_in_X8, by decide +kernel⟩
theorem zY_X8_tick : zY yX8_tick cX8_tick 2 none 0 := ⟨w_co_yX8_tick, w_in_X8, by decide +kernel⟩
theorem zY_X8_ticksToCycle : zY yX8_ticksToCycle cX8_ticksToCycle 1 (some FieldType.int) 0 := ⟨w_co_yX8_ticksToCycle, w_in_X8, by decide +kernel⟩
theorem zY_X8_ticksToOut : zY yX8_ticksToOut cX8_ticksToOut 4 (some FieldType.int) 1 := ⟨w_co_yX8_ticksToOut, w_in_X8, by decide +kernel⟩
theorem zY_X8_toCycle : zY yX8_toCycle cX8_toCycle 2 (some FieldType.int) 0 := ⟨w_co_yX8_toCycle, w_in_X8, by decide +kernel⟩
theorem zY_X8_turn : zY yX8_turn cX8_turn 3 (some FieldType.int) 1 := ⟨w_co_yX8_turn, w_in_X8, by decide +kernel⟩
theorem zY_X8_undo : zY yX8_undo cX8_undo 2 (some FieldType.int) 0 := ⟨w_co_yX8_undo, w_in_X8, by decide +kernel⟩
theorem zY_X8_useful : zY yX8_useful cX8_useful 5 (some FieldType.double) 0 := ⟨w_co_yX8_useful, w_in_X8, by decide +kernel⟩
theorem zY_X8_value : zY yX8_value cX8_value 2 (some FieldType.int) 1 := ⟨w_co_yX8_value, w_in_X8, by decide +kernel⟩
theorem bI_n0 {P : Prop} [Decidable P] (h : ¬ bI P = 0) : P := by
  unfold bI at h
  by_cases hp : P
  · exact hp
  · rw [if_neg hp] at h; exact absurd rfl h
/-- one row of a table of rows replaced -/
def zU (F : Nat → Nat → Int32) (r : Nat) (g : Nat → Int32) : Nat → Nat → Int32 := fun k => if k = r then g else F k
def zmax (x y : Int32) : Int32 := if x < y then y else x
def zmin (x y : Int32) : Int32 := if y < x then y else x
/-! the units of the world: a the addresses, S the numbers, F the rows -/
abbrev airW (a : Nat → Nat) (S : Nat → Int32) : va_W := [(a 2, .inr (0, [.int (S 5), .int (S 6), .int (S 7), .int (S 12), .int (S 13), .int (S 14), .int (S 15)]))]
abbrev cylW (cs : zCs) (a : Nat → Nat) (F : Nat → Nat → Int32) : va_W := [(a 3, .inr (2, [.ref (a 4), .ref (a 5), .ref (a 6), .ref (a 7), .ref (a 8), .ref (a 9)])), (a 4, .inl (cs.1, 5, .inl (F 1))), (a 5, .inl (cs.1, 5, .inl (F 2))), (a 6, .inl (cs.1, 5, .inl (F 3))), (a 7, .inl (cs.1, 5, .inl (F 4))), (a 8, .inl (cs.1, 5, .inl (F 5))), (a 9, .inl (cs.1, 5, .inl (F 6)))]
abbrev grdW (cs : zCs) (a : Nat → Nat) (S : Nat → Int32) (F : Nat → Nat → Int32) : va_W := [(a 10, .inr (3, [.ref (a 11), .ref (a 12), .ref (a 13), .int (S 8)])), (a 11, .inl (cs.1, 4, .inl (F 7))), (a 12, .inl (cs.1, 4, .inl (F 8))), (a 13, .inl (cs.1, 4, .inl (F 9)))]
abbrev chtW (cs : zCs) (a : Nat → Nat) (F : Nat → Nat → Int32) : va_W := [(a 14, .inr (1, [.ref (a 15), .ref (a 16)])), (a 15, .inl (cs.1, 80, .inl (F 10))), (a 16, .inl (cs.1, 16, .inl (F 11)))]
abbrev macW (cs : zCs) (a : Nat → Nat) (S : Nat → Int32) (F : Nat → Nat → Int32) : va_W := [(a 0, .inr (5, [.int (S 0), .int (S 1), .int (S 2), .int (S 3), .int (S 4), .int (S 9), .int (S 10), .int (S 11), .ref (a 1), .ref (a 2), .ref (a 3), .ref (a 10), .ref (a 14)])), (a 1, .inl (cs.1, 5, .inl (F 0))),
  (a 2, .inr (0, [.int (S 5), .int (S 6), .int (S 7), .int (S 12), .int (S 13), .int (S 14), .int (S 15)])), (a 3, .inr (2, [.ref (a 4), .ref (a 5), .ref (a 6), .ref (a 7), .ref (a 8), .ref (a 9)])), (a 4, .inl (cs.1, 5, .inl (F 1))), (a 5, .inl (cs.1, 5, .inl (F 2))), (a 6, .inl (cs.1, 5, .inl (F 3))), (a 7, .inl (cs.1, 5, .inl (F 4))), (a 8, .inl (cs.1, 5, .inl (F 5))), (a 9, .inl (cs.1, 5, .inl (F 6))),
  (a 10, .inr (3, [.ref (a 11), .ref (a 12), .ref (a 13), .int (S 8)])), (a 11, .inl (cs.1, 4, .inl (F 7))), (a 12, .inl (cs.1, 4, .inl (F 8))), (a 13, .inl (cs.1, 4, .inl (F 9))), (a 14, .inr (1, [.ref (a 15), .ref (a 16)])), (a 15, .inl (cs.1, 80, .inl (F 10))), (a 16, .inl (cs.1, 16, .inl (F 11)))]
abbrev txtW (cs : zCs) (a : Nat → Nat) (S : Nat → Int32) (F : Nat → Nat → Int32) : va_W := [(a 0, .inr (6, [.ref (a 1), .int (S 0), .ref (a 2), .int (S 1), .int (S 2), .int (S 3)])), (a 1, .inl (cs.1, 100, .inl (F 0))), (a 2, .inl (cs.1, 5, .inl (F 1)))]
abbrev refW (cs : zCs) (a : Nat → Nat) (S : Nat → Int32) (F : Nat → Nat → Int32) : va_W := [(a 0, .inr (8, [.ref (a 1), .ref (a 2), .ref (a 3), .int (S 0), .int (S 1), .int (S 2), .int (S 3), .ref (a 4), .ref (a 5), .int (S 4), .int (S 5), .ref (a 6), .int (S 6)])), (a 1, .inl (cs.1, 159, .inl (F 0))), (a 2, .inl (cs.1, 636, .inl (F 1))), (a 3, .inl (cs.1, 159, .inl (F 2))), (a 4, .inl (cs.1, 8, .inl (F 3))), (a 5, .inl (cs.1, 100, .inl (F 4))), (a 6, .inl (cs.1, 5, .inl (F 5)))]
section ZA
variable {p : Program} {l : Launch} {e : Env} {R : Room} {s : State} {m : MethodId} {args : Array Value} {below : List Frame} {meth : Method} {c : Code} {H : Heap} {locs : List Loc} {cells slots : Nat} {Q : State → Prop}
variable {pc : Nat} {ls : Array Slot} {A : Nat → Prop} {D : va_G} {cs : zCs} {ws : va_W} {cc : ByteArray} {rest : List Value} {a n : Nat} {f : Nat → Int32} {H0 : Heap}
theorem z_iald {k : Nat} (hx : p.tables.exec = Jvm.exec) (hb : c.code = cc) (hK : va_K D vwCl (zT cs) s) (hP : va_P D vwCl ws H) (q0 : Nat) (ha : ws[q0]? = some (a, .inl (cs.1, n, .inl f))) (hk : k < n) (hn : n < 2 ^ 31) (hdg : decode cc pc = .ok (.iaload, 1))
    (kk : W p l e R s m args below meth c H locs cells slots Q (F0 m (pc + 1) ls (.int (f k) :: rest))) : W p l e R s m args below meth c H locs cells slots Q (F0 m pc ls (.int (nI k) :: .ref a :: rest)) := by
  refine va_iald hx hb hK hP q0 0 ha rfl (vp_in_nI hk hn) hdg ?_
  rw [nI_clamp (by omega)]
  exact kk
theorem z_iast {k : Nat} {x : Int32} (hx : p.tables.exec = Jvm.exec) (hb : c.code = cc) (hK : va_K D vwCl (zT cs) s) (hP : va_P D vwCl ws H) (hD : va_D A ws) (hS : va_S A H0 H locs) (q0 : Nat) (ha : ws[q0]? = some (a, .inl (cs.1, n, .inl f))) (hk : k < n) (hn : n < 2 ^ 31) (hdg : decode cc pc = .ok (.iastore, 1))
    (kk : ∀ (H1 : Heap) (locs1 : List Loc), va_P D vwCl (ws.set q0 (a, .inl (cs.1, n, .inl (upd f k x)))) H1 → va_D A (ws.set q0 (a, .inl (cs.1, n, .inl (upd f k x)))) → va_S A H0 H1 locs1 → W p l e R s m args below meth c H1 locs1 cells slots Q (F0 m (pc + 1) ls rest)) : W p l e R s m args below meth c H locs cells slots Q (F0 m pc ls (.int x :: .int (nI k) :: .ref a :: rest)) := by
  refine va_iast hx hb hK hP hD hS q0 0 ha rfl (vp_in_nI hk hn) hdg (fun H1 locs1 h1 h2 h3 => ?_)
  rw [nI_clamp (by omega)] at h1 h2
  exact kk H1 locs1 h1 h2 h3
end ZA
end
section
/-! MY LAYER, exceptions: a contract zMx returns where ex = none, and throws E where ex = some E, with its world as it was. -/
def zXB (D : va_G) (cs : zCs) (ex : Option String) (w : va_W) (A : Nat → Prop) : String → State → State → Prop := fun E st t =>
  (ex = some E ∧ va_P D vwCl w t.heap ∧ va_K D vwCl (zT cs) t ∧ va_D A w) ∧ va_F A st t
def zQx (D : va_G) (cs : zCs) (ex : Option String) (rv : Option Value) (wo : va_W) (A : Nat → Prop) : Array Value → State → Outcome → State → Prop := fun a st o t =>
  ex = none ∧ zQ D cs rv wo A a st o t
def zMx (l : Launch) (D : va_G) (cs : zCs) (y : MethodName) (cb : ByteArray) (ml : Nat) (ret : Option FieldType) (fr lo mc ms : Nat) (av : List Value) (w : va_W) (ex : Option String) (rv : Option Value) (wo : va_W) : Prop :=
  ∀ sz : Nat, vx_Met l y (Cond.code y cb ml ret :: wsG) ({ frames := fr, cells := mc, slots := ms, locals := lo } : Room) (va_Pc av (zPre D cs w sz)) (zQx D cs ex rv wo (va_A w sz)) (zXB D cs ex w (va_A w sz)) mc ms (va_A w sz)
theorem zMx.of {l : Launch} {D : va_G} {cs : zCs} {y : MethodName} {cb : ByteArray} {ml : Nat} {ret : Option FieldType} {fr lo mc ms : Nat} {av : List Value} {w : va_W} {ex : Option String} {rv : Option Value} {wo : va_W} {own : String}
    (hy : plainName y.cls = true) (hl : (lg_sl av).length ≤ ml) (ho : y.cls = own)
    (body : ∀ (p : Program) (e : Env) (s : State) (m : MethodId) (below : List Frame) (meth : Method) (c : Code) (A : Nat → Prop) (ls : Array Slot), p.tables.exec = Jvm.exec → c.code = cb → meth.sig.returnType = ret → c.maxLocals = ml → s.vm.findClass own = some m.cls → (∀ w ∈ wsG, w.before av.toArray s = true) → meth.locks = false → (∀ x ∈ c.exceptionTable.toList, False) → zE A s → va_K D vwCl (zT cs) s → (∀ q : Nat, s.heap.size ≤ q → A q) → va_P D vwCl w s.heap → va_D A w → va_S A s.heap s.heap [] → lv_has ls ml (lv_args 0 av) →
      W p l e ({ frames := fr, cells := mc, slots := ms, locals := lo } : Room) s m av.toArray below meth c s.heap [] 0 0 (vx_MQ below (zQx D cs ex rv wo A) (zXB D cs ex w A) av.toArray s mc ms A) (F0 m 0 ls [])) : zMx l D cs y cb ml ret fr lo mc ms av w ex rv wo := by
  subst ho
  intro sz
  refine vx_ofW (cc := cb) (maxL := ml) (ret := ret) hy rfl ?_
  intro p e s m args below meth c s₁ B hml htab hv
  obtain ⟨rfl, hsz, hP, hK, hD0, hE⟩ := hv
  have hts := atoms_spec (ws := Cond.code y cb ml ret :: wsG) B.pre
  subst hsz
  have hD := hD0.self (sz := s.heap.size)
  have hlv := lv_entry av (n := ml) hl
  rw [lg_entry_eq]
  exact body p e s m below meth c _ _ B.exec B.bytes B.returns hml (findClass_of_methodNamed B.named) (fun w hw => hts w (List.mem_cons_of_mem _ hw)) B.notSynchronized htab hE hK (fun q h => Or.inr h) hP hD va_S.rf hlv
section ZX
variable {p : Program} {l : Launch} {e : Env} {R : Room} {s : State} {m : MethodId} {args : Array Value} {below : List Frame} {meth : Method} {c : Code} {H : Heap} {locs : List Loc} {cells slots : Nat} {Q : State → Prop}
variable {pc : Nat} {ls : Array Slot} {rest st0 : List Value} {A : Nat → Prop} {mc ms kc ks : Nat} {D : va_G} {cs : zCs} {ws wc wo wn w0 wf : va_W} {rv rf : Option Value} {a : Array Value} {ex xf : Option String}
variable {cc cb : ByteArray} {nL n index ml fr lo : Nat} {own : String} {y : MethodName} {ret : Option FieldType}
theorem z_goX (hr : vx_Run p l e R s m args below meth c H locs cells slots mc ms (F0 m pc ls st0) rest (zQx D cs ex rv wo (va_A wc H.size) a) (zXB D cs ex wc (va_A wc H.size)) (va_A wc H.size)) (hP : va_P D vwCl ws H) (hD : va_D A ws) (hS : va_S A s.heap H locs) (hA : ∀ q : Nat, s.heap.size ≤ q → A q)
    (isC : List Nat) (hC : isC.map (fun i => ws[i]?) = wc.map some) (hn : va_nd isC = true) (hlen : wo.map (fun q => q.1) = wc.map (fun q => q.1)) (hN : z_ins 0 ws isC wo = wn)
    (kx : ∀ (E : String) (ce : Cell) (q9 : Addr) (H1 : Heap) (locs1 : List Loc), ex = some E → va_P D vwCl ws H1 → va_D A ws → va_S A s.heap H1 locs1 → H1[q9]? = some ce → ce.vm = .none → s.vm.findClass E = some ce.cls → vx_W p l e R s m args below meth c H1 locs1 (cells + mc) (slots + ms) Q (F0 m pc ls rest) q9)
    (kk : ex = none → ∀ (H1 : Heap) (locs1 : List Loc), va_P D vwCl wn H1 → va_D A wn → va_S A s.heap H1 locs1 → W p l e R s m args below meth c H1 locs1 (cells + mc) (slots + ms) Q (F0 m (pc + 3) ls (rv.toList ++ rest))) : W p l e R s m args below meth c H locs cells slots Q (F0 m pc ls st0) := by
  have hF := va_free (wc := wc) hD hS hA isC hC
  intro T hT X
  rcases hr T hT X with ⟨v, st₀, t, T', L, h0, X', hL, e1, e2, ⟨hex, ⟨hv, hP1, hK1, hD1⟩, hFr⟩, st⟩ | ⟨q, st₀, t, T', L, E, ce, h0, X', hL, e1, e2, ⟨⟨hex, hP1, hK1, hD1⟩, hFr⟩, hce, hcv, hcl, st⟩
  · cases hv
    obtain ⟨k1, k2, k3⟩ := vx_keep (A0 := A) h0 e1 hS (fun q _ => hF q) hF hL hFr
    obtain ⟨hP2, hD2⟩ := z_join (H1 := T'.heap) hP hD isC hC hn hlen k2 (by rw [e1]; exact hP1)
    rw [hN] at hP2 hD2
    obtain ⟨t2, a1, b1⟩ := kk hex T'.heap (locs ++ L) hP2 hD2 k3 T' rfl X'
    exact ⟨t2, st t2 a1, b1⟩
  · obtain ⟨k1, k2, k3⟩ := vx_keep (A0 := A) h0 e1 hS (fun q _ => hF q) hF hL hFr
    have hP2 : va_P D vwCl ws T'.heap := by
      intro k q9 hk9
      by_cases hm : k ∈ isC
      · obtain ⟨j, hj⟩ := List.getElem?_of_mem hm
        have h1 : (isC.map (fun i => ws[i]?))[j]? = some (some q9) := by rw [List.getElem?_map, hj]; show some (ws[k]?) = _; rw [hk9]
        rw [hC, List.getElem?_map] at h1
        cases hw : wc[j]? with
        | none => rw [hw] at h1; cases h1
        | some z =>
          rw [hw] at h1
          cases h1
          rw [e1]
          exact hP1 j _ hw
      · refine (hP k q9 hk9).kept (k2 q9.1 (hP k q9 hk9).lt (fun hA9 => ?_))
        rcases hA9 with ⟨k3, e3, h3⟩ | h3
        · have h4 : (isC.map (fun i => ws[i]?))[k3]? = some (some (q9.1, e3)) := by rw [hC, List.getElem?_map, h3]; rfl
          rw [List.getElem?_map] at h4
          cases hi : isC[k3]? with
          | none => rw [hi] at h4; cases h4
          | some i =>
            rw [hi] at h4
            have h5 : ws[i]? = some (q9.1, e3) := Option.some.inj h4
            have := hD.1 k i q9 (q9.1, e3) hk9 h5 rfl
            subst this
            exact hm (List.mem_of_getElem? hi)
        · have := (hP k q9 hk9).lt
          omega
    obtain ⟨t2, a1, b1⟩ := kx E ce q T'.heap (locs ++ L) hex hP2 hD k3 (by rw [e1]; exact hce) hcv hcl T' rfl X'
    exact ⟨t2, st.trans a1, b1⟩
/-- not caught here: the caller throws it on, its world as it was -/
theorem z_outX {E : String} {ce : Cell} {q9 : Addr} (htab : ∀ x ∈ c.exceptionTable.toList, False) (hlk : meth.locks = false) (hK : va_K D vwCl (zT cs) s) (hP : va_P D vwCl ws H) (hD : va_D A ws) (hS : va_S A s.heap H locs) (hce : H[q9]? = some ce) (hcv : ce.vm = .none) (hcl : s.vm.findClass E = some ce.cls) (hex : xf = some E) (hw : ws = w0) (hc : cells ≤ kc) (hs : slots ≤ ks) :
    vx_W p l e R s m args below meth c H locs cells slots (vx_MQ below (zQx D cs xf rf wf A) (zXB D cs xf w0 A) args s kc ks A) (F0 m pc ls rest) q9 := by
  subst hw
  exact vx_out (fun x hx => (htab x hx).elim) hlk hce hcv hcl (fun t ht hal => ⟨⟨hex, by rw [ht]; exact hP, va_K.moved hal hK, hD⟩, hS.F ht⟩) hS.2.2 hc hs
theorem z_callVx (F : CallFix p m c cc nL s args wsG own) (hy : zY y cb ml ret n) (hi : Cond.instanceMethod y ∈ wsG) (hse : Cond.selects y.cls y y ∈ wsG) (hl : Cond.methodLink own index y ∈ wsG) {b : Nat} (As rest : List Value) (hM : zMx l D cs y cb ml ret fr lo mc ms (.ref b :: As) wc ex rv wo)
    (hE : zE A s) (hK : va_K D vwCl (zT cs) s) (hA : ∀ q : Nat, s.heap.size ≤ q → A q) (hP : va_P D vwCl ws H) (hD : va_D A ws) (hS : va_S A s.heap H locs)
    (isC : List Nat) (hC : isC.map (fun i => ws[i]?) = wc.map some) (hnd : va_nd isC = true) (hlen : wo.map (fun q => q.1) = wc.map (fun q => q.1)) (hN : z_ins 0 ws isC wo = wn)
    (ci : Nat) {r : vw_C} {fs : List Value} (hcl : vwCl[ci]? = some r) (hr0 : wc[0]? = some (b, .inr (ci, fs))) (hrC : r.1 = y.cls)
    (hn : As.length = n) (hsz : ls.size = nL) (hW : (rest.map fun v => v.category).sum ≤ 8) (hR : fr + 1 ≤ R.frames ∧ 8 + (ml + 11) + lo ≤ R.locals) (hf : cells + mc ≤ R.cells ∧ slots + ms ≤ R.slots) (hdg : decode cc pc = .ok (.invokevirtual index, 3))
    (kx : ∀ (E : String) (ce : Cell) (q9 : Addr) (H1 : Heap) (locs1 : List Loc), ex = some E → va_P D vwCl ws H1 → va_D A ws → va_S A s.heap H1 locs1 → H1[q9]? = some ce → ce.vm = .none → s.vm.findClass E = some ce.cls → vx_W p l e R s m args below meth c H1 locs1 (cells + mc) (slots + ms) Q (F0 m pc ls rest) q9)
    (kk : ex = none → ∀ (H1 : Heap) (locs1 : List Loc), va_P D vwCl wn H1 → va_D A wn → va_S A s.heap H1 locs1 → W p l e R s m args below meth c H1 locs1 (cells + mc) (slots + ms) Q (F0 m (pc + 3) ls (rv.toList ++ rest))) : W p l e R s m args below meth c H locs cells slots Q (F0 m pc ls (As.reverse ++ .ref b :: rest)) := by
  have hp := z_pre (av := .ref b :: As) hE hK hP hD hS hA isC hC hnd
  have hPc : va_P D vwCl wc H := by
    intro k q hq
    have h1 : (isC.map (fun i => ws[i]?))[k]? = some (some q) := by rw [hC, List.getElem?_map, hq]; rfl
    rw [List.getElem?_map] at h1
    cases hi : isC[k]? with
    | none => rw [hi] at h1; cases h1
    | some i =>
      rw [hi] at h1
      exact hP i q (Option.some.inj h1)
  have hcw : CallW R s args own y.cls index y cb ml ret (Cond.code y cb ml ret :: wsG) ({ frames := fr, cells := mc, slots := ms, locals := lo } : Room) mc ms n :=
    ⟨callB_of n F.2.2.2.2 (z_good hy.1) rfl rfl rfl (F.2.2.2.2 _ hy.2.1) (F.2.2.2.2 _ hl) hy.2.2 hR, F.2.2.2.2 _ hi, F.2.2.2.2 _ hse⟩
  refine z_goX (vx_runV (As := As) (rest := rest) F (hM H.size) hcw ⟨hp.1, ?_, hp.2⟩ rfl hn hsz rfl (by show 2 * 0 + _ ≤ 8; omega) hdg hf) hP hD hS hA isC hC hnd hlen hN kx kk
  have := va_recv hK hPc (ci := ci) (q0 := 0) hcl hr0
  rw [hrC] at this
  exact this
theorem z_callSx (F : CallFix p m c cc nL s args wsG own) (hy : zY y cb ml ret n) (hst : Cond.static y ∈ wsG) (hl : Cond.methodLink own index y ∈ wsG) (As rest : List Value) (hM : zMx l D cs y cb ml ret fr lo mc ms As wc ex rv wo)
    (hE : zE A s) (hK : va_K D vwCl (zT cs) s) (hA : ∀ q : Nat, s.heap.size ≤ q → A q) (hP : va_P D vwCl ws H) (hD : va_D A ws) (hS : va_S A s.heap H locs)
    (isC : List Nat) (hC : isC.map (fun i => ws[i]?) = wc.map some) (hnd : va_nd isC = true) (hlen : wo.map (fun q => q.1) = wc.map (fun q => q.1)) (hN : z_ins 0 ws isC wo = wn)
    (hn : As.length = n) (hsz : ls.size = nL) (hW : (rest.map fun v => v.category).sum ≤ 8) (hR : fr + 1 ≤ R.frames ∧ 8 + (ml + 11) + lo ≤ R.locals) (hf : cells + mc ≤ R.cells ∧ slots + ms ≤ R.slots) (hdg : decode cc pc = .ok (.invokestatic index, 3))
    (kx : ∀ (E : String) (ce : Cell) (q9 : Addr) (H1 : Heap) (locs1 : List Loc), ex = some E → va_P D vwCl ws H1 → va_D A ws → va_S A s.heap H1 locs1 → H1[q9]? = some ce → ce.vm = .none → s.vm.findClass E = some ce.cls → vx_W p l e R s m args below meth c H1 locs1 (cells + mc) (slots + ms) Q (F0 m pc ls rest) q9)
    (kk : ex = none → ∀ (H1 : Heap) (locs1 : List Loc), va_P D vwCl wn H1 → va_D A wn → va_S A s.heap H1 locs1 → W p l e R s m args below meth c H1 locs1 (cells + mc) (slots + ms) Q (F0 m (pc + 3) ls (rv.toList ++ rest))) : W p l e R s m args below meth c H locs cells slots Q (F0 m pc ls (As.reverse ++ rest)) := by
  have hp := z_pre (av := As) hE hK hP hD hS hA isC hC hnd
  exact z_goX (vx_runS (As := As) (rest := rest) F (hM H.size) ⟨callB_of n F.2.2.2.2 (z_good hy.1) rfl rfl rfl (F.2.2.2.2 _ hy.2.1) (F.2.2.2.2 _ hl) hy.2.2 hR, F.2.2.2.2 _ hst⟩ hp rfl hn hsz rfl (by show 2 * 0 + _ ≤ 8; omega) hdg hf) hP hD hS hA isC hC hnd hlen hN kx kk
/-- the ends of a method that may throw -/
theorem z_iretX (hx : p.tables.exec = Jvm.exec) (hb : c.code = cc) (hr : meth.sig.returnType = some .int) (hlk : meth.locks = false) (hK : va_K D vwCl (zT cs) s) (hP : va_P D vwCl ws H) (hD : va_D A ws) (hS : va_S A s.heap H locs) (hdg : decode cc pc = .ok (.ireturn, 1)) (hex : ex = none) (hc : cells ≤ mc) (hs : slots ≤ ms) {v : Int32} (hv : some (.int v) = rv) (hw : ws = wo) :
    W p l e R s m args below meth c H locs cells slots (vx_MQ below (zQx D cs ex rv wo A) (zXB D cs ex w0 A) args s mc ms A) (F0 m pc ls [.int v]) :=
  vx_ret (W.widen hc hs (W.iret hx hb hr (fun _ ht hW => ⟨hex, z_end hK hP hD hS hv hw ht hW⟩) hS.2.2 hdg hlk))
theorem z_zretX (hx : p.tables.exec = Jvm.exec) (hb : c.code = cc) (hr : meth.sig.returnType = some .boolean) (hlk : meth.locks = false) (hK : va_K D vwCl (zT cs) s) (hP : va_P D vwCl ws H) (hD : va_D A ws) (hS : va_S A s.heap H locs) (hdg : decode cc pc = .ok (.ireturn, 1)) {v : Int32} (hn : narrow .boolean (.int v) = .int v) (hex : ex = none) (hc : cells ≤ mc) (hs : slots ≤ ms) (hv : some (.int v) = rv) (hw : ws = wo) :
    W p l e R s m args below meth c H locs cells slots (vx_MQ below (zQx D cs ex rv wo A) (zXB D cs ex w0 A) args s mc ms A) (F0 m pc ls [.int v]) :=
  vx_ret (W.widen hc hs (W.zret hx hb hr hn (fun _ ht hW => ⟨hex, z_end hK hP hD hS hv hw ht hW⟩) hS.2.2 hdg hlk))
theorem z_vretX (hx : p.tables.exec = Jvm.exec) (hb : c.code = cc) (hr : meth.sig.returnType = none) (hlk : meth.locks = false) (hK : va_K D vwCl (zT cs) s) (hP : va_P D vwCl ws H) (hD : va_D A ws) (hS : va_S A s.heap H locs) (hdg : decode cc pc = .ok (.return_, 1)) (hex : ex = none) (hc : cells ≤ mc) (hs : slots ≤ ms) (hv : none = rv) (hw : ws = wo) :
    W p l e R s m args below meth c H locs cells slots (vx_MQ below (zQx D cs ex rv wo A) (zXB D cs ex w0 A) args s mc ms A) (F0 m pc ls []) :=
  vx_ret (W.widen hc hs (W.vret hx hb hr (fun _ ht hW => ⟨hex, z_end hK hP hD hS hv hw ht hW⟩) hS.2.2 hdg hlk))
end ZX
/-! throws -/
def zNm : List String := ["java/lang/RuntimeException", "java/lang/Exception"]
def zBad (cls : String) : List Cond := [.castable cls cls, .declares (Bundle.initS "java/lang/RuntimeException"), .declares (Bundle.initS "java/lang/Exception"), .declares (Bundle.initS "java/lang/Throwable")]
def zThr (ik ic : Nat) (cls : String) : Prop :=
  Bundle.fit cls = true ∧ Cond.classLink RX7 ik cls ∈ wsG ∧ Cond.initialized cls ∈ wsG ∧ (∀ w ∈ (vx_atS RX7 ic cls zNm).filter goodWord, w ∈ lw_tbl) ∧ (∀ w ∈ (vx_atS RX7 ic cls zNm).filter (fun w => !goodWord w), w ∈ zBad cls) ∧ (∀ w ∈ Cond.classLink RX7 ik cls :: Cond.initialized cls :: vx_atS RX7 ic cls zNm, vx_ot w = true) ∧ (cls, cls) ∈ zCastL
set_option maxRecDepth 20000 in
theorem zThr_IO : zThr 261 265 zIO := ⟨by decide +kernel, w_cl_X7_261, w_in_IndexOutOfBoundsException, by decide +kernel, by decide +kernel, by decide +kernel, List.mem_of_getElem? (i := 0) rfl⟩
set_option maxRecDepth 20000 in
theorem zThr_IA : zThr 59 63 zIA := ⟨by decide +kernel, w_cl_X7_59, w_in_IllegalArgumentException, by decide +kernel, by decide +kernel, by decide +kernel, List.mem_of_getElem? (i := 1) rfl⟩
set_option maxRecDepth 20000 in
theorem zThr_IS : zThr 125 129 zIS := ⟨by decide +kernel, w_cl_X7_125, w_in_IllegalStateException, by decide +kernel, by decide +kernel, by decide +kernel, List.mem_of_getElem? (i := 2) rfl⟩
theorem zNm_fit : ∀ n ∈ zNm, Bundle.fit n = true := by decide +kernel
theorem z_at {ik ic : Nat} {cls : String} {A : Nat → Prop} {s : State} {args : Array Value} (h : zThr ik ic cls) (hts : ∀ w ∈ wsG, w.before args s = true) (hE : zE A s) : ∀ w ∈ vx_atS RX7 ic cls zNm, w.before args s = true := by
  obtain ⟨-, -, -, h1, h2, -, hc⟩ := h
  refine vx_hat (B := zBad cls) (fun w hw => hts w (wsG_mk (h1 w hw) (List.mem_filter.mp hw).2)) h2 ?_
  refine vx_c (va_Nw.use rfl (hE.2.1 _ hc)) (vx_c (va_Nw.use rfl (hE.2.2.1 _ (List.mem_of_getElem? (i := 0) rfl))) (vx_c (va_Nw.use rfl (hE.2.2.1 _ (List.mem_of_getElem? (i := 1) rfl))) (vx_c (va_Nw.use rfl (hE.2.2.1 _ (List.mem_of_getElem? (i := 2) rfl))) vx_n)))
section ZT
variable {p : Program} {l : Launch} {e : Env} {R : Room} {s : State} {m : MethodId} {args : Array Value} {below : List Frame} {meth : Method} {c : Code} {H : Heap} {locs : List Loc} {cells slots : Nat}
variable {pc : Nat} {ls : Array Slot} {rest : List Value} {A : Nat → Prop} {mc ms : Nat} {D : va_G} {cs : zCs} {ws w0 wo : va_W} {rv : Option Value} {ex : Option String} {cc : ByteArray} {nL : Nat}
theorem z_xb {cls : String} (hK : va_K D vwCl (zT cs) s) (hP : va_P D vwCl ws H) (hD : va_D A ws) (hS : va_S A s.heap H locs) (hex : ex = some cls) (hw : ws = w0) : ∀ t : State, s.vm.Alike t.vm → H.size ≤ t.heap.size → (∀ q : Nat, q < H.size → t.heap[q]? = H[q]?) → zXB D cs ex w0 A cls s t := by
  subst hw
  intro t hal hz hk
  exact ⟨⟨hex, hP.kept (fun k q hq => hk q.1 (hP k q hq).lt), va_K.moved hal hK, hD⟩, Nat.le_trans hS.1 hz, fun q h1 h2 => (hk q (Nat.lt_of_lt_of_le h1 hS.1)).trans (hS.2.1 q h1 h2)⟩
theorem z_throw {ik ic is : Nat} {cls text : String} (hx : p.tables.exec = Jvm.exec) (hb : c.code = cc) (hfl : l.stackTraces = false) (hml : c.maxLocals = nL) (hown : s.vm.findClass RX7 = some m.cls) (hts : ∀ w ∈ wsG, w.before args s = true) (hlk : meth.locks = false) (htab : ∀ x ∈ c.exceptionTable.toList, False) (hE : zE A s) (hK : va_K D vwCl (zT cs) s) (hP : va_P D vwCl ws H) (hD : va_D A ws) (hS : va_S A s.heap H locs) (hsz : ls.size = nL)
    (hth : zThr ik ic cls) (hstr : (is, text) ∈ zStrL)
    (d0 : decode cc pc = .ok (.new ik, 3)) (d3 : decode cc (pc + 3) = .ok (.dup, 1)) (d4 : decode cc (pc + 4) = .ok (.ldc is, 2)) (d6 : decode cc (pc + 6) = .ok (.invokespecial ic, 3)) (d9 : decode cc (pc + 9) = .ok (.athrow, 1))
    (hR : 5 < R.frames ∧ (rest.map fun v => v.category).sum + 82 ≤ R.locals ∧ cells + 1 ≤ R.cells ∧ slots + 6 ≤ R.slots) (hc : cells + 1 ≤ mc) (hs : slots + 6 ≤ ms) (hex : ex = some cls) (hw : ws = w0) :
    W p l e R s m args below meth c H locs cells slots (vx_MQ below (zQx D cs ex rv wo A) (zXB D cs ex w0 A) args s mc ms A) (F0 m pc ls rest) := by
  obtain ⟨sa, hsa⟩ := hE.2.2.2.2.2.1 _ hstr
  exact vx_throwS hx hb hfl (names := zNm) hown hth.1 zNm_fit (hts _ hth.2.1) (hts _ hth.2.2.1) hsa (z_at hth hts hE) hth.2.2.2.2.2.1 hE.2.2.2.2.2.2.1 hE.2.2.2.2.2.2.2 hS (hsz.trans hml.symm) d0 d3 d4 d6 d9 (fun x hx => (htab x hx).elim) hR.1 hR.2.1 hR.2.2.1 hR.2.2.2 hlk (z_xb hK hP hD hS hex hw) hS.2.2 hc hs
theorem z_throwW {ik ic is : Nat} {cls text : String} (hx : p.tables.exec = Jvm.exec) (hb : c.code = cc) (hfl : l.stackTraces = false) (hml : c.maxLocals = nL) (hown : s.vm.findClass RX7 = some m.cls) (hts : ∀ w ∈ wsG, w.before args s = true) (hlk : meth.locks = false) (htab : ∀ x ∈ c.exceptionTable.toList, False) (hE : zE A s) (hK : va_K D vwCl (zT cs) s) (hP : va_P D vwCl ws H) (hD : va_D A ws) (hS : va_S A s.heap H locs) (hsz : ls.size = nL)
    (hth : zThr ik ic cls) (hstr : (is, text) ∈ zStrL)
    (d0 : decode cc pc = .ok (.new ik, 3)) (d3 : decode cc (pc + 3) = .ok (.dup, 1)) (d4 : decode cc (pc + 4) = .ok (.ldc_w is, 3)) (d7 : decode cc (pc + 7) = .ok (.invokespecial ic, 3)) (d10 : decode cc (pc + 10) = .ok (.athrow, 1))
    (hR : 5 < R.frames ∧ (rest.map fun v => v.category).sum + 82 ≤ R.locals ∧ cells + 1 ≤ R.cells ∧ slots + 6 ≤ R.slots) (hc : cells + 1 ≤ mc) (hs : slots + 6 ≤ ms) (hex : ex = some cls) (hw : ws = w0) :
    W p l e R s m args below meth c H locs cells slots (vx_MQ below (zQx D cs ex rv wo A) (zXB D cs ex w0 A) args s mc ms A) (F0 m pc ls rest) := by
  obtain ⟨sa, hsa⟩ := hE.2.2.2.2.2.1 _ hstr
  exact vx_throwSW hx hb hfl (names := zNm) hown hth.1 zNm_fit (hts _ hth.2.1) (hts _ hth.2.2.1) hsa (z_at hth hts hE) hth.2.2.2.2.2.1 hE.2.2.2.2.2.2.1 hE.2.2.2.2.2.2.2 hS (hsz.trans hml.symm) d0 d3 d4 d7 d10 (fun x hx => (htab x hx).elim) hR.1 hR.2.1 hR.2.2.1 hR.2.2.2 hlk (z_xb hK hP hD hS hex hw) hS.2.2 hc hs
end ZT
end
