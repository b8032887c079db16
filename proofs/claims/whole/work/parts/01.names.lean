/-- a private method of a class that the tables say can be made, by its rows of tables_1 -/
def lw_okq (q : MethodName × Nat) : Prop := (q.1.cls ≠ "java/lang/invoke/MethodHandle" ∧ q.1.cls ≠ "java/lang/invoke/VarHandle") ∧ Cond.instantiable q.1.cls q.2 ∈ tables_1 ∧ Cond.privateMethod q.1 ∈ tables_1 ∧ Cond.instanceMethod q.1 ∈ tables_1
theorem lw_p0 : lw_okq (⟨"SunVillage$Reader", "scan", "(LSunVillage$Tape;)V"⟩, 8) := ⟨⟨by decide +kernel, by decide +kernel⟩, List.mem_of_getElem? (i := 106) (by decide +kernel), List.mem_of_getElem? (i := 470) (by decide +kernel), List.mem_of_getElem? (i := 471) (by decide +kernel)⟩
theorem lw_p1 : lw_okq (⟨"SunVillage$Reader", "scanToken", "(LSunVillage$Tape;II)V"⟩, 8) := ⟨⟨by decide +kernel, by decide +kernel⟩, List.mem_of_getElem? (i := 106) (by decide +kernel), List.mem_of_getElem? (i := 486) (by decide +kernel), List.mem_of_getElem? (i := 487) (by decide +kernel)⟩
theorem lw_p2 : lw_okq (⟨"SunVillage$Token", "isSpelled", "(LSunVillage$Tape;II)Z"⟩, 5) := ⟨⟨by decide +kernel, by decide +kernel⟩, List.mem_of_getElem? (i := 498) (by decide +kernel), List.mem_of_getElem? (i := 496) (by decide +kernel), List.mem_of_getElem? (i := 497) (by decide +kernel)⟩
theorem lw_p3 : lw_okq (⟨"SunVillage$Reader", "takeRule", "()Z"⟩, 8) := ⟨⟨by decide +kernel, by decide +kernel⟩, List.mem_of_getElem? (i := 106) (by decide +kernel), List.mem_of_getElem? (i := 562) (by decide +kernel), List.mem_of_getElem? (i := 563) (by decide +kernel)⟩
theorem lw_p4 : lw_okq (⟨"SunVillage$Reader", "refuse", "(I)Z"⟩, 8) := ⟨⟨by decide +kernel, by decide +kernel⟩, List.mem_of_getElem? (i := 106) (by decide +kernel), List.mem_of_getElem? (i := 578) (by decide +kernel), List.mem_of_getElem? (i := 579) (by decide +kernel)⟩
theorem lw_p5 : lw_okq (⟨"SunVillage$Reader", "step", "()V"⟩, 8) := ⟨⟨by decide +kernel, by decide +kernel⟩, List.mem_of_getElem? (i := 106) (by decide +kernel), List.mem_of_getElem? (i := 583) (by decide +kernel), List.mem_of_getElem? (i := 584) (by decide +kernel)⟩
theorem lw_p6 : lw_okq (⟨"SunVillage$Reader", "takeExpression", "(I)Z"⟩, 8) := ⟨⟨by decide +kernel, by decide +kernel⟩, List.mem_of_getElem? (i := 106) (by decide +kernel), List.mem_of_getElem? (i := 587) (by decide +kernel), List.mem_of_getElem? (i := 588) (by decide +kernel)⟩
theorem lw_p7 : lw_okq (⟨"SunVillage$Reader", "takePart", "(I)Z"⟩, 8) := ⟨⟨by decide +kernel, by decide +kernel⟩, List.mem_of_getElem? (i := 106) (by decide +kernel), List.mem_of_getElem? (i := 591) (by decide +kernel), List.mem_of_getElem? (i := 592) (by decide +kernel)⟩
theorem lw_p8 : lw_okq (⟨"SunVillage$Reader", "take", "(LSunVillage$Token;)Z"⟩, 8) := ⟨⟨by decide +kernel, by decide +kernel⟩, List.mem_of_getElem? (i := 106) (by decide +kernel), List.mem_of_getElem? (i := 611) (by decide +kernel), List.mem_of_getElem? (i := 612) (by decide +kernel)⟩
theorem lw_p9 : lw_okq (⟨"SunVillage$Reader", "takeAct", "(LSunVillage$Rule;)Z"⟩, 8) := ⟨⟨by decide +kernel, by decide +kernel⟩, List.mem_of_getElem? (i := 106) (by decide +kernel), List.mem_of_getElem? (i := 628) (by decide +kernel), List.mem_of_getElem? (i := 629) (by decide +kernel)⟩
theorem lw_p10 : lw_okq (⟨"SunVillage$Reader", "takeOneOf", "(LSunVillage$Token;LSunVillage$Token;LSunVillage$Token;)LSunVillage$Token;"⟩, 8) := ⟨⟨by decide +kernel, by decide +kernel⟩, List.mem_of_getElem? (i := 106) (by decide +kernel), List.mem_of_getElem? (i := 635) (by decide +kernel), List.mem_of_getElem? (i := 636) (by decide +kernel)⟩
theorem lw_p11 : lw_okq (⟨"SunVillage$Reader", "takePrice", "(LSunVillage$Rule;)Z"⟩, 8) := ⟨⟨by decide +kernel, by decide +kernel⟩, List.mem_of_getElem? (i := 106) (by decide +kernel), List.mem_of_getElem? (i := 639) (by decide +kernel), List.mem_of_getElem? (i := 640) (by decide +kernel)⟩
theorem lw_p12 : lw_okq (⟨"SunVillage$Reader", "takeNumber", "(LSunVillage$Rule;II)Z"⟩, 8) := ⟨⟨by decide +kernel, by decide +kernel⟩, List.mem_of_getElem? (i := 106) (by decide +kernel), List.mem_of_getElem? (i := 655) (by decide +kernel), List.mem_of_getElem? (i := 656) (by decide +kernel)⟩
theorem lw_p13 : lw_okq (⟨"SunVillage$Reader", "takeWays", "(LSunVillage$Rule;)Z"⟩, 8) := ⟨⟨by decide +kernel, by decide +kernel⟩, List.mem_of_getElem? (i := 106) (by decide +kernel), List.mem_of_getElem? (i := 662) (by decide +kernel), List.mem_of_getElem? (i := 663) (by decide +kernel)⟩
theorem lw_p14 : lw_okq (⟨"SunVillage$Reader", "takeWhom", "(LSunVillage$Rule;)Z"⟩, 8) := ⟨⟨by decide +kernel, by decide +kernel⟩, List.mem_of_getElem? (i := 106) (by decide +kernel), List.mem_of_getElem? (i := 672) (by decide +kernel), List.mem_of_getElem? (i := 673) (by decide +kernel)⟩
theorem lw_p15 : lw_okq (⟨"SunVillage$Reader", "takeRest", "()Z"⟩, 8) := ⟨⟨by decide +kernel, by decide +kernel⟩, List.mem_of_getElem? (i := 106) (by decide +kernel), List.mem_of_getElem? (i := 690) (by decide +kernel), List.mem_of_getElem? (i := 691) (by decide +kernel)⟩
def lw_privs_1 : List (MethodName × Nat) := [(⟨"SunVillage$Reader", "scan", "(LSunVillage$Tape;)V"⟩, 8), (⟨"SunVillage$Reader", "scanToken", "(LSunVillage$Tape;II)V"⟩, 8), (⟨"SunVillage$Token", "isSpelled", "(LSunVillage$Tape;II)Z"⟩, 5), (⟨"SunVillage$Reader", "takeRule", "()Z"⟩, 8), (⟨"SunVillage$Reader", "refuse", "(I)Z"⟩, 8), (⟨"SunVillage$Reader", "step", "()V"⟩, 8), (⟨"SunVillage$Reader", "takeExpression", "(I)Z"⟩, 8), (⟨"SunVillage$Reader", "takePart", "(I)Z"⟩, 8), (⟨"SunVillage$Reader", "take", "(LSunVillage$Token;)Z"⟩, 8), (⟨"SunVillage$Reader", "takeAct", "(LSunVillage$Rule;)Z"⟩, 8), (⟨"SunVillage$Reader", "takeOneOf", "(LSunVillage$Token;LSunVillage$Token;LSunVillage$Token;)LSunVillage$Token;"⟩, 8), (⟨"SunVillage$Reader", "takePrice", "(LSunVillage$Rule;)Z"⟩, 8), (⟨"SunVillage$Reader", "takeNumber", "(LSunVillage$Rule;II)Z"⟩, 8), (⟨"SunVillage$Reader", "takeWays", "(LSunVillage$Rule;)Z"⟩, 8), (⟨"SunVillage$Reader", "takeWhom", "(LSunVillage$Rule;)Z"⟩, 8), (⟨"SunVillage$Reader", "takeRest", "()Z"⟩, 8)]
theorem lw_r1 : ∀ q ∈ lw_privs_1, lw_okq q := List.forall_mem_cons.mpr ⟨lw_p0, List.forall_mem_cons.mpr ⟨lw_p1, List.forall_mem_cons.mpr ⟨lw_p2, List.forall_mem_cons.mpr ⟨lw_p3, List.forall_mem_cons.mpr ⟨lw_p4, List.forall_mem_cons.mpr ⟨lw_p5, List.forall_mem_cons.mpr ⟨lw_p6, List.forall_mem_cons.mpr ⟨lw_p7, List.forall_mem_cons.mpr ⟨lw_p8, List.forall_mem_cons.mpr ⟨lw_p9, List.forall_mem_cons.mpr ⟨lw_p10, List.forall_mem_cons.mpr ⟨lw_p11, List.forall_mem_cons.mpr ⟨lw_p12, List.forall_mem_cons.mpr ⟨lw_p13, List.forall_mem_cons.mpr ⟨lw_p14, List.forall_mem_cons.mpr ⟨lw_p15, fun _ h => absurd h List.not_mem_nil⟩⟩⟩⟩⟩⟩⟩⟩⟩⟩⟩⟩⟩⟩⟩⟩
theorem lw_p16 : lw_okq (⟨"SunVillage", "dayOfLooks", "()I"⟩, 13) := ⟨⟨by decide +kernel, by decide +kernel⟩, List.mem_of_getElem? (i := 26) (by decide +kernel), List.mem_of_getElem? (i := 721) (by decide +kernel), List.mem_of_getElem? (i := 722) (by decide +kernel)⟩
theorem lw_p17 : lw_okq (⟨"SunVillage$Book", "turnTo", "(I)V"⟩, 11) := ⟨⟨by decide +kernel, by decide +kernel⟩, List.mem_of_getElem? (i := 233) (by decide +kernel), List.mem_of_getElem? (i := 734) (by decide +kernel), List.mem_of_getElem? (i := 735) (by decide +kernel)⟩
theorem lw_p18 : lw_okq (⟨"SunVillage$Book", "placeReadings", "(I)V"⟩, 11) := ⟨⟨by decide +kernel, by decide +kernel⟩, List.mem_of_getElem? (i := 233) (by decide +kernel), List.mem_of_getElem? (i := 752) (by decide +kernel), List.mem_of_getElem? (i := 753) (by decide +kernel)⟩
theorem lw_p19 : lw_okq (⟨"SunVillage$Book", "bringIn", "(II)V"⟩, 11) := ⟨⟨by decide +kernel, by decide +kernel⟩, List.mem_of_getElem? (i := 233) (by decide +kernel), List.mem_of_getElem? (i := 772) (by decide +kernel), List.mem_of_getElem? (i := 773) (by decide +kernel)⟩
theorem lw_p20 : lw_okq (⟨"SunVillage$Book", "wants", "(I)I"⟩, 11) := ⟨⟨by decide +kernel, by decide +kernel⟩, List.mem_of_getElem? (i := 233) (by decide +kernel), List.mem_of_getElem? (i := 776) (by decide +kernel), List.mem_of_getElem? (i := 777) (by decide +kernel)⟩
theorem lw_p21 : lw_okq (⟨"SunVillage$Book", "gives", "(I)I"⟩, 11) := ⟨⟨by decide +kernel, by decide +kernel⟩, List.mem_of_getElem? (i := 233) (by decide +kernel), List.mem_of_getElem? (i := 780) (by decide +kernel), List.mem_of_getElem? (i := 781) (by decide +kernel)⟩
theorem lw_p22 : lw_okq (⟨"SunVillage$Work", "value", "(LSunVillage$Text;II)I"⟩, 20) := ⟨⟨by decide +kernel, by decide +kernel⟩, List.mem_of_getElem? (i := 139) (by decide +kernel), List.mem_of_getElem? (i := 794) (by decide +kernel), List.mem_of_getElem? (i := 795) (by decide +kernel)⟩
theorem lw_p23 : lw_okq (⟨"SunVillage$Work", "measured", "(I)I"⟩, 20) := ⟨⟨by decide +kernel, by decide +kernel⟩, List.mem_of_getElem? (i := 139) (by decide +kernel), List.mem_of_getElem? (i := 805) (by decide +kernel), List.mem_of_getElem? (i := 806) (by decide +kernel)⟩
theorem lw_p24 : lw_okq (⟨"SunVillage$Work", "wantOfAll", "()I"⟩, 20) := ⟨⟨by decide +kernel, by decide +kernel⟩, List.mem_of_getElem? (i := 139) (by decide +kernel), List.mem_of_getElem? (i := 815) (by decide +kernel), List.mem_of_getElem? (i := 816) (by decide +kernel)⟩
theorem lw_p25 : lw_okq (⟨"SunVillage$Work", "amount", "(LSunVillage$Text;LSunVillage$Rule;I)I"⟩, 20) := ⟨⟨by decide +kernel, by decide +kernel⟩, List.mem_of_getElem? (i := 139) (by decide +kernel), List.mem_of_getElem? (i := 821) (by decide +kernel), List.mem_of_getElem? (i := 822) (by decide +kernel)⟩
theorem lw_p26 : lw_okq (⟨"SunVillage$Work", "fill", "(II)V"⟩, 20) := ⟨⟨by decide +kernel, by decide +kernel⟩, List.mem_of_getElem? (i := 139) (by decide +kernel), List.mem_of_getElem? (i := 826) (by decide +kernel), List.mem_of_getElem? (i := 827) (by decide +kernel)⟩
theorem lw_p27 : lw_okq (⟨"SunVillage$Work", "give", "(LSunVillage$Text;II)V"⟩, 20) := ⟨⟨by decide +kernel, by decide +kernel⟩, List.mem_of_getElem? (i := 139) (by decide +kernel), List.mem_of_getElem? (i := 830) (by decide +kernel), List.mem_of_getElem? (i := 831) (by decide +kernel)⟩
theorem lw_p28 : lw_okq (⟨"SunVillage$Work", "choose", "(LSunVillage$Rule;)V"⟩, 20) := ⟨⟨by decide +kernel, by decide +kernel⟩, List.mem_of_getElem? (i := 139) (by decide +kernel), List.mem_of_getElem? (i := 834) (by decide +kernel), List.mem_of_getElem? (i := 835) (by decide +kernel)⟩
theorem lw_p29 : lw_okq (⟨"SunVillage$Work", "room", "(I)I"⟩, 20) := ⟨⟨by decide +kernel, by decide +kernel⟩, List.mem_of_getElem? (i := 139) (by decide +kernel), List.mem_of_getElem? (i := 838) (by decide +kernel), List.mem_of_getElem? (i := 839) (by decide +kernel)⟩
theorem lw_p30 : lw_okq (⟨"SunVillage$Work", "keepLeast", "(I)V"⟩, 20) := ⟨⟨by decide +kernel, by decide +kernel⟩, List.mem_of_getElem? (i := 139) (by decide +kernel), List.mem_of_getElem? (i := 844) (by decide +kernel), List.mem_of_getElem? (i := 845) (by decide +kernel)⟩
theorem lw_p31 : lw_okq (⟨"SunVillage$Work", "chosenAhead", "(I)I"⟩, 20) := ⟨⟨by decide +kernel, by decide +kernel⟩, List.mem_of_getElem? (i := 139) (by decide +kernel), List.mem_of_getElem? (i := 848) (by decide +kernel), List.mem_of_getElem? (i := 849) (by decide +kernel)⟩
def lw_privs_2 : List (MethodName × Nat) := [(⟨"SunVillage", "dayOfLooks", "()I"⟩, 13), (⟨"SunVillage$Book", "turnTo", "(I)V"⟩, 11), (⟨"SunVillage$Book", "placeReadings", "(I)V"⟩, 11), (⟨"SunVillage$Book", "bringIn", "(II)V"⟩, 11), (⟨"SunVillage$Book", "wants", "(I)I"⟩, 11), (⟨"SunVillage$Book", "gives", "(I)I"⟩, 11), (⟨"SunVillage$Work", "value", "(LSunVillage$Text;II)I"⟩, 20), (⟨"SunVillage$Work", "measured", "(I)I"⟩, 20), (⟨"SunVillage$Work", "wantOfAll", "()I"⟩, 20), (⟨"SunVillage$Work", "amount", "(LSunVillage$Text;LSunVillage$Rule;I)I"⟩, 20), (⟨"SunVillage$Work", "fill", "(II)V"⟩, 20), (⟨"SunVillage$Work", "give", "(LSunVillage$Text;II)V"⟩, 20), (⟨"SunVillage$Work", "choose", "(LSunVillage$Rule;)V"⟩, 20), (⟨"SunVillage$Work", "room", "(I)I"⟩, 20), (⟨"SunVillage$Work", "keepLeast", "(I)V"⟩, 20), (⟨"SunVillage$Work", "chosenAhead", "(I)I"⟩, 20)]
theorem lw_r2 : ∀ q ∈ lw_privs_2, lw_okq q := List.forall_mem_cons.mpr ⟨lw_p16, List.forall_mem_cons.mpr ⟨lw_p17, List.forall_mem_cons.mpr ⟨lw_p18, List.forall_mem_cons.mpr ⟨lw_p19, List.forall_mem_cons.mpr ⟨lw_p20, List.forall_mem_cons.mpr ⟨lw_p21, List.forall_mem_cons.mpr ⟨lw_p22, List.forall_mem_cons.mpr ⟨lw_p23, List.forall_mem_cons.mpr ⟨lw_p24, List.forall_mem_cons.mpr ⟨lw_p25, List.forall_mem_cons.mpr ⟨lw_p26, List.forall_mem_cons.mpr ⟨lw_p27, List.forall_mem_cons.mpr ⟨lw_p28, List.forall_mem_cons.mpr ⟨lw_p29, List.forall_mem_cons.mpr ⟨lw_p30, List.forall_mem_cons.mpr ⟨lw_p31, fun _ h => absurd h List.not_mem_nil⟩⟩⟩⟩⟩⟩⟩⟩⟩⟩⟩⟩⟩⟩⟩⟩
theorem lw_p32 : lw_okq (⟨"SunVillage$Work", "weigh", "(LSunVillage$Token;)J"⟩, 20) := ⟨⟨by decide +kernel, by decide +kernel⟩, List.mem_of_getElem? (i := 139) (by decide +kernel), List.mem_of_getElem? (i := 852) (by decide +kernel), List.mem_of_getElem? (i := 853) (by decide +kernel)⟩
theorem lw_p33 : lw_okq (⟨"SunVillage$Work", "hand", "(LSunVillage$Rule;III)V"⟩, 20) := ⟨⟨by decide +kernel, by decide +kernel⟩, List.mem_of_getElem? (i := 139) (by decide +kernel), List.mem_of_getElem? (i := 861) (by decide +kernel), List.mem_of_getElem? (i := 862) (by decide +kernel)⟩
theorem lw_p34 : lw_okq (⟨"SunVillage$Work", "handRest", "(LSunVillage$Text;II)V"⟩, 20) := ⟨⟨by decide +kernel, by decide +kernel⟩, List.mem_of_getElem? (i := 139) (by decide +kernel), List.mem_of_getElem? (i := 865) (by decide +kernel), List.mem_of_getElem? (i := 866) (by decide +kernel)⟩
theorem lw_p35 : lw_okq (⟨"SunVillage$Work", "sortByWant", "()V"⟩, 20) := ⟨⟨by decide +kernel, by decide +kernel⟩, List.mem_of_getElem? (i := 139) (by decide +kernel), List.mem_of_getElem? (i := 870) (by decide +kernel), List.mem_of_getElem? (i := 871) (by decide +kernel)⟩
theorem lw_p36 : lw_okq (⟨"SunVillage$Work", "handOnes", "(LSunVillage$Rule;IIII)I"⟩, 20) := ⟨⟨by decide +kernel, by decide +kernel⟩, List.mem_of_getElem? (i := 139) (by decide +kernel), List.mem_of_getElem? (i := 875) (by decide +kernel), List.mem_of_getElem? (i := 876) (by decide +kernel)⟩
theorem lw_p37 : lw_okq (⟨"SunVillage$Book", "write", "(I)V"⟩, 11) := ⟨⟨by decide +kernel, by decide +kernel⟩, List.mem_of_getElem? (i := 233) (by decide +kernel), List.mem_of_getElem? (i := 883) (by decide +kernel), List.mem_of_getElem? (i := 884) (by decide +kernel)⟩
theorem lw_p38 : lw_okq (⟨"SunVillage$Book", "coins", "(II)I"⟩, 11) := ⟨⟨by decide +kernel, by decide +kernel⟩, List.mem_of_getElem? (i := 233) (by decide +kernel), List.mem_of_getElem? (i := 907) (by decide +kernel), List.mem_of_getElem? (i := 908) (by decide +kernel)⟩
theorem lw_p39 : lw_okq (⟨"SunVillage$Book", "own", "(I)I"⟩, 11) := ⟨⟨by decide +kernel, by decide +kernel⟩, List.mem_of_getElem? (i := 233) (by decide +kernel), List.mem_of_getElem? (i := 911) (by decide +kernel), List.mem_of_getElem? (i := 912) (by decide +kernel)⟩
theorem lw_p40 : lw_okq (⟨"SunVillage$Book", "bought", "(II)I"⟩, 11) := ⟨⟨by decide +kernel, by decide +kernel⟩, List.mem_of_getElem? (i := 233) (by decide +kernel), List.mem_of_getElem? (i := 915) (by decide +kernel), List.mem_of_getElem? (i := 916) (by decide +kernel)⟩
theorem lw_p41 : lw_okq (⟨"SunVillage$Book", "lacked", "(I)I"⟩, 11) := ⟨⟨by decide +kernel, by decide +kernel⟩, List.mem_of_getElem? (i := 233) (by decide +kernel), List.mem_of_getElem? (i := 919) (by decide +kernel), List.mem_of_getElem? (i := 920) (by decide +kernel)⟩
theorem lw_p42 : lw_okq (⟨"java/lang/Throwable", "fillInStackTrace", "(I)Ljava/lang/Throwable;"⟩, 6) := ⟨⟨by decide +kernel, by decide +kernel⟩, List.mem_of_getElem? (i := 985) (by decide +kernel), List.mem_of_getElem? (i := 983) (by decide +kernel), List.mem_of_getElem? (i := 984) (by decide +kernel)⟩
theorem lw_p43 : lw_okq (⟨"SunVillage$Book", "isInDoubt", "(II)Z"⟩, 11) := ⟨⟨by decide +kernel, by decide +kernel⟩, List.mem_of_getElem? (i := 233) (by decide +kernel), List.mem_of_getElem? (i := 1014) (by decide +kernel), List.mem_of_getElem? (i := 1015) (by decide +kernel)⟩
theorem lw_p44 : lw_okq (⟨"SunVillageModel", "lay", "(J)V"⟩, 75) := ⟨⟨by decide +kernel, by decide +kernel⟩, List.mem_of_getElem? (i := 1044) (by decide +kernel), List.mem_of_getElem? (i := 1042) (by decide +kernel), List.mem_of_getElem? (i := 1043) (by decide +kernel)⟩
theorem lw_p45 : lw_okq (⟨"SunVillageModel", "readText", "()V"⟩, 75) := ⟨⟨by decide +kernel, by decide +kernel⟩, List.mem_of_getElem? (i := 1044) (by decide +kernel), List.mem_of_getElem? (i := 1308) (by decide +kernel), List.mem_of_getElem? (i := 1309) (by decide +kernel)⟩
theorem lw_p46 : lw_okq (⟨"SunVillageModel", "cutAll", "()V"⟩, 75) := ⟨⟨by decide +kernel, by decide +kernel⟩, List.mem_of_getElem? (i := 1044) (by decide +kernel), List.mem_of_getElem? (i := 1312) (by decide +kernel), List.mem_of_getElem? (i := 1313) (by decide +kernel)⟩
theorem lw_p47 : lw_okq (⟨"SunVillageModel", "isWord", "(I)Z"⟩, 75) := ⟨⟨by decide +kernel, by decide +kernel⟩, List.mem_of_getElem? (i := 1044) (by decide +kernel), List.mem_of_getElem? (i := 1331) (by decide +kernel), List.mem_of_getElem? (i := 1332) (by decide +kernel)⟩
def lw_privs_3 : List (MethodName × Nat) := [(⟨"SunVillage$Work", "weigh", "(LSunVillage$Token;)J"⟩, 20), (⟨"SunVillage$Work", "hand", "(LSunVillage$Rule;III)V"⟩, 20), (⟨"SunVillage$Work", "handRest", "(LSunVillage$Text;II)V"⟩, 20), (⟨"SunVillage$Work", "sortByWant", "()V"⟩, 20), (⟨"SunVillage$Work", "handOnes", "(LSunVillage$Rule;IIII)I"⟩, 20), (⟨"SunVillage$Book", "write", "(I)V"⟩, 11), (⟨"SunVillage$Book", "coins", "(II)I"⟩, 11), (⟨"SunVillage$Book", "own", "(I)I"⟩, 11), (⟨"SunVillage$Book", "bought", "(II)I"⟩, 11), (⟨"SunVillage$Book", "lacked", "(I)I"⟩, 11), (⟨"java/lang/Throwable", "fillInStackTrace", "(I)Ljava/lang/Throwable;"⟩, 6), (⟨"SunVillage$Book", "isInDoubt", "(II)Z"⟩, 11), (⟨"SunVillageModel", "lay", "(J)V"⟩, 75), (⟨"SunVillageModel", "readText", "()V"⟩, 75), (⟨"SunVillageModel", "cutAll", "()V"⟩, 75), (⟨"SunVillageModel", "isWord", "(I)Z"⟩, 75)]
theorem lw_r3 : ∀ q ∈ lw_privs_3, lw_okq q := List.forall_mem_cons.mpr ⟨lw_p32, List.forall_mem_cons.mpr ⟨lw_p33, List.forall_mem_cons.mpr ⟨lw_p34, List.forall_mem_cons.mpr ⟨lw_p35, List.forall_mem_cons.mpr ⟨lw_p36, List.forall_mem_cons.mpr ⟨lw_p37, List.forall_mem_cons.mpr ⟨lw_p38, List.forall_mem_cons.mpr ⟨lw_p39, List.forall_mem_cons.mpr ⟨lw_p40, List.forall_mem_cons.mpr ⟨lw_p41, List.forall_mem_cons.mpr ⟨lw_p42, List.forall_mem_cons.mpr ⟨lw_p43, List.forall_mem_cons.mpr ⟨lw_p44, List.forall_mem_cons.mpr ⟨lw_p45, List.forall_mem_cons.mpr ⟨lw_p46, List.forall_mem_cons.mpr ⟨lw_p47, fun _ h => absurd h List.not_mem_nil⟩⟩⟩⟩⟩⟩⟩⟩⟩⟩⟩⟩⟩⟩⟩⟩
theorem lw_p48 : lw_okq (⟨"SunVillageModel", "readRule", "()V"⟩, 75) := ⟨⟨by decide +kernel, by decide +kernel⟩, List.mem_of_getElem? (i := 1044) (by decide +kernel), List.mem_of_getElem? (i := 1335) (by decide +kernel), List.mem_of_getElem? (i := 1336) (by decide +kernel)⟩
theorem lw_p49 : lw_okq (⟨"SunVillageModel", "isRule", "()Z"⟩, 75) := ⟨⟨by decide +kernel, by decide +kernel⟩, List.mem_of_getElem? (i := 1044) (by decide +kernel), List.mem_of_getElem? (i := 1339) (by decide +kernel), List.mem_of_getElem? (i := 1340) (by decide +kernel)⟩
theorem lw_p50 : lw_okq (⟨"SunVillageModel", "wrong", "(I)V"⟩, 75) := ⟨⟨by decide +kernel, by decide +kernel⟩, List.mem_of_getElem? (i := 1044) (by decide +kernel), List.mem_of_getElem? (i := 1343) (by decide +kernel), List.mem_of_getElem? (i := 1344) (by decide +kernel)⟩
theorem lw_p51 : lw_okq (⟨"SunVillageModel", "hasWord", "(I)Z"⟩, 75) := ⟨⟨by decide +kernel, by decide +kernel⟩, List.mem_of_getElem? (i := 1044) (by decide +kernel), List.mem_of_getElem? (i := 1347) (by decide +kernel), List.mem_of_getElem? (i := 1348) (by decide +kernel)⟩
theorem lw_p52 : lw_okq (⟨"SunVillageModel", "code", "()I"⟩, 75) := ⟨⟨by decide +kernel, by decide +kernel⟩, List.mem_of_getElem? (i := 1044) (by decide +kernel), List.mem_of_getElem? (i := 1351) (by decide +kernel), List.mem_of_getElem? (i := 1352) (by decide +kernel)⟩
theorem lw_p53 : lw_okq (⟨"SunVillageModel", "expression", "()V"⟩, 75) := ⟨⟨by decide +kernel, by decide +kernel⟩, List.mem_of_getElem? (i := 1044) (by decide +kernel), List.mem_of_getElem? (i := 1355) (by decide +kernel), List.mem_of_getElem? (i := 1356) (by decide +kernel)⟩
theorem lw_p54 : lw_okq (⟨"SunVillageModel", "opens", "()V"⟩, 75) := ⟨⟨by decide +kernel, by decide +kernel⟩, List.mem_of_getElem? (i := 1044) (by decide +kernel), List.mem_of_getElem? (i := 1359) (by decide +kernel), List.mem_of_getElem? (i := 1360) (by decide +kernel)⟩
theorem lw_p55 : lw_okq (⟨"SunVillageModel", "part", "()Z"⟩, 75) := ⟨⟨by decide +kernel, by decide +kernel⟩, List.mem_of_getElem? (i := 1044) (by decide +kernel), List.mem_of_getElem? (i := 1363) (by decide +kernel), List.mem_of_getElem? (i := 1364) (by decide +kernel)⟩
theorem lw_p56 : lw_okq (⟨"SunVillageModel", "isPart", "()Z"⟩, 75) := ⟨⟨by decide +kernel, by decide +kernel⟩, List.mem_of_getElem? (i := 1044) (by decide +kernel), List.mem_of_getElem? (i := 1367) (by decide +kernel), List.mem_of_getElem? (i := 1368) (by decide +kernel)⟩
theorem lw_p57 : lw_okq (⟨"SunVillageModel", "isSign", "(I)Z"⟩, 75) := ⟨⟨by decide +kernel, by decide +kernel⟩, List.mem_of_getElem? (i := 1044) (by decide +kernel), List.mem_of_getElem? (i := 1371) (by decide +kernel), List.mem_of_getElem? (i := 1372) (by decide +kernel)⟩
theorem lw_p58 : lw_okq (⟨"SunVillageModel", "emit", "(II)V"⟩, 75) := ⟨⟨by decide +kernel, by decide +kernel⟩, List.mem_of_getElem? (i := 1044) (by decide +kernel), List.mem_of_getElem? (i := 1375) (by decide +kernel), List.mem_of_getElem? (i := 1376) (by decide +kernel)⟩
theorem lw_p59 : lw_okq (⟨"SunVillageModel", "hasSign", "(I)Z"⟩, 75) := ⟨⟨by decide +kernel, by decide +kernel⟩, List.mem_of_getElem? (i := 1044) (by decide +kernel), List.mem_of_getElem? (i := 1379) (by decide +kernel), List.mem_of_getElem? (i := 1380) (by decide +kernel)⟩
theorem lw_p60 : lw_okq (⟨"SunVillageModel", "takeWord", "(I)V"⟩, 75) := ⟨⟨by decide +kernel, by decide +kernel⟩, List.mem_of_getElem? (i := 1044) (by decide +kernel), List.mem_of_getElem? (i := 1383) (by decide +kernel), List.mem_of_getElem? (i := 1384) (by decide +kernel)⟩
theorem lw_p61 : lw_okq (⟨"SunVillageModel", "goesOn", "()Z"⟩, 75) := ⟨⟨by decide +kernel, by decide +kernel⟩, List.mem_of_getElem? (i := 1044) (by decide +kernel), List.mem_of_getElem? (i := 1387) (by decide +kernel), List.mem_of_getElem? (i := 1388) (by decide +kernel)⟩
theorem lw_p62 : lw_okq (⟨"SunVillageModel", "takeSign", "(I)V"⟩, 75) := ⟨⟨by decide +kernel, by decide +kernel⟩, List.mem_of_getElem? (i := 1044) (by decide +kernel), List.mem_of_getElem? (i := 1391) (by decide +kernel), List.mem_of_getElem? (i := 1392) (by decide +kernel)⟩
theorem lw_p63 : lw_okq (⟨"SunVillageModel", "readAmount", "(I)V"⟩, 75) := ⟨⟨by decide +kernel, by decide +kernel⟩, List.mem_of_getElem? (i := 1044) (by decide +kernel), List.mem_of_getElem? (i := 1395) (by decide +kernel), List.mem_of_getElem? (i := 1396) (by decide +kernel)⟩
def lw_privs_4 : List (MethodName × Nat) := [(⟨"SunVillageModel", "readRule", "()V"⟩, 75), (⟨"SunVillageModel", "isRule", "()Z"⟩, 75), (⟨"SunVillageModel", "wrong", "(I)V"⟩, 75), (⟨"SunVillageModel", "hasWord", "(I)Z"⟩, 75), (⟨"SunVillageModel", "code", "()I"⟩, 75), (⟨"SunVillageModel", "expression", "()V"⟩, 75), (⟨"SunVillageModel", "opens", "()V"⟩, 75), (⟨"SunVillageModel", "part", "()Z"⟩, 75), (⟨"SunVillageModel", "isPart", "()Z"⟩, 75), (⟨"SunVillageModel", "isSign", "(I)Z"⟩, 75), (⟨"SunVillageModel", "emit", "(II)V"⟩, 75), (⟨"SunVillageModel", "hasSign", "(I)Z"⟩, 75), (⟨"SunVillageModel", "takeWord", "(I)V"⟩, 75), (⟨"SunVillageModel", "goesOn", "()Z"⟩, 75), (⟨"SunVillageModel", "takeSign", "(I)V"⟩, 75), (⟨"SunVillageModel", "readAmount", "(I)V"⟩, 75)]
theorem lw_r4 : ∀ q ∈ lw_privs_4, lw_okq q := List.forall_mem_cons.mpr ⟨lw_p48, List.forall_mem_cons.mpr ⟨lw_p49, List.forall_mem_cons.mpr ⟨lw_p50, List.forall_mem_cons.mpr ⟨lw_p51, List.forall_mem_cons.mpr ⟨lw_p52, List.forall_mem_cons.mpr ⟨lw_p53, List.forall_mem_cons.mpr ⟨lw_p54, List.forall_mem_cons.mpr ⟨lw_p55, List.forall_mem_cons.mpr ⟨lw_p56, List.forall_mem_cons.mpr ⟨lw_p57, List.forall_mem_cons.mpr ⟨lw_p58, List.forall_mem_cons.mpr ⟨lw_p59, List.forall_mem_cons.mpr ⟨lw_p60, List.forall_mem_cons.mpr ⟨lw_p61, List.forall_mem_cons.mpr ⟨lw_p62, List.forall_mem_cons.mpr ⟨lw_p63, fun _ h => absurd h List.not_mem_nil⟩⟩⟩⟩⟩⟩⟩⟩⟩⟩⟩⟩⟩⟩⟩⟩
theorem lw_p64 : lw_okq (⟨"SunVillageModel", "oneOf", "(II)I"⟩, 75) := ⟨⟨by decide +kernel, by decide +kernel⟩, List.mem_of_getElem? (i := 1044) (by decide +kernel), List.mem_of_getElem? (i := 1399) (by decide +kernel), List.mem_of_getElem? (i := 1400) (by decide +kernel)⟩
theorem lw_p65 : lw_okq (⟨"SunVillageModel", "readWhom", "(I)V"⟩, 75) := ⟨⟨by decide +kernel, by decide +kernel⟩, List.mem_of_getElem? (i := 1044) (by decide +kernel), List.mem_of_getElem? (i := 1403) (by decide +kernel), List.mem_of_getElem? (i := 1404) (by decide +kernel)⟩
theorem lw_p66 : lw_okq (⟨"SunVillageModel", "takeNumber", "(II)I"⟩, 75) := ⟨⟨by decide +kernel, by decide +kernel⟩, List.mem_of_getElem? (i := 1044) (by decide +kernel), List.mem_of_getElem? (i := 1407) (by decide +kernel), List.mem_of_getElem? (i := 1408) (by decide +kernel)⟩
theorem lw_p67 : lw_okq (⟨"SunVillageModel", "keep", "(I)V"⟩, 75) := ⟨⟨by decide +kernel, by decide +kernel⟩, List.mem_of_getElem? (i := 1044) (by decide +kernel), List.mem_of_getElem? (i := 1411) (by decide +kernel), List.mem_of_getElem? (i := 1412) (by decide +kernel)⟩
theorem lw_p68 : lw_okq (⟨"SunVillageModel", "lookDay", "()I"⟩, 75) := ⟨⟨by decide +kernel, by decide +kernel⟩, List.mem_of_getElem? (i := 1044) (by decide +kernel), List.mem_of_getElem? (i := 1439) (by decide +kernel), List.mem_of_getElem? (i := 1440) (by decide +kernel)⟩
theorem lw_p69 : lw_okq (⟨"SunVillageModel", "works", "(IIZ)V"⟩, 75) := ⟨⟨by decide +kernel, by decide +kernel⟩, List.mem_of_getElem? (i := 1044) (by decide +kernel), List.mem_of_getElem? (i := 1443) (by decide +kernel), List.mem_of_getElem? (i := 1444) (by decide +kernel)⟩
theorem lw_p70 : lw_okq (⟨"SunVillageModel", "quarterBegins", "(Z)V"⟩, 75) := ⟨⟨by decide +kernel, by decide +kernel⟩, List.mem_of_getElem? (i := 1044) (by decide +kernel), List.mem_of_getElem? (i := 1447) (by decide +kernel), List.mem_of_getElem? (i := 1448) (by decide +kernel)⟩
theorem lw_p71 : lw_okq (⟨"SunVillageModel", "rule", "(I)V"⟩, 75) := ⟨⟨by decide +kernel, by decide +kernel⟩, List.mem_of_getElem? (i := 1044) (by decide +kernel), List.mem_of_getElem? (i := 1451) (by decide +kernel), List.mem_of_getElem? (i := 1452) (by decide +kernel)⟩
theorem lw_p72 : lw_okq (⟨"SunVillageModel", "worth", "(I)I"⟩, 75) := ⟨⟨by decide +kernel, by decide +kernel⟩, List.mem_of_getElem? (i := 1044) (by decide +kernel), List.mem_of_getElem? (i := 1455) (by decide +kernel), List.mem_of_getElem? (i := 1456) (by decide +kernel)⟩
theorem lw_p73 : lw_okq (⟨"SunVillageModel", "partOf", "(I)I"⟩, 75) := ⟨⟨by decide +kernel, by decide +kernel⟩, List.mem_of_getElem? (i := 1044) (by decide +kernel), List.mem_of_getElem? (i := 1459) (by decide +kernel), List.mem_of_getElem? (i := 1460) (by decide +kernel)⟩
theorem lw_p74 : lw_okq (⟨"SunVillageModel", "givesBy", "(II)V"⟩, 75) := ⟨⟨by decide +kernel, by decide +kernel⟩, List.mem_of_getElem? (i := 1044) (by decide +kernel), List.mem_of_getElem? (i := 1463) (by decide +kernel), List.mem_of_getElem? (i := 1464) (by decide +kernel)⟩
theorem lw_p75 : lw_okq (⟨"SunVillageModel", "chooses", "(I)I"⟩, 75) := ⟨⟨by decide +kernel, by decide +kernel⟩, List.mem_of_getElem? (i := 1044) (by decide +kernel), List.mem_of_getElem? (i := 1467) (by decide +kernel), List.mem_of_getElem? (i := 1468) (by decide +kernel)⟩
theorem lw_p76 : lw_okq (⟨"SunVillageModel", "can", "(I)Z"⟩, 75) := ⟨⟨by decide +kernel, by decide +kernel⟩, List.mem_of_getElem? (i := 1044) (by decide +kernel), List.mem_of_getElem? (i := 1471) (by decide +kernel), List.mem_of_getElem? (i := 1472) (by decide +kernel)⟩
theorem lw_p77 : lw_okq (⟨"SunVillageModel", "hands", "(IIII)V"⟩, 75) := ⟨⟨by decide +kernel, by decide +kernel⟩, List.mem_of_getElem? (i := 1044) (by decide +kernel), List.mem_of_getElem? (i := 1478) (by decide +kernel), List.mem_of_getElem? (i := 1479) (by decide +kernel)⟩
theorem lw_p78 : lw_okq (⟨"SunVillageModel", "oneByOne", "(III)V"⟩, 75) := ⟨⟨by decide +kernel, by decide +kernel⟩, List.mem_of_getElem? (i := 1044) (by decide +kernel), List.mem_of_getElem? (i := 1482) (by decide +kernel), List.mem_of_getElem? (i := 1483) (by decide +kernel)⟩
theorem lw_p79 : lw_okq (⟨"SunVillageModel", "nextOf", "()I"⟩, 75) := ⟨⟨by decide +kernel, by decide +kernel⟩, List.mem_of_getElem? (i := 1044) (by decide +kernel), List.mem_of_getElem? (i := 1486) (by decide +kernel), List.mem_of_getElem? (i := 1487) (by decide +kernel)⟩
def lw_privs_5 : List (MethodName × Nat) := [(⟨"SunVillageModel", "oneOf", "(II)I"⟩, 75), (⟨"SunVillageModel", "readWhom", "(I)V"⟩, 75), (⟨"SunVillageModel", "takeNumber", "(II)I"⟩, 75), (⟨"SunVillageModel", "keep", "(I)V"⟩, 75), (⟨"SunVillageModel", "lookDay", "()I"⟩, 75), (⟨"SunVillageModel", "works", "(IIZ)V"⟩, 75), (⟨"SunVillageModel", "quarterBegins", "(Z)V"⟩, 75), (⟨"SunVillageModel", "rule", "(I)V"⟩, 75), (⟨"SunVillageModel", "worth", "(I)I"⟩, 75), (⟨"SunVillageModel", "partOf", "(I)I"⟩, 75), (⟨"SunVillageModel", "givesBy", "(II)V"⟩, 75), (⟨"SunVillageModel", "chooses", "(I)I"⟩, 75), (⟨"SunVillageModel", "can", "(I)Z"⟩, 75), (⟨"SunVillageModel", "hands", "(IIII)V"⟩, 75), (⟨"SunVillageModel", "oneByOne", "(III)V"⟩, 75), (⟨"SunVillageModel", "nextOf", "()I"⟩, 75)]
theorem lw_r5 : ∀ q ∈ lw_privs_5, lw_okq q := List.forall_mem_cons.mpr ⟨lw_p64, List.forall_mem_cons.mpr ⟨lw_p65, List.forall_mem_cons.mpr ⟨lw_p66, List.forall_mem_cons.mpr ⟨lw_p67, List.forall_mem_cons.mpr ⟨lw_p68, List.forall_mem_cons.mpr ⟨lw_p69, List.forall_mem_cons.mpr ⟨lw_p70, List.forall_mem_cons.mpr ⟨lw_p71, List.forall_mem_cons.mpr ⟨lw_p72, List.forall_mem_cons.mpr ⟨lw_p73, List.forall_mem_cons.mpr ⟨lw_p74, List.forall_mem_cons.mpr ⟨lw_p75, List.forall_mem_cons.mpr ⟨lw_p76, List.forall_mem_cons.mpr ⟨lw_p77, List.forall_mem_cons.mpr ⟨lw_p78, List.forall_mem_cons.mpr ⟨lw_p79, fun _ h => absurd h List.not_mem_nil⟩⟩⟩⟩⟩⟩⟩⟩⟩⟩⟩⟩⟩⟩⟩⟩
theorem lw_p80 : lw_okq (⟨"SunVillageModel", "quarterEnds", "()V"⟩, 75) := ⟨⟨by decide +kernel, by decide +kernel⟩, List.mem_of_getElem? (i := 1044) (by decide +kernel), List.mem_of_getElem? (i := 1490) (by decide +kernel), List.mem_of_getElem? (i := 1491) (by decide +kernel)⟩
def lw_privs_6 : List (MethodName × Nat) := [(⟨"SunVillageModel", "quarterEnds", "()V"⟩, 75)]
theorem lw_r6 : ∀ q ∈ lw_privs_6, lw_okq q := List.forall_mem_cons.mpr ⟨lw_p80, fun _ h => absurd h List.not_mem_nil⟩
def lw_privs : List (MethodName × Nat) := lw_privs_1 ++ (lw_privs_2 ++ (lw_privs_3 ++ (lw_privs_4 ++ (lw_privs_5 ++ (lw_privs_6)))))
def lw_tbl : List Cond := k2_sels lw_privs ++ tables_1
theorem lw_privs_ok : ∀ q ∈ lw_privs, lw_okq q := by
  show ∀ q ∈ lw_privs_1 ++ (lw_privs_2 ++ (lw_privs_3 ++ (lw_privs_4 ++ (lw_privs_5 ++ (lw_privs_6))))), lw_okq q
  exact List.forall_mem_append.mpr ⟨lw_r1, List.forall_mem_append.mpr ⟨lw_r2, List.forall_mem_append.mpr ⟨lw_r3, List.forall_mem_append.mpr ⟨lw_r4, List.forall_mem_append.mpr ⟨lw_r5, lw_r6⟩⟩⟩⟩⟩
/-! ===== BEGIN printed: names, fields, word lists, decode rows ===== -/
def RX0 : String := "SunVillage$Bills"
def TX0 : u_T := fun k => match k with
  | 0 => ("SunVillage$Bills", "coins", "[I", true)
  | _ => ("SunVillage$Bills", "days", "I", false)
def tyX0 : Nat → FieldType := fun k => match k with
  | 0 => .array .int
  | _ => .int
abbrev wsX00 : List Cond := u_ws RX0 TX0 2
theorem nmX0 : ∀ a, a < 2 → ∀ b, b < 2 → a ≠ b → (TX0 a).2.1 ≠ (TX0 b).2.1 := by decide +kernel
theorem tyX0_ok : ∀ k, k < 2 → parseFieldDescriptor (TX0 k).2.2.1 = some (tyX0 k) := by decide +kernel
abbrev cX0_init : ByteArray := prog_2_method_1_code
def yX0_init : MethodName := ⟨RX0, "<init>", "()V"⟩
abbrev cX0_slot : ByteArray := prog_2_method_2_code
def yX0_slot : MethodName := ⟨RX0, "slot", "(II)I"⟩
abbrev cX0_write : ByteArray := prog_2_method_3_code
def yX0_write : MethodName := ⟨RX0, "write", "(II)V"⟩
def RX1 : String := "SunVillage$Book"
def TX1 : u_T := fun k => match k with
  | 0 => ("SunVillage$Book", "houses", "LSunVillage$Houses;", true)
  | 1 => ("SunVillage$Book", "readings", "LSunVillage$Readings;", true)
  | 2 => ("SunVillage$Book", "texts", "LSunVillage$Texts;", true)
  | 3 => ("SunVillage$Book", "work", "LSunVillage$Work;", true)
  | 4 => ("SunVillage$Book", "asKnown", "I", false)
  | 5 => ("SunVillage$Book", "worked", "I", false)
  | 6 => ("SunVillage$Book", "reading", "[I", true)
  | 7 => ("SunVillage$Book", "fromPool", "[I", true)
  | 8 => ("SunVillage$Book", "fromStore", "[I", true)
  | 9 => ("SunVillage$Book", "hadThatDay", "[I", true)
  | _ => ("SunVillage$Book", "sums", "[I", true)
def tyX1 : Nat → FieldType := fun k => match k with
  | 0 => .object "SunVillage$Houses"
  | 1 => .object "SunVillage$Readings"
  | 2 => .object "SunVillage$Texts"
  | 3 => .object "SunVillage$Work"
  | 4 => .int
  | 5 => .int
  | 6 => .array .int
  | 7 => .array .int
  | 8 => .array .int
  | 9 => .array .int
  | _ => .array .int
abbrev wsX10 : List Cond := u_ws RX1 TX1 11
theorem nmX1 : ∀ a, a < 11 → ∀ b, b < 11 → a ≠ b → (TX1 a).2.1 ≠ (TX1 b).2.1 := by decide +kernel
theorem tyX1_ok : ∀ k, k < 11 → parseFieldDescriptor (TX1 k).2.2.1 = some (tyX1 k) := by decide +kernel
abbrev cX1_init : ByteArray := prog_3_method_1_code
def yX1_init : MethodName := ⟨RX1, "<init>", "(LSunVillage$Houses;LSunVillage$Readings;LSunVillage$Texts;LSunVillage$Work;)V"⟩
abbrev cX1_forgetFrom : ByteArray := prog_3_method_2_code
def yX1_forgetFrom : MethodName := ⟨RX1, "forgetFrom", "(I)V"⟩
abbrev cX1_workTo : ByteArray := prog_3_method_3_code
def yX1_workTo : MethodName := ⟨RX1, "workTo", "(II)V"⟩
abbrev cX1_turnTo : ByteArray := prog_3_method_4_code
def yX1_turnTo : MethodName := ⟨RX1, "turnTo", "(I)V"⟩
abbrev cX1_placeReadings : ByteArray := prog_3_method_5_code
def yX1_placeReadings : MethodName := ⟨RX1, "placeReadings", "(I)V"⟩
abbrev cX1_workAgain : ByteArray := prog_3_method_6_code
def yX1_workAgain : MethodName := ⟨RX1, "workAgain", "(II)V"⟩
abbrev cX1_bringIn : ByteArray := prog_3_method_7_code
def yX1_bringIn : MethodName := ⟨RX1, "bringIn", "(II)V"⟩
abbrev cX1_write : ByteArray := prog_3_method_8_code
def yX1_write : MethodName := ⟨RX1, "write", "(I)V"⟩
abbrev cX1_cell : ByteArray := prog_3_method_9_code
def yX1_cell : MethodName := ⟨RX1, "cell", "(II)I"⟩
abbrev cX1_sum : ByteArray := prog_3_method_10_code
def yX1_sum : MethodName := ⟨RX1, "sum", "(II)I"⟩
abbrev cX1_ofHouse : ByteArray := prog_3_method_11_code
def yX1_ofHouse : MethodName := ⟨RX1, "ofHouse", "(III)I"⟩
abbrev cX1_byRules : ByteArray := prog_3_method_12_code
def yX1_byRules : MethodName := ⟨RX1, "byRules", "(II)I"⟩
abbrev cX1_wants : ByteArray := prog_3_method_13_code
def yX1_wants : MethodName := ⟨RX1, "wants", "(I)I"⟩
abbrev cX1_gives : ByteArray := prog_3_method_14_code
def yX1_gives : MethodName := ⟨RX1, "gives", "(I)I"⟩
abbrev cX1_own : ByteArray := prog_3_method_15_code
def yX1_own : MethodName := ⟨RX1, "own", "(I)I"⟩
abbrev cX1_isInDoubt : ByteArray := prog_3_method_16_code
def yX1_isInDoubt : MethodName := ⟨RX1, "isInDoubt", "(II)Z"⟩
abbrev cX1_lacked : ByteArray := prog_3_method_17_code
def yX1_lacked : MethodName := ⟨RX1, "lacked", "(I)I"⟩
abbrev cX1_bought : ByteArray := prog_3_method_18_code
def yX1_bought : MethodName := ⟨RX1, "bought", "(II)I"⟩
abbrev cX1_coins : ByteArray := prog_3_method_19_code
def yX1_coins : MethodName := ⟨RX1, "coins", "(II)I"⟩
abbrev cX1_coinsUpTo : ByteArray := prog_3_method_20_code
def yX1_coinsUpTo : MethodName := ⟨RX1, "coinsUpTo", "(II)I"⟩
def RX2 : String := "SunVillage$Houses"
def TX2 : u_T := fun k => match k with
  | 0 => ("SunVillage$Houses", "share", "[I", true)
  | 1 => ("SunVillage$Houses", "bears", "[I", true)
  | _ => ("SunVillage$Houses", "size", "I", false)
def tyX2 : Nat → FieldType := fun k => match k with
  | 0 => .array .int
  | 1 => .array .int
  | _ => .int
abbrev wsX20 : List Cond := u_ws RX2 TX2 3
theorem nmX2 : ∀ a, a < 3 → ∀ b, b < 3 → a ≠ b → (TX2 a).2.1 ≠ (TX2 b).2.1 := by decide +kernel
theorem tyX2_ok : ∀ k, k < 3 → parseFieldDescriptor (TX2 k).2.2.1 = some (tyX2 k) := by decide +kernel
abbrev cX2_init : ByteArray := prog_4_method_1_code
def yX2_init : MethodName := ⟨RX2, "<init>", "()V"⟩
abbrev cX2_has : ByteArray := prog_4_method_2_code
def yX2_has : MethodName := ⟨RX2, "has", "(I)Z"⟩
abbrev cX2_add : ByteArray := prog_4_method_3_code
def yX2_add : MethodName := ⟨RX2, "add", "(II)I"⟩
def RX3 : String := "SunVillage$Reader"
def TX3 : u_T := fun k => match k with
  | 0 => ("SunVillage$Reader", "tokens", "[LSunVillage$Token;", true)
  | 1 => ("SunVillage$Reader", "places", "[I", true)
  | 2 => ("SunVillage$Reader", "numbers", "[I", true)
  | 3 => ("SunVillage$Reader", "last", "I", false)
  | 4 => ("SunVillage$Reader", "at", "I", false)
  | 5 => ("SunVillage$Reader", "fault", "I", false)
  | 6 => ("SunVillage$Reader", "houseCount", "I", false)
  | _ => ("SunVillage$Reader", "text", "LSunVillage$Text;", false)
def tyX3 : Nat → FieldType := fun k => match k with
  | 0 => .array (.object "SunVillage$Token")
  | 1 => .array .int
  | 2 => .array .int
  | 3 => .int
  | 4 => .int
  | 5 => .int
  | 6 => .int
  | _ => .object "SunVillage$Text"
abbrev wsX30 : List Cond := u_ws RX3 TX3 8
theorem nmX3 : ∀ a, a < 8 → ∀ b, b < 8 → a ≠ b → (TX3 a).2.1 ≠ (TX3 b).2.1 := by decide +kernel
theorem tyX3_ok : ∀ k, k < 8 → parseFieldDescriptor (TX3 k).2.2.1 = some (tyX3 k) := by decide +kernel
abbrev cX3_init : ByteArray := prog_5_method_1_code
def yX3_init : MethodName := ⟨RX3, "<init>", "()V"⟩
abbrev cX3_parse : ByteArray := prog_5_method_2_code
def yX3_parse : MethodName := ⟨RX3, "parse", "(LSunVillage$Tape;ILSunVillage$Text;)I"⟩
abbrev cX3_scan : ByteArray := prog_5_method_3_code
def yX3_scan : MethodName := ⟨RX3, "scan", "(LSunVillage$Tape;)V"⟩
abbrev cX3_scanToken : ByteArray := prog_5_method_4_code
def yX3_scanToken : MethodName := ⟨RX3, "scanToken", "(LSunVillage$Tape;II)V"⟩
abbrev cX3_refuse : ByteArray := prog_5_method_5_code
def yX3_refuse : MethodName := ⟨RX3, "refuse", "(I)Z"⟩
abbrev cX3_step : ByteArray := prog_5_method_6_code
def yX3_step : MethodName := ⟨RX3, "step", "()V"⟩
abbrev cX3_take : ByteArray := prog_5_method_7_code
def yX3_take : MethodName := ⟨RX3, "take", "(LSunVillage$Token;)Z"⟩
abbrev cX3_takeOneOf : ByteArray := prog_5_method_8_code
def yX3_takeOneOf : MethodName := ⟨RX3, "takeOneOf", "(LSunVillage$Token;LSunVillage$Token;LSunVillage$Token;)LSunVillage$Token;"⟩
abbrev cX3_takeRest : ByteArray := prog_5_method_9_code
def yX3_takeRest : MethodName := ⟨RX3, "takeRest", "()Z"⟩
abbrev cX3_takeRule : ByteArray := prog_5_method_10_code
def yX3_takeRule : MethodName := ⟨RX3, "takeRule", "()Z"⟩
abbrev cX3_takeAct : ByteArray := prog_5_method_11_code
def yX3_takeAct : MethodName := ⟨RX3, "takeAct", "(LSunVillage$Rule;)Z"⟩
abbrev cX3_takePrice : ByteArray := prog_5_method_12_code
def yX3_takePrice : MethodName := ⟨RX3, "takePrice", "(LSunVillage$Rule;)Z"⟩
abbrev cX3_takeNumber : ByteArray := prog_5_method_13_code
def yX3_takeNumber : MethodName := ⟨RX3, "takeNumber", "(LSunVillage$Rule;II)Z"⟩
abbrev cX3_takeWays : ByteArray := prog_5_method_14_code
def yX3_takeWays : MethodName := ⟨RX3, "takeWays", "(LSunVillage$Rule;)Z"⟩
abbrev cX3_takeWhom : ByteArray := prog_5_method_15_code
def yX3_takeWhom : MethodName := ⟨RX3, "takeWhom", "(LSunVillage$Rule;)Z"⟩
abbrev cX3_takeExpression : ByteArray := prog_5_method_16_code
def yX3_takeExpression : MethodName := ⟨RX3, "takeExpression", "(I)Z"⟩
abbrev cX3_takePart : ByteArray := prog_5_method_17_code
def yX3_takePart : MethodName := ⟨RX3, "takePart", "(I)Z"⟩
def RX4 : String := "SunVillage$Readings"
def TX4 : u_T := fun k => match k with
  | 0 => ("SunVillage$Readings", "house", "[I", true)
  | 1 => ("SunVillage$Readings", "quarter", "[I", true)
  | 2 => ("SunVillage$Readings", "wants", "[I", true)
  | 3 => ("SunVillage$Readings", "gives", "[I", true)
  | 4 => ("SunVillage$Readings", "day", "[I", true)
  | _ => ("SunVillage$Readings", "size", "I", false)
def tyX4 : Nat → FieldType := fun k => match k with
  | 0 => .array .int
  | 1 => .array .int
  | 2 => .array .int
  | 3 => .array .int
  | 4 => .array .int
  | _ => .int
abbrev wsX40 : List Cond := u_ws RX4 TX4 6
theorem nmX4 : ∀ a, a < 6 → ∀ b, b < 6 → a ≠ b → (TX4 a).2.1 ≠ (TX4 b).2.1 := by decide +kernel
theorem tyX4_ok : ∀ k, k < 6 → parseFieldDescriptor (TX4 k).2.2.1 = some (tyX4 k) := by decide +kernel
abbrev cX4_init : ByteArray := prog_6_method_1_code
def yX4_init : MethodName := ⟨RX4, "<init>", "()V"⟩
abbrev cX4_add : ByteArray := prog_6_method_2_code
def yX4_add : MethodName := ⟨RX4, "add", "(IIIII)V"⟩
abbrev cX4_firstTouched : ByteArray := prog_6_method_3_code
def yX4_firstTouched : MethodName := ⟨RX4, "firstTouched", "(II)I"⟩
def RX5 : String := "SunVillage$Rule"
def TX5 : u_T := fun k => match k with
  | 0 => ("SunVillage$Rule", "act", "LSunVillage$Token;", false)
  | 1 => ("SunVillage$Rule", "whenFrom", "I", false)
  | 2 => ("SunVillage$Rule", "whenTo", "I", false)
  | 3 => ("SunVillage$Rule", "amountFrom", "I", false)
  | 4 => ("SunVillage$Rule", "amountTo", "I", false)
  | 5 => ("SunVillage$Rule", "source", "LSunVillage$Token;", false)
  | 6 => ("SunVillage$Rule", "whom", "LSunVillage$Token;", false)
  | 7 => ("SunVillage$Rule", "way", "LSunVillage$Token;", false)
  | 8 => ("SunVillage$Rule", "price", "I", false)
  | _ => ("SunVillage$Rule", "number", "I", false)
def tyX5 : Nat → FieldType := fun k => match k with
  | 0 => .object "SunVillage$Token"
  | 1 => .int
  | 2 => .int
  | 3 => .int
  | 4 => .int
  | 5 => .object "SunVillage$Token"
  | 6 => .object "SunVillage$Token"
  | 7 => .object "SunVillage$Token"
  | 8 => .int
  | _ => .int
abbrev wsX50 : List Cond := u_ws RX5 TX5 10
theorem nmX5 : ∀ a, a < 10 → ∀ b, b < 10 → a ≠ b → (TX5 a).2.1 ≠ (TX5 b).2.1 := by decide +kernel
theorem tyX5_ok : ∀ k, k < 10 → parseFieldDescriptor (TX5 k).2.2.1 = some (tyX5 k) := by decide +kernel
abbrev cX5_init : ByteArray := prog_7_method_1_code
def yX5_init : MethodName := ⟨RX5, "<init>", "()V"⟩
def RX6 : String := "SunVillage$Tape"
def TX6 : u_T := fun k => match k with
  | 0 => ("SunVillage$Tape", "signs", "[C", true)
  | _ => ("SunVillage$Tape", "size", "I", false)
def tyX6 : Nat → FieldType := fun k => match k with
  | 0 => .array .char
  | _ => .int
abbrev wsX60 : List Cond := u_ws RX6 TX6 2
theorem nmX6 : ∀ a, a < 2 → ∀ b, b < 2 → a ≠ b → (TX6 a).2.1 ≠ (TX6 b).2.1 := by decide +kernel
theorem tyX6_ok : ∀ k, k < 2 → parseFieldDescriptor (TX6 k).2.2.1 = some (tyX6 k) := by decide +kernel
abbrev cX6_init : ByteArray := prog_8_method_1_code
def yX6_init : MethodName := ⟨RX6, "<init>", "()V"⟩
abbrev cX6_addBytes : ByteArray := prog_8_method_2_code
def yX6_addBytes : MethodName := ⟨RX6, "addBytes", "(J)V"⟩
abbrev cX6_sort : ByteArray := prog_8_method_3_code
def yX6_sort : MethodName := ⟨RX6, "sort", "(I)I"⟩
abbrev cX6_tokenBegins : ByteArray := prog_8_method_4_code
def yX6_tokenBegins : MethodName := ⟨RX6, "tokenBegins", "(I)Z"⟩
abbrev cX6_tokenEnd : ByteArray := prog_8_method_5_code
def yX6_tokenEnd : MethodName := ⟨RX6, "tokenEnd", "(I)I"⟩
abbrev cX6_numberAt : ByteArray := prog_8_method_6_code
def yX6_numberAt : MethodName := ⟨RX6, "numberAt", "(II)I"⟩
def RX7 : String := "SunVillage$Text"
def TX7 : u_T := fun k => match k with
  | 0 => ("SunVillage$Text", "rules", "[LSunVillage$Rule;", true)
  | 1 => ("SunVillage$Text", "size", "I", false)
  | 2 => ("SunVillage$Text", "rest", "LSunVillage$Token;", false)
  | 3 => ("SunVillage$Text", "code", "[I", true)
  | 4 => ("SunVillage$Text", "codeSize", "I", false)
  | 5 => ("SunVillage$Text", "quarter", "I", false)
  | _ => ("SunVillage$Text", "day", "I", false)
def tyX7 : Nat → FieldType := fun k => match k with
  | 0 => .array (.object "SunVillage$Rule")
  | 1 => .int
  | 2 => .object "SunVillage$Token"
  | 3 => .array .int
  | 4 => .int
  | 5 => .int
  | _ => .int
abbrev wsX70 : List Cond := u_ws RX7 TX7 7
theorem nmX7 : ∀ a, a < 7 → ∀ b, b < 7 → a ≠ b → (TX7 a).2.1 ≠ (TX7 b).2.1 := by decide +kernel
theorem tyX7_ok : ∀ k, k < 7 → parseFieldDescriptor (TX7 k).2.2.1 = some (tyX7 k) := by decide +kernel
abbrev cX7_init : ByteArray := prog_9_method_1_code
def yX7_init : MethodName := ⟨RX7, "<init>", "()V"⟩
abbrev cX7_emit : ByteArray := prog_9_method_2_code
def yX7_emit : MethodName := ⟨RX7, "emit", "(I)V"⟩
def RX8 : String := "SunVillage$Texts"
def TX8 : u_T := fun k => match k with
  | 0 => ("SunVillage$Texts", "items", "[LSunVillage$Text;", true)
  | _ => ("SunVillage$Texts", "size", "I", false)
def tyX8 : Nat → FieldType := fun k => match k with
  | 0 => .array (.object "SunVillage$Text")
  | _ => .int
abbrev wsX80 : List Cond := u_ws RX8 TX8 2
theorem nmX8 : ∀ a, a < 2 → ∀ b, b < 2 → a ≠ b → (TX8 a).2.1 ≠ (TX8 b).2.1 := by decide +kernel
theorem tyX8_ok : ∀ k, k < 2 → parseFieldDescriptor (TX8 k).2.2.1 = some (tyX8 k) := by decide +kernel
abbrev cX8_init : ByteArray := prog_10_method_1_code
def yX8_init : MethodName := ⟨RX8, "<init>", "()V"⟩
abbrev cX8_canTake : ByteArray := prog_10_method_2_code
def yX8_canTake : MethodName := ⟨RX8, "canTake", "(I)Z"⟩
abbrev cX8_add : ByteArray := prog_10_method_3_code
def yX8_add : MethodName := ⟨RX8, "add", "(LSunVillage$Text;II)V"⟩
abbrev cX8_putOnly : ByteArray := prog_10_method_4_code
def yX8_putOnly : MethodName := ⟨RX8, "putOnly", "(LSunVillage$Text;)LSunVillage$Text;"⟩
abbrev cX8_rulesOfLatest : ByteArray := prog_10_method_5_code
def yX8_rulesOfLatest : MethodName := ⟨RX8, "rulesOfLatest", "()I"⟩
abbrev cX8_inForce : ByteArray := prog_10_method_6_code
def yX8_inForce : MethodName := ⟨RX8, "inForce", "(II)LSunVillage$Text;"⟩
abbrev cX8_firstTouched : ByteArray := prog_10_method_7_code
def yX8_firstTouched : MethodName := ⟨RX8, "firstTouched", "(II)I"⟩
def RX9 : String := "SunVillage$Token"
def TX9 : u_T := fun k => match k with
  | _ => ("", "", "", false)
def tyX9 : Nat → FieldType := fun k => match k with
  | _ => .int
abbrev wsX90 : List Cond := u_ws RX9 TX9 0
theorem nmX9 : ∀ a, a < 0 → ∀ b, b < 0 → a ≠ b → (TX9 a).2.1 ≠ (TX9 b).2.1 := by decide +kernel
theorem tyX9_ok : ∀ k, k < 0 → parseFieldDescriptor (TX9 k).2.2.1 = some (tyX9 k) := by decide +kernel
abbrev cX9_spelled : ByteArray := prog_11_method_4_code
def yX9_spelled : MethodName := ⟨RX9, "spelled", "(LSunVillage$Tape;II)LSunVillage$Token;"⟩
abbrev cX9_isSpelled : ByteArray := prog_11_method_5_code
def yX9_isSpelled : MethodName := ⟨RX9, "isSpelled", "(LSunVillage$Tape;II)Z"⟩
abbrev cX9_isOperator : ByteArray := prog_11_method_6_code
def yX9_isOperator : MethodName := ⟨RX9, "isOperator", "()Z"⟩
abbrev cX9_isCompare : ByteArray := prog_11_method_7_code
def yX9_isCompare : MethodName := ⟨RX9, "isCompare", "()Z"⟩
abbrev cX9_beginsPart : ByteArray := prog_11_method_8_code
def yX9_beginsPart : MethodName := ⟨RX9, "beginsPart", "()Z"⟩
abbrev cX9_beginsRule : ByteArray := prog_11_method_9_code
def yX9_beginsRule : MethodName := ⟨RX9, "beginsRule", "()Z"⟩
abbrev cX9_price : ByteArray := prog_11_method_10_code
def yX9_price : MethodName := ⟨RX9, "price", "()I"⟩
def RX10 : String := "SunVillage$Work"
def TX10 : u_T := fun k => match k with
  | 0 => ("SunVillage$Work", "houses", "LSunVillage$Houses;", true)
  | 1 => ("SunVillage$Work", "cap", "I", true)
  | 2 => ("SunVillage$Work", "loss", "I", true)
  | 3 => ("SunVillage$Work", "quarter", "I", false)
  | 4 => ("SunVillage$Work", "pool", "I", false)
  | 5 => ("SunVillage$Work", "store", "I", false)
  | 6 => ("SunVillage$Work", "want", "[I", true)
  | 7 => ("SunVillage$Work", "line", "[I", true)
  | 8 => ("SunVillage$Work", "hadThatDay", "[I", true)
  | 9 => ("SunVillage$Work", "fromPool", "[I", true)
  | 10 => ("SunVillage$Work", "fromStore", "[I", true)
  | 11 => ("SunVillage$Work", "chosen", "[I", true)
  | 12 => ("SunVillage$Work", "chosenSize", "I", false)
  | 13 => ("SunVillage$Work", "isLeast", "[Z", true)
  | 14 => ("SunVillage$Work", "weight", "[I", true)
  | 15 => ("SunVillage$Work", "sides", "[I", true)
  | 16 => ("SunVillage$Work", "watched", "I", false)
  | 17 => ("SunVillage$Work", "watchedFilled", "I", false)
  | 18 => ("SunVillage$Work", "watchedGave", "[I", true)
  | _ => ("SunVillage$Work", "sums", "[I", true)
def tyX10 : Nat → FieldType := fun k => match k with
  | 0 => .object "SunVillage$Houses"
  | 1 => .int
  | 2 => .int
  | 3 => .int
  | 4 => .int
  | 5 => .int
  | 6 => .array .int
  | 7 => .array .int
  | 8 => .array .int
  | 9 => .array .int
  | 10 => .array .int
  | 11 => .array .int
  | 12 => .int
  | 13 => .array .boolean
  | 14 => .array .int
  | 15 => .array .int
  | 16 => .int
  | 17 => .int
  | 18 => .array .int
  | _ => .array .int
abbrev wsX100 : List Cond := u_ws RX10 TX10 20
theorem nmX10 : ∀ a, a < 20 → ∀ b, b < 20 → a ≠ b → (TX10 a).2.1 ≠ (TX10 b).2.1 := by decide +kernel
theorem tyX10_ok : ∀ k, k < 20 → parseFieldDescriptor (TX10 k).2.2.1 = some (tyX10 k) := by decide +kernel
abbrev cX10_init : ByteArray := prog_12_method_1_code
def yX10_init : MethodName := ⟨RX10, "<init>", "(LSunVillage$Houses;II)V"⟩
abbrev cX10_begin : ByteArray := prog_12_method_2_code
def yX10_begin : MethodName := ⟨RX10, "begin", "(III)V"⟩
abbrev cX10_bringIn : ByteArray := prog_12_method_3_code
def yX10_bringIn : MethodName := ⟨RX10, "bringIn", "(IIII)V"⟩
abbrev cX10_apply : ByteArray := prog_12_method_4_code
def yX10_apply : MethodName := ⟨RX10, "apply", "(LSunVillage$Text;I)V"⟩
abbrev cX10_end : ByteArray := prog_12_method_5_code
def yX10_end : MethodName := ⟨RX10, "end", "()V"⟩
abbrev cX10_amount : ByteArray := prog_12_method_6_code
def yX10_amount : MethodName := ⟨RX10, "amount", "(LSunVillage$Text;LSunVillage$Rule;I)I"⟩
abbrev cX10_value : ByteArray := prog_12_method_7_code
def yX10_value : MethodName := ⟨RX10, "value", "(LSunVillage$Text;II)I"⟩
abbrev cX10_joined : ByteArray := prog_12_method_8_code
def yX10_joined : MethodName := ⟨RX10, "joined", "(III)I"⟩
abbrev cX10_measured : ByteArray := prog_12_method_9_code
def yX10_measured : MethodName := ⟨RX10, "measured", "(I)I"⟩
abbrev cX10_wantOfAll : ByteArray := prog_12_method_10_code
def yX10_wantOfAll : MethodName := ⟨RX10, "wantOfAll", "()I"⟩
abbrev cX10_fill : ByteArray := prog_12_method_11_code
def yX10_fill : MethodName := ⟨RX10, "fill", "(II)V"⟩
abbrev cX10_give : ByteArray := prog_12_method_12_code
def yX10_give : MethodName := ⟨RX10, "give", "(LSunVillage$Text;II)V"⟩
abbrev cX10_room : ByteArray := prog_12_method_13_code
def yX10_room : MethodName := ⟨RX10, "room", "(I)I"⟩
abbrev cX10_choose : ByteArray := prog_12_method_14_code
def yX10_choose : MethodName := ⟨RX10, "choose", "(LSunVillage$Rule;)V"⟩
abbrev cX10_keepLeast : ByteArray := prog_12_method_15_code
def yX10_keepLeast : MethodName := ⟨RX10, "keepLeast", "(I)V"⟩
abbrev cX10_chosenAhead : ByteArray := prog_12_method_16_code
def yX10_chosenAhead : MethodName := ⟨RX10, "chosenAhead", "(I)I"⟩
abbrev cX10_weigh : ByteArray := prog_12_method_17_code
def yX10_weigh : MethodName := ⟨RX10, "weigh", "(LSunVillage$Token;)J"⟩
abbrev cX10_hand : ByteArray := prog_12_method_18_code
def yX10_hand : MethodName := ⟨RX10, "hand", "(LSunVillage$Rule;III)V"⟩
abbrev cX10_handRest : ByteArray := prog_12_method_19_code
def yX10_handRest : MethodName := ⟨RX10, "handRest", "(LSunVillage$Text;II)V"⟩
abbrev cX10_handOnes : ByteArray := prog_12_method_20_code
def yX10_handOnes : MethodName := ⟨RX10, "handOnes", "(LSunVillage$Rule;IIII)I"⟩
abbrev cX10_sortByWant : ByteArray := prog_12_method_21_code
def yX10_sortByWant : MethodName := ⟨RX10, "sortByWant", "()V"⟩
def RX11 : String := "SunVillage"
def TX11 : u_T := fun k => match k with
  | 0 => ("SunVillage", "houses", "LSunVillage$Houses;", true)
  | 1 => ("SunVillage", "readings", "LSunVillage$Readings;", true)
  | 2 => ("SunVillage", "tape", "LSunVillage$Tape;", true)
  | 3 => ("SunVillage", "reader", "LSunVillage$Reader;", true)
  | 4 => ("SunVillage", "work", "LSunVillage$Work;", true)
  | 5 => ("SunVillage", "texts", "LSunVillage$Texts;", true)
  | 6 => ("SunVillage", "book", "LSunVillage$Book;", true)
  | 7 => ("SunVillage", "bills", "LSunVillage$Bills;", true)
  | 8 => ("SunVillage", "alone", "LSunVillage$Texts;", true)
  | 9 => ("SunVillage", "otherBook", "LSunVillage$Book;", false)
  | 10 => ("SunVillage", "draft", "LSunVillage$Text;", false)
  | 11 => ("SunVillage", "now", "I", false)
  | _ => ("SunVillage", "lookDay", "I", false)
def tyX11 : Nat → FieldType := fun k => match k with
  | 0 => .object "SunVillage$Houses"
  | 1 => .object "SunVillage$Readings"
  | 2 => .object "SunVillage$Tape"
  | 3 => .object "SunVillage$Reader"
  | 4 => .object "SunVillage$Work"
  | 5 => .object "SunVillage$Texts"
  | 6 => .object "SunVillage$Book"
  | 7 => .object "SunVillage$Bills"
  | 8 => .object "SunVillage$Texts"
  | 9 => .object "SunVillage$Book"
  | 10 => .object "SunVillage$Text"
  | 11 => .int
  | _ => .int
abbrev wsX110 : List Cond := u_ws RX11 TX11 13
theorem nmX11 : ∀ a, a < 13 → ∀ b, b < 13 → a ≠ b → (TX11 a).2.1 ≠ (TX11 b).2.1 := by decide +kernel
theorem tyX11_ok : ∀ k, k < 13 → parseFieldDescriptor (TX11 k).2.2.1 = some (tyX11 k) := by decide +kernel
abbrev cX11_init : ByteArray := prog_1_method_1_code
def yX11_init : MethodName := ⟨RX11, "<init>", "(II)V"⟩
abbrev cX11_house : ByteArray := prog_1_method_2_code
def yX11_house : MethodName := ⟨RX11, "house", "(II)I"⟩
abbrev cX11_read : ByteArray := prog_1_method_3_code
def yX11_read : MethodName := ⟨RX11, "read", "(IIII)Z"⟩
abbrev cX11_days : ByteArray := prog_1_method_4_code
def yX11_days : MethodName := ⟨RX11, "days", "(I)I"⟩
abbrev cX11_feed : ByteArray := prog_1_method_5_code
def yX11_feed : MethodName := ⟨RX11, "feed", "(JJJ)I"⟩
abbrev cX11_text : ByteArray := prog_1_method_6_code
def yX11_text : MethodName := ⟨RX11, "text", "(I)I"⟩
abbrev cX11_other : ByteArray := prog_1_method_7_code
def yX11_other : MethodName := ⟨RX11, "other", "()I"⟩
abbrev cX11_known : ByteArray := prog_1_method_8_code
def yX11_known : MethodName := ⟨RX11, "known", "(I)Z"⟩
abbrev cX11_had : ByteArray := prog_1_method_9_code
def yX11_had : MethodName := ⟨RX11, "had", "(III)I"⟩
abbrev cX11_quarter : ByteArray := prog_1_method_10_code
def yX11_quarter : MethodName := ⟨RX11, "quarter", "(II)I"⟩
abbrev cX11_by : ByteArray := prog_1_method_11_code
def yX11_by : MethodName := ⟨RX11, "by", "(III)I"⟩
abbrev cX11_would : ByteArray := prog_1_method_12_code
def yX11_would : MethodName := ⟨RX11, "would", "(II)I"⟩
abbrev cX11_bills : ByteArray := prog_1_method_13_code
def yX11_bills : MethodName := ⟨RX11, "bills", "()I"⟩
abbrev cX11_bill : ByteArray := prog_1_method_14_code
def yX11_bill : MethodName := ⟨RX11, "bill", "(II)I"⟩
abbrev cX11_count : ByteArray := prog_1_method_15_code
def yX11_count : MethodName := ⟨RX11, "count", "(I)I"⟩
abbrev cX11_dayOfLooks : ByteArray := prog_1_method_16_code
def yX11_dayOfLooks : MethodName := ⟨RX11, "dayOfLooks", "()I"⟩
abbrev cX11_isIn : ByteArray := prog_1_method_17_code
def yX11_isIn : MethodName := ⟨RX11, "isIn", "(III)Z"⟩
abbrev cX11_isQuarter : ByteArray := prog_1_method_18_code
def yX11_isQuarter : MethodName := ⟨RX11, "isQuarter", "(I)Z"⟩
def RX12 : String := "SunVillageModel"
def TX12 : u_T := fun k => match k with
  | 0 => ("SunVillageModel", "thrown", "I", false)
  | 1 => ("SunVillageModel", "tape", "[I", true)
  | 2 => ("SunVillageModel", "taped", "I", false)
  | 3 => ("SunVillageModel", "size", "I", false)
  | 4 => ("SunVillageModel", "sort", "[I", true)
  | 5 => ("SunVillageModel", "place", "[I", true)
  | 6 => ("SunVillageModel", "value", "[J", true)
  | 7 => ("SunVillageModel", "at", "I", false)
  | 8 => ("SunVillageModel", "fault", "I", false)
  | 9 => ("SunVillageModel", "words", "[J", true)
  | 10 => ("SunVillageModel", "rules", "[I", true)
  | 11 => ("SunVillageModel", "how", "[I", true)
  | 12 => ("SunVillageModel", "when", "[I", true)
  | 13 => ("SunVillageModel", "act", "[I", true)
  | 14 => ("SunVillageModel", "amount", "[I", true)
  | 15 => ("SunVillageModel", "source", "[I", true)
  | 16 => ("SunVillageModel", "whom", "[I", true)
  | 17 => ("SunVillageModel", "whomN", "[I", true)
  | 18 => ("SunVillageModel", "way", "[I", true)
  | 19 => ("SunVillageModel", "op", "[I", true)
  | 20 => ("SunVillageModel", "one", "[I", true)
  | 21 => ("SunVillageModel", "codes", "[I", true)
  | 22 => ("SunVillageModel", "texts", "I", false)
  | 23 => ("SunVillageModel", "inForce", "[I", true)
  | 24 => ("SunVillageModel", "textDay", "[I", true)
  | 25 => ("SunVillageModel", "hasOther", "Z", false)
  | 26 => ("SunVillageModel", "deep", "I", false)
  | 27 => ("SunVillageModel", "sumWaits", "[I", true)
  | 28 => ("SunVillageModel", "signWaits", "[I", true)
  | 29 => ("SunVillageModel", "cap", "I", true)
  | 30 => ("SunVillageModel", "loss", "I", true)
  | 31 => ("SunVillageModel", "houses", "I", false)
  | 32 => ("SunVillageModel", "share", "[I", true)
  | 33 => ("SunVillageModel", "bears", "[I", true)
  | 34 => ("SunVillageModel", "readings", "I", false)
  | 35 => ("SunVillageModel", "readHouse", "[I", true)
  | 36 => ("SunVillageModel", "readQuarter", "[I", true)
  | 37 => ("SunVillageModel", "readWants", "[I", true)
  | 38 => ("SunVillageModel", "readGives", "[I", true)
  | 39 => ("SunVillageModel", "readDay", "[I", true)
  | 40 => ("SunVillageModel", "now", "I", false)
  | 41 => ("SunVillageModel", "asOf", "I", false)
  | 42 => ("SunVillageModel", "knownDay", "I", false)
  | 43 => ("SunVillageModel", "q", "I", false)
  | 44 => ("SunVillageModel", "inText", "I", false)
  | 45 => ("SunVillageModel", "store", "I", false)
  | 46 => ("SunVillageModel", "pool", "I", false)
  | 47 => ("SunVillageModel", "price", "[I", true)
  | 48 => ("SunVillageModel", "wants", "[I", true)
  | 49 => ("SunVillageModel", "gives", "[I", true)
  | 50 => ("SunVillageModel", "doubt", "[I", true)
  | 51 => ("SunVillageModel", "own", "[I", true)
  | 52 => ("SunVillageModel", "want", "[I", true)
  | 53 => ("SunVillageModel", "line", "[I", true)
  | 54 => ("SunVillageModel", "gift", "[I", true)
  | 55 => ("SunVillageModel", "fromPool", "[I", true)
  | 56 => ("SunVillageModel", "fromStore", "[I", true)
  | 57 => ("SunVillageModel", "bought", "[I", true)
  | 58 => ("SunVillageModel", "dayGiven", "[I", true)
  | 59 => ("SunVillageModel", "coins", "[I", true)
  | 60 => ("SunVillageModel", "poolFirst", "I", false)
  | 61 => ("SunVillageModel", "filled", "I", false)
  | 62 => ("SunVillageModel", "lost", "I", false)
  | 63 => ("SunVillageModel", "sold", "I", false)
  | 64 => ("SunVillageModel", "left", "I", false)
  | 65 => ("SunVillageModel", "townCoins", "I", false)
  | 66 => ("SunVillageModel", "potCoins", "I", false)
  | 67 => ("SunVillageModel", "byRule", "[I", true)
  | 68 => ("SunVillageModel", "sums", "[I", true)
  | 69 => ("SunVillageModel", "pile", "[I", true)
  | 70 => ("SunVillageModel", "is", "[Z", true)
  | 71 => ("SunVillageModel", "gets", "[I", true)
  | 72 => ("SunVillageModel", "weight", "[I", true)
  | 73 => ("SunVillageModel", "billed", "I", false)
  | _ => ("SunVillageModel", "bill", "[I", true)
def tyX12 : Nat → FieldType := fun k => match k with
  | 0 => .int
  | 1 => .array .int
  | 2 => .int
  | 3 => .int
  | 4 => .array .int
  | 5 => .array .int
  | 6 => .array .long
  | 7 => .int
  | 8 => .int
  | 9 => .array .long
  | 10 => .array .int
  | 11 => .array .int
  | 12 => .array .int
  | 13 => .array .int
  | 14 => .array .int
  | 15 => .array .int
  | 16 => .array .int
  | 17 => .array .int
  | 18 => .array .int
  | 19 => .array .int
  | 20 => .array .int
  | 21 => .array .int
  | 22 => .int
  | 23 => .array .int
  | 24 => .array .int
  | 25 => .boolean
  | 26 => .int
  | 27 => .array .int
  | 28 => .array .int
  | 29 => .int
  | 30 => .int
  | 31 => .int
  | 32 => .array .int
  | 33 => .array .int
  | 34 => .int
  | 35 => .array .int
  | 36 => .array .int
  | 37 => .array .int
  | 38 => .array .int
  | 39 => .array .int
  | 40 => .int
  | 41 => .int
  | 42 => .int
  | 43 => .int
  | 44 => .int
  | 45 => .int
  | 46 => .int
  | 47 => .array .int
  | 48 => .array .int
  | 49 => .array .int
  | 50 => .array .int
  | 51 => .array .int
  | 52 => .array .int
  | 53 => .array .int
  | 54 => .array .int
  | 55 => .array .int
  | 56 => .array .int
  | 57 => .array .int
  | 58 => .array .int
  | 59 => .array .int
  | 60 => .int
  | 61 => .int
  | 62 => .int
  | 63 => .int
  | 64 => .int
  | 65 => .int
  | 66 => .int
  | 67 => .array .int
  | 68 => .array .int
  | 69 => .array .int
  | 70 => .array .boolean
  | 71 => .array .int
  | 72 => .array .int
  | 73 => .int
  | _ => .array .int
abbrev wsX120 : List Cond := u_ws RX12 TX12 75
theorem nmX12 : ∀ a, a < 75 → ∀ b, b < 75 → a ≠ b → (TX12 a).2.1 ≠ (TX12 b).2.1 := by decide +kernel
theorem tyX12_ok : ∀ k, k < 75 → parseFieldDescriptor (TX12 k).2.2.1 = some (tyX12 k) := by decide +kernel
abbrev cX12_thrown : ByteArray := prog_14_method_1_code
def yX12_thrown : MethodName := ⟨RX12, "thrown", "()I"⟩
abbrev cX12_feed : ByteArray := prog_14_method_2_code
def yX12_feed : MethodName := ⟨RX12, "feed", "(JJJ)I"⟩
abbrev cX12_lay : ByteArray := prog_14_method_3_code
def yX12_lay : MethodName := ⟨RX12, "lay", "(J)V"⟩
abbrev cX12_init : ByteArray := prog_14_method_4_code
def yX12_init : MethodName := ⟨RX12, "<init>", "(II)V"⟩
abbrev cX12_isLetter : ByteArray := prog_14_method_5_code
def yX12_isLetter : MethodName := ⟨RX12, "isLetter", "(I)Z"⟩
abbrev cX12_isDigit : ByteArray := prog_14_method_6_code
def yX12_isDigit : MethodName := ⟨RX12, "isDigit", "(I)Z"⟩
abbrev cX12_rank : ByteArray := prog_14_method_7_code
def yX12_rank : MethodName := ⟨RX12, "rank", "(I)I"⟩
abbrev cX12_isSignOf : ByteArray := prog_14_method_8_code
def yX12_isSignOf : MethodName := ⟨RX12, "isSignOf", "(I)Z"⟩
abbrev cX12_cutAll : ByteArray := prog_14_method_9_code
def yX12_cutAll : MethodName := ⟨RX12, "cutAll", "()V"⟩
abbrev cX12_wrong : ByteArray := prog_14_method_10_code
def yX12_wrong : MethodName := ⟨RX12, "wrong", "(I)V"⟩
abbrev cX12_isSign : ByteArray := prog_14_method_11_code
def yX12_isSign : MethodName := ⟨RX12, "isSign", "(I)Z"⟩
abbrev cX12_isWord : ByteArray := prog_14_method_12_code
def yX12_isWord : MethodName := ⟨RX12, "isWord", "(I)Z"⟩
abbrev cX12_takeSign : ByteArray := prog_14_method_13_code
def yX12_takeSign : MethodName := ⟨RX12, "takeSign", "(I)V"⟩
abbrev cX12_hasSign : ByteArray := prog_14_method_14_code
def yX12_hasSign : MethodName := ⟨RX12, "hasSign", "(I)Z"⟩
abbrev cX12_hasWord : ByteArray := prog_14_method_15_code
def yX12_hasWord : MethodName := ⟨RX12, "hasWord", "(I)Z"⟩
abbrev cX12_takeWord : ByteArray := prog_14_method_16_code
def yX12_takeWord : MethodName := ⟨RX12, "takeWord", "(I)V"⟩
abbrev cX12_takeNumber : ByteArray := prog_14_method_17_code
def yX12_takeNumber : MethodName := ⟨RX12, "takeNumber", "(II)I"⟩
abbrev cX12_oneOf : ByteArray := prog_14_method_18_code
def yX12_oneOf : MethodName := ⟨RX12, "oneOf", "(II)I"⟩
abbrev cX12_emit : ByteArray := prog_14_method_19_code
def yX12_emit : MethodName := ⟨RX12, "emit", "(II)V"⟩
abbrev cX12_readText : ByteArray := prog_14_method_20_code
def yX12_readText : MethodName := ⟨RX12, "readText", "()V"⟩
abbrev cX12_isRule : ByteArray := prog_14_method_21_code
def yX12_isRule : MethodName := ⟨RX12, "isRule", "()Z"⟩
abbrev cX12_readRule : ByteArray := prog_14_method_22_code
def yX12_readRule : MethodName := ⟨RX12, "readRule", "()V"⟩
abbrev cX12_readAmount : ByteArray := prog_14_method_23_code
def yX12_readAmount : MethodName := ⟨RX12, "readAmount", "(I)V"⟩
abbrev cX12_readWhom : ByteArray := prog_14_method_24_code
def yX12_readWhom : MethodName := ⟨RX12, "readWhom", "(I)V"⟩
abbrev cX12_code : ByteArray := prog_14_method_25_code
def yX12_code : MethodName := ⟨RX12, "code", "()I"⟩
abbrev cX12_opens : ByteArray := prog_14_method_26_code
def yX12_opens : MethodName := ⟨RX12, "opens", "()V"⟩
abbrev cX12_expression : ByteArray := prog_14_method_27_code
def yX12_expression : MethodName := ⟨RX12, "expression", "()V"⟩
abbrev cX12_isPart : ByteArray := prog_14_method_28_code
def yX12_isPart : MethodName := ⟨RX12, "isPart", "()Z"⟩
abbrev cX12_part : ByteArray := prog_14_method_29_code
def yX12_part : MethodName := ⟨RX12, "part", "()Z"⟩
abbrev cX12_goesOn : ByteArray := prog_14_method_30_code
def yX12_goesOn : MethodName := ⟨RX12, "goesOn", "()Z"⟩
abbrev cX12_keep : ByteArray := prog_14_method_31_code
def yX12_keep : MethodName := ⟨RX12, "keep", "(I)V"⟩
abbrev cX12_text : ByteArray := prog_14_method_32_code
def yX12_text : MethodName := ⟨RX12, "text", "(I)I"⟩
abbrev cX12_other : ByteArray := prog_14_method_33_code
def yX12_other : MethodName := ⟨RX12, "other", "()I"⟩
abbrev cX12_house : ByteArray := prog_14_method_34_code
def yX12_house : MethodName := ⟨RX12, "house", "(II)I"⟩
abbrev cX12_read : ByteArray := prog_14_method_35_code
def yX12_read : MethodName := ⟨RX12, "read", "(IIII)Z"⟩
abbrev cX12_days : ByteArray := prog_14_method_36_code
def yX12_days : MethodName := ⟨RX12, "days", "(I)I"⟩
abbrev cX12_known : ByteArray := prog_14_method_37_code
def yX12_known : MethodName := ⟨RX12, "known", "(I)Z"⟩
abbrev cX12_works : ByteArray := prog_14_method_38_code
def yX12_works : MethodName := ⟨RX12, "works", "(IIZ)V"⟩
abbrev cX12_quarterBegins : ByteArray := prog_14_method_39_code
def yX12_quarterBegins : MethodName := ⟨RX12, "quarterBegins", "(Z)V"⟩
abbrev cX12_quarterEnds : ByteArray := prog_14_method_40_code
def yX12_quarterEnds : MethodName := ⟨RX12, "quarterEnds", "()V"⟩
abbrev cX12_worth : ByteArray := prog_14_method_41_code
def yX12_worth : MethodName := ⟨RX12, "worth", "(I)I"⟩
abbrev cX12_partOf : ByteArray := prog_14_method_42_code
def yX12_partOf : MethodName := ⟨RX12, "partOf", "(I)I"⟩
abbrev cX12_rule : ByteArray := prog_14_method_43_code
def yX12_rule : MethodName := ⟨RX12, "rule", "(I)V"⟩
abbrev cX12_can : ByteArray := prog_14_method_44_code
def yX12_can : MethodName := ⟨RX12, "can", "(I)Z"⟩
abbrev cX12_chooses : ByteArray := prog_14_method_45_code
def yX12_chooses : MethodName := ⟨RX12, "chooses", "(I)I"⟩
abbrev cX12_givesBy : ByteArray := prog_14_method_46_code
def yX12_givesBy : MethodName := ⟨RX12, "givesBy", "(II)V"⟩
abbrev cX12_least : ByteArray := prog_14_method_47_code
def yX12_least : MethodName := ⟨RX12, "least", "(II)I"⟩
abbrev cX12_hands : ByteArray := prog_14_method_48_code
def yX12_hands : MethodName := ⟨RX12, "hands", "(IIII)V"⟩
abbrev cX12_oneByOne : ByteArray := prog_14_method_49_code
def yX12_oneByOne : MethodName := ⟨RX12, "oneByOne", "(III)V"⟩
abbrev cX12_nextOf : ByteArray := prog_14_method_50_code
def yX12_nextOf : MethodName := ⟨RX12, "nextOf", "()I"⟩
abbrev cX12_lookDay : ByteArray := prog_14_method_51_code
def yX12_lookDay : MethodName := ⟨RX12, "lookDay", "()I"⟩
abbrev cX12_had : ByteArray := prog_14_method_52_code
def yX12_had : MethodName := ⟨RX12, "had", "(III)I"⟩
abbrev cX12_quarter : ByteArray := prog_14_method_53_code
def yX12_quarter : MethodName := ⟨RX12, "quarter", "(II)I"⟩
abbrev cX12_by : ByteArray := prog_14_method_54_code
def yX12_by : MethodName := ⟨RX12, "by", "(III)I"⟩
abbrev cX12_would : ByteArray := prog_14_method_55_code
def yX12_would : MethodName := ⟨RX12, "would", "(II)I"⟩
abbrev cX12_bills : ByteArray := prog_14_method_56_code
def yX12_bills : MethodName := ⟨RX12, "bills", "()I"⟩
abbrev cX12_bill : ByteArray := prog_14_method_57_code
def yX12_bill : MethodName := ⟨RX12, "bill", "(II)I"⟩
abbrev cX12_count : ByteArray := prog_14_method_58_code
def yX12_count : MethodName := ⟨RX12, "count", "(I)I"⟩
def RJx29ce0 : String := "java/lang/Enum"
def TJx29ce0 : u_T := fun k => match k with
  | _ => ("", "", "", false)
def tyJx29ce0 : Nat → FieldType := fun k => match k with
  | _ => .int
abbrev wsJx29ce00 : List Cond := u_ws RJx29ce0 TJx29ce0 0
theorem nmJx29ce0 : ∀ a, a < 0 → ∀ b, b < 0 → a ≠ b → (TJx29ce0 a).2.1 ≠ (TJx29ce0 b).2.1 := by decide +kernel
theorem tyJx29ce0_ok : ∀ k, k < 0 → parseFieldDescriptor (TJx29ce0 k).2.2.1 = some (tyJx29ce0 k) := by decide +kernel
def RJ9 : String := "java/lang/Math"
def TJ9 : u_T := fun k => match k with
  | _ => ("", "", "", false)
def tyJ9 : Nat → FieldType := fun k => match k with
  | _ => .int
abbrev wsJ90 : List Cond := u_ws RJ9 TJ9 0
theorem nmJ9 : ∀ a, a < 0 → ∀ b, b < 0 → a ≠ b → (TJ9 a).2.1 ≠ (TJ9 b).2.1 := by decide +kernel
theorem tyJ9_ok : ∀ k, k < 0 → parseFieldDescriptor (TJ9 k).2.2.1 = some (tyJ9 k) := by decide +kernel
abbrev cJ9_max_7cf53 : ByteArray := prog_17_method_65_code
def yJ9_max_7cf53 : MethodName := ⟨RJ9, "max", "(II)I"⟩
abbrev cJ9_min_7cf53 : ByteArray := prog_17_method_69_code
def yJ9_min_7cf53 : MethodName := ⟨RJ9, "min", "(II)I"⟩
abbrev cJ9_min_f86c9 : ByteArray := prog_17_method_70_code
def yJ9_min_f86c9 : MethodName := ⟨RJ9, "min", "(JJ)J"⟩
def RJ0 : String := "java/lang/String"
def TJ0 : u_T := fun k => match k with
  | _ => ("", "", "", false)
def tyJ0 : Nat → FieldType := fun k => match k with
  | _ => .int
abbrev wsJ00 : List Cond := u_ws RJ0 TJ0 0
theorem nmJ0 : ∀ a, a < 0 → ∀ b, b < 0 → a ≠ b → (TJ0 a).2.1 ≠ (TJ0 b).2.1 := by decide +kernel
theorem tyJ0_ok : ∀ k, k < 0 → parseFieldDescriptor (TJ0 k).2.2.1 = some (tyJ0 k) := by decide +kernel
abbrev cJ0_length_8abf5 : ByteArray := prog_19_method_54_code
def yJ0_length_8abf5 : MethodName := ⟨RJ0, "length", "()I"⟩
abbrev cJ0_charAt_5068e : ByteArray := prog_19_method_56_code
def yJ0_charAt_5068e : MethodName := ⟨RJ0, "charAt", "(I)C"⟩
abbrev cJ0_coder_7d493 : ByteArray := prog_19_method_152_code
def yJ0_coder_7d493 : MethodName := ⟨RJ0, "coder", "()B"⟩
abbrev cJ0_isLatin1_aae02 : ByteArray := prog_19_method_154_code
def yJ0_isLatin1_aae02 : MethodName := ⟨RJ0, "isLatin1", "()Z"⟩
abbrev cJ0_checkIndex_df160 : ByteArray := prog_19_method_155_code
def yJ0_checkIndex_df160 : MethodName := ⟨RJ0, "checkIndex", "(II)V"⟩
def RJ1 : String := "java/lang/StringLatin1"
def TJ1 : u_T := fun k => match k with
  | _ => ("", "", "", false)
def tyJ1 : Nat → FieldType := fun k => match k with
  | _ => .int
abbrev wsJ10 : List Cond := u_ws RJ1 TJ1 0
theorem nmJ1 : ∀ a, a < 0 → ∀ b, b < 0 → a ≠ b → (TJ1 a).2.1 ≠ (TJ1 b).2.1 := by decide +kernel
theorem tyJ1_ok : ∀ k, k < 0 → parseFieldDescriptor (TJ1 k).2.2.1 = some (tyJ1 k) := by decide +kernel
abbrev cJ1_charAt_3b067 : ByteArray := prog_20_method_2_code
def yJ1_charAt_3b067 : MethodName := ⟨RJ1, "charAt", "([BI)C"⟩
def RJ2 : String := "java/lang/StringUTF16"
def TJ2 : u_T := fun k => match k with
  | _ => ("", "", "", false)
def tyJ2 : Nat → FieldType := fun k => match k with
  | _ => .int
abbrev wsJ20 : List Cond := u_ws RJ2 TJ2 0
theorem nmJ2 : ∀ a, a < 0 → ∀ b, b < 0 → a ≠ b → (TJ2 a).2.1 ≠ (TJ2 b).2.1 := by decide +kernel
theorem tyJ2_ok : ∀ k, k < 0 → parseFieldDescriptor (TJ2 k).2.2.1 = some (tyJ2 k) := by decide +kernel
abbrev cJ2_getChar_3b067 : ByteArray := prog_21_method_5_code
def yJ2_getChar_3b067 : MethodName := ⟨RJ2, "getChar", "([BI)C"⟩
abbrev cJ2_length_9d52b : ByteArray := prog_21_method_6_code
def yJ2_length_9d52b : MethodName := ⟨RJ2, "length", "([B)I"⟩
abbrev cJ2_charAt_3b067 : ByteArray := prog_21_method_83_code
def yJ2_charAt_3b067 : MethodName := ⟨RJ2, "charAt", "([BI)C"⟩
abbrev cJ2_checkIndex_2214a : ByteArray := prog_21_method_91_code
def yJ2_checkIndex_2214a : MethodName := ⟨RJ2, "checkIndex", "(I[B)V"⟩
def RJ10 : String := "java/lang/System"
def TJ10 : u_T := fun k => match k with
  | _ => ("", "", "", false)
def tyJ10 : Nat → FieldType := fun k => match k with
  | _ => .int
abbrev wsJ100 : List Cond := u_ws RJ10 TJ10 0
theorem nmJ10 : ∀ a, a < 0 → ∀ b, b < 0 → a ≠ b → (TJ10 a).2.1 ≠ (TJ10 b).2.1 := by decide +kernel
theorem tyJ10_ok : ∀ k, k < 0 → parseFieldDescriptor (TJ10 k).2.2.1 = some (tyJ10 k) := by decide +kernel
def RJ3 : String := "jdk/internal/util/Preconditions"
def TJ3 : u_T := fun k => match k with
  | _ => ("", "", "", false)
def tyJ3 : Nat → FieldType := fun k => match k with
  | _ => .int
abbrev wsJ30 : List Cond := u_ws RJ3 TJ3 0
theorem nmJ3 : ∀ a, a < 0 → ∀ b, b < 0 → a ≠ b → (TJ3 a).2.1 ≠ (TJ3 b).2.1 := by decide +kernel
theorem tyJ3_ok : ∀ k, k < 0 → parseFieldDescriptor (TJ3 k).2.2.1 = some (tyJ3 k) := by decide +kernel
abbrev cJ3_checkIndex_8e157 : ByteArray := prog_25_method_11_code
def yJ3_checkIndex_8e157 : MethodName := ⟨RJ3, "checkIndex", "(IILjava/util/function/BiFunction;)I"⟩
def RL : String := "SunVillageLaw"
abbrev cL_cell : ByteArray := method_2_code
def yL_cell : MethodName := ⟨RL, "cell", "([II)I"⟩
abbrev cL_had : ByteArray := method_3_code
def yL_had : MethodName := ⟨RL, "had", "(LSunVillage;III[J)I"⟩
abbrev cL_quarter : ByteArray := method_4_code
def yL_quarter : MethodName := ⟨RL, "quarter", "(LSunVillage;II[J)I"⟩
abbrev cL_bill : ByteArray := method_5_code
def yL_bill : MethodName := ⟨RL, "bill", "(LSunVillage;II[J)I"⟩
abbrev cL_law : ByteArray := code
def yL_law : MethodName := ⟨RL, "law", "([I)Z"⟩
