section
/-- a private method of a class that the tables say can be made, by its rows of tables_1 -/
def lw_okq (q : MethodName × Nat) : Prop := (q.1.cls ≠ "java/lang/invoke/MethodHandle" ∧ q.1.cls ≠ "java/lang/invoke/VarHandle") ∧ Cond.instantiable q.1.cls q.2 ∈ tables_1 ∧ Cond.privateMethod q.1 ∈ tables_1 ∧ Cond.instanceMethod q.1 ∈ tables_1
theorem lw_p0 : lw_okq (⟨"SunVillage$Reader", "scan", "(LSunVillage$Tape;)V"⟩, 8) := ⟨⟨by decide +kernel, by decide +kernel⟩, List.mem_of_getElem? (i := 106) (by decide +kernel), List.mem_of_getElem? (i := 470) (by decide +kernel), List.mem_of_getElem? (i := 471) (by decide +kernel)⟩
theorem lw_p1 : lw_okq (⟨"SunVillage$Reader", "scanToken", "(LSunVillage$Tape;II)V"⟩, 8) := ⟨⟨by decide +kernel, by decide +kernel⟩, List.mem_of_getElem? (i := 106) (by decide +kernel), List.mem_of_getElem? (i := 486) (by decide +kernel), List.mem_of_getElem? (i := 487) (by decide +kernel)⟩
theorem lw_p2 : lw_okq (⟨"SunVillage$Token", "isSpelled", "(LSunVillage$Tape;II)Z"⟩, 5) := ⟨⟨by decide +kernel, by decide +kernel⟩, List.mem_of_getElem? (i := 498) (by decide +kernel), List.mem_of_getElem? (i := 496) (by decide +kernel), List.mem_of_getElem? (i := 497) (by decide +kernel)⟩
theorem lw_p3 : lw_okq (⟨"SunVillage$Reader", "takeRule", "()Z"⟩, 8) := ⟨⟨by decide +kernel, by decide +kernel⟩, List.mem_of_getElem? (i := 106) (by decide +kernel), List.mem_of_getElem? (i := 562) (by decide +kernel), List.mem_of_getElem? (i := 563) (by decide +kernel)⟩
theorem lw_p4 : lw_okq (⟨"SunVillage$Reader", "refuse", "(I)Z"⟩, 8) := ⟨⟨by decide +kernel, by decide +kernel⟩, List.mem_of_getElem? (i := 106) (by decide +kernel), List.mem_of_getElem? (i := 578) (by decide +kernel), List.mem_of_getElem? (i := 579) (by decide +kernel)⟩
theorem lw_p5 : lw_okq (⟨"SunVillage$Reader", "step", "()V"⟩, 8) := ⟨⟨by decide +kernel, by decide +kernel⟩, List.mem_of_getElem? (i := 106) (by decide +kernel), List.mem_of_getElem? (i := 583) (by decide +kernel), List.mem_of_getElem? (i := 584) (by decide +kernel)⟩
theorem lw_p6 : lw_okq (⟨"SunVillage$Reader", "takeExpression", "(I)Z"⟩, 8) := ⟨⟨by decide +kernel, by decide +kernel⟩, List.mem_of_getElem? (i := 106) (by decide +kernel), List.mem_of_getElem? (i := 587) (by decide +kernel), List.mem_of_getElem? (i := 588) (by decide +kernel)⟩
theorem lw_p7 : lw_okq (⟨"SunVillage$Reader", "takePart", "(I)Z"⟩, 8) := ⟨⟨by decide +kernel, by decide +kernel⟩, List.mem_of_getElem? (i := 106) (by decide +kernel), List.mem_of_getElem? (i := 591) (by decide +kernel), List.mem_of_getElem? (i := 592) (by decide +kernel)⟩
theorem lw_p8 : lw_okq (⟨"SunVillage$Reader", "take", "(LSunVillage$Token;)Z"⟩, 8) := ⟨⟨by decide +kernel, by decide +kernel⟩, List.mem_of_getElem? (i := 106) (by decide +kernel), List.mem_of_getElem? (i := 611) (by decide +kernel), List.mem_of_getElem? (i := 612) (by decide +kernel)⟩
theorem lw_p9 : lw_okq (⟨"SunVillage$Reader", "takeAct", "(LSunVillage$Rule;)Z"⟩, 8) := ⟨⟨by decide +kernel, by decide +kernel⟩, List.mem_of_getElem? (i := 106) (by decide +kernel), List.mem_of_getElem? (i := 628) (by decide +kernel), List.mem_of_getElem? (i := 629) (by decide +kernel)⟩
theorem lw_p10 : lw_okq (⟨"SunVillage$Reader", "takeOneOf", "(LSunVillage$Token;LSunVillage$Token;LSunVillage$Token;)LSunVillage$Token;"⟩, 8) := ⟨⟨by decide +kernel, by decide +kernel⟩, List.mem_of_getElem? (i := 106) (by decide +kernel), List.mem_of_getElem? (i := 635) (by decide +kernel), List.mem_of_getElem? (i := 636) (by decide +kernel)⟩
theorem lw_p11 : lw_okq (⟨"SunVillage$Reader", "takePrice", "(LSunVillage$Rule;)Z"⟩, 8) := ⟨⟨by decide +kernel, by decide +kernel⟩, List.mem_of_getElem? (i := 106) (by decide +kernel), List.mem_of_getElem? (i := 639) (by decide +kernel), List.mem_of_getElem? (i := 640) (by decide +kernel)⟩
theorem lw_p12 : lw_okq (⟨"SunVillage$Reader", "takeNumber", "(LSunVillage$Rule;II)Z"⟩, 8) := ⟨⟨by decide +kernel, by decide +kernel⟩, List.mem_of_getElem? (i := 106) (by decide +kernel), List.mem_of_getElem? (i := 655) (by decide +kernel), List.mem_of_getElem? (i := 656) (by decide +kernel)⟩
theorem lw_p13 : lw_okq (⟨"SunVillage$Reader", "takeWays", "(LSunVillage$Rule;)Z"⟩, 8) := ⟨⟨by decide +kernel, by decide +kernel⟩, List.mem_of_getElem? (i := 106) (by decide +kernel), List.mem_of_getElem? (i := 662) (by decide +kernel), List.mem_of_getElem? (i := 663) (by decide +kernel)⟩
theorem lw_p14 : lw_okq (⟨"SunVillage$Reader", "takeWhom", "(LSunVillage$Rule;)Z"⟩, 8) := ⟨⟨by decide +kernel, by decide +kernel⟩, List.mem_of_getElem? (i := 106) (by decide +kernel), List.mem_of_getElem? (i := 672) (by decide +kernel), List.mem_of_getElem? (i := 673) (by decide +kernel)⟩
theorem lw_p15 : lw_okq (⟨"SunVillage$Reader", "takeRest", "()Z"⟩, 8) := ⟨⟨by decide +kernel, by decide +kernel⟩, List.mem_of_getElem? (i := 106) (by decide +kernel), List.mem_of_getElem? (i := 690) (by decide +kernel), List.mem_of_getElem? (i := 691) (by decide +kernel)⟩
def lw_privs_1 : List (MethodName × Nat) := [(⟨"SunVillage$Reader", "scan", "(LSunVillage$Tape;)V"⟩, 8), (⟨"SunVillage$Reader", "scanToken", "(LSunVillage$Tape;II)V"⟩, 8), (⟨"SunVillage$Token", "isSpelled", "(LSunVillage$Tape;II)Z"⟩, 5), (⟨"SunVillage$Reader", "takeRule", "()Z"⟩, 8), (⟨"SunVillage$Reader", "refuse", "(I)Z"⟩, 8), (⟨"SunVillage$Reader", "step", "()V"⟩, 8), (⟨"SunVillage$Reader", "takeExpression", "(I)Z"⟩, 8), (⟨"SunVillage$Reader", "takePart", "(I)Z"⟩, 8), (⟨"SunVillage$Reader", "take", "(LSunVillage$Token;)Z"⟩, 8), (⟨"SunVillage$Reader", "takeAct", "(LSunVillage$Rule;)Z"⟩, 8), (⟨"SunVillage$Reader", "takeOneOf", "(LSunVillage$Token;LSunVillage$Token;LSunVillage$Token;)LSunVillage$Token;"⟩, 8), (⟨"SunVillage$Reader", "takePrice", "(LSunVillage$Rule;)Z"⟩, 8), (⟨"SunVillage$Reader", "takeNumber", "(LSunVillage$Rule;II)Z"⟩, 8), (⟨"SunVillage$Reader", "takeWays", "(LSunVillage$Rule;)Z"⟩, 8), (⟨"SunVillage$Reader", "takeWhom", "(LSunVillage$Rule;)Z"⟩, 8), (⟨"SunVillage$Reader", "takeRest", "()Z"⟩, 8)]
theorem lw_r1 : ∀ q ∈ lw_privs_1, lw_okq q := List.forall_mem_cons.mpr ⟨lw_p0, List.forall_mem_cons.mpr ⟨lw_p1, List.forall_mem_cons.mpr ⟨lw_p2, List.forall_mem_cons.mpr ⟨lw_p3, List.forall_mem_cons.mpr ⟨lw_p4, List.forall_mem_cons.mpr ⟨lw_p5, List.forall_mem_cons.mpr ⟨lw_p6, List.forall_mem_cons.mpr ⟨lw_p7, List.forall_mem_cons.mpr ⟨lw_p8, List.forall_mem_cons.mpr ⟨lw_p9, List.forall_mem_cons.mpr ⟨lw_p10, List.forall_mem_cons.mpr ⟨lw_p11, List.forall_mem_cons.mpr ⟨lw_p12, List.forall_mem_cons.mpr ⟨lw_p13, List.forall_mem_cons.mpr ⟨lw_p14, List.forall_mem_cons.mpr ⟨lw_p15, fun _ h => absurd h List.not_mem_nil⟩⟩⟩⟩⟩⟩⟩⟩⟩⟩⟩⟩⟩⟩⟩⟩
theorem lw_p16 : lw_okq (⟨"SunVillage", "dayOfLooks", "()I"⟩, 13) := ⟨⟨by decide +kernel, by decide +kernel⟩, List.mem_of_getElem? (i := 26) (by decide +kernel), List.mem_of_getElem? (i := 721) (by decide +kernel), List.mem_of_getElem? (i := 722) (by decide +kernel)⟩
theorem lw_p17 : lw_okq (⟨"SunVillage$Book", "turnTo", "(I)V"⟩, 11) := ⟨⟨by decide +kernel, by decide +kernel⟩, List.mem_of_getElem? (i := 233) (by decide +kernel), List.mem_of_getElem? (i := 734) (by decide +kernel), List.mem_of_getElem? (i := 735) (by decide +kernel)⟩
theorem lw_p18 : lw_okq (⟨"SunVillage$Book", "placeReadings", "(I)V"⟩, 11) := ⟨⟨by decide +kernel, by decide +kernel⟩, List.mem_of_getElem? (i := 233) (by decide +kernel), List.mem_of_getElem? (i := 752) (by decide +kernel), List.mem_of_getElem? (i := 753) (by decide +kernel)⟩
theorem lw_p19 : lw_okq (⟨"SunVillage$Book", "bringIn", "(II)V"⟩, 11) := ⟨⟨by decide +kernel, by decide +kernel⟩, List.mem_of_getElem? (i := 233) (by decide +kernel), List.mem_of_getElem? (i := 772) (by decide +kernel), List.mem_of_getElem? (i := 773) (by decide +kernel)⟩
theorem lw_p20 : lw_okq (⟨"SunVillage$Book", "wants", "(I)I"⟩, 11) := ⟨⟨by decide +kernel, by decide +kernel⟩, List.mem_of_getElem? (i := 233) (by decide +kernel), List.mem_of_getElem? (i := 776) (by decide +kernel), List.mem_of_getElem? (i := 777) (by decide +kernel)⟩
theorem lw_p21 : lw_okq (⟨"SunVillage$Book", "gives", "(I)I"⟩, 11) := ⟨⟨by decide +kernel, by decide +kernel⟩, List.mem_of_getElem? (i := 233) (by decide +kernel), List.mem_of_getElem? (i := 780) (by decide +kernel), List.mem_of_getElem? (i := 781) (by decide +kernel)⟩
theorem lw_p22 : lw_okq (⟨"SunVillage$Work", "value", "(LSunVillage$Text;II)I"⟩, 20) := ⟨⟨by decide +kernel, by decide +kernel⟩, List.mem_of_getElem? (i := 139) (by decide +kernel), List.mem_of_getElem? (i := 794) (by decide +kernel), List.mem_of_getElem? (i := 795) (by decide +kernel)⟩
theorem lw_p23 : lw_okq (⟨"SunVillage$Work", "measured", "(I)I"⟩, 20) := ⟨⟨by decide +kernel, by decide +kernel⟩, List.mem_of_getElem? (i := 139) (by decide +kernel), List.mem_of_getElem? (i := 805) (by decide +kernel), List.mem_of_getElem? (i := 806) (by decide +kernel)⟩
theorem lw_p24 : lw_okq (⟨"SunVillage$Work", "wantOfAll", "()I"⟩, 20) := ⟨⟨by decide +kernel, by decide +kernel⟩, List.mem_of_getElem? (i := 139) (by decide +kernel), List.mem_of_getElem? (i := 815) (by decide +kernel), List.mem_of_getElem? (i := 816) (by decide +kernel)⟩
theorem lw_p25 : lw_okq (⟨"SunVillage$Work", "amount", "(LSunVillage$Text;LSunVillage$Rule;I)I"⟩, 20) := ⟨⟨by decide +kernel, by decide +kernel⟩, List.mem_of_getElem? (i := 139) (by decide +kernel), List.mem_of_getElem? (i := 821) (by decide +kernel), List.mem_of_getElem? (i := 822) (by decide +kernel)⟩
theorem lw_p26 : lw_okq (⟨"SunVillage$Work", "fill", "(II)V"⟩, 20) := ⟨⟨by decide +kernel, by decide +kernel⟩, List.mem_of_getElem? (i := 139) (by decide +kernel), List.mem_of_getElem? (i := 826) (by decide +kernel), List.mem_of_getElem? (i := 827) (by decide +kernel)⟩
theorem lw_p27 : lw_okq (⟨"SunVillage$Work", "give", "(LSunVillage$Text;II)V"⟩, 20) := ⟨⟨by decide +kernel, by decide +kernel⟩, List.mem_of_getElem? (i := 139) (by decide +kernel), List.mem_of_getElem? (i := 830) (by decide +kernel), List.mem_of_getElem? (i := 831) (by decide +kernel)⟩
theorem lw_p28 : lw_okq (⟨"SunVillage$Work", "choose", "(LSunVillage$Rule;)V"⟩, 20) := ⟨⟨by decide +kernel, by decide +kernel⟩, List.mem_of_getElem? (i := 139) (by decide +kernel), List.mem_of_getElem? (i := 834) (by decide +kernel), List.mem_of_getElem? (i := 835) (by decide +kernel)⟩
theorem lw_p29 : lw_okq (⟨"SunVillage$Work", "room", "(I)I"⟩, 20) := ⟨⟨by decide +kernel, by decide +kernel⟩, List.mem_of_getElem? (i := 139) (by decide +kernel), List.mem_of_getElem? (i := 838) (by decide +kernel), List.mem_of_getElem? (i := 839) (by decide +kernel)⟩
theorem lw_p30 : lw_okq (⟨"SunVillage$Work", "keepLeast", "(I)V"⟩, 20) := ⟨⟨by decide +kernel, by decide +kernel⟩, List.mem_of_getElem? (i := 139) (by decide +kernel), List.mem_of_getElem? (i := 844) (by decide +kernel), List.mem_of_getElem? (i := 845) (by decide +kernel)⟩
theorem lw_p31 : lw_okq (⟨"SunVillage$Work", "chosenAhead", "(I)I"⟩, 20) := ⟨⟨by decide +kernel, by decide +kernel⟩, List.mem_of_getElem? (i := 139) (by decide +kernel), List.mem_of_getElem? (i := 848) (by decide +kernel), List.mem_of_getElem? (i := 849) (by decide +kernel)⟩
def lw_privs_2 : List (MethodName × Nat) := [(⟨"SunVillage", "dayOfLooks", "()I"⟩, 13), (⟨"SunVillage$Book", "turnTo", "(I)V"⟩, 11), (⟨"SunVillage$Book", "placeReadings", "(I)V"⟩, 11), (⟨"SunVillage$Book", "bringIn", "(II)V"⟩, 11), (⟨"SunVillage$Book", "wants", "(I)I"⟩, 11), (⟨"SunVillage$Book", "gives", "(I)I"⟩, 11), (⟨"SunVillage$Work", "value", "(LSunVillage$Text;II)I"⟩, 20), (⟨"SunVillage$Work", "measured", "(I)I"⟩, 20), (⟨"SunVillage$Work", "wantOfAll", "()I"⟩, 20), (⟨"SunVillage$Work", "amount", "(LSunVillage$Text;LSunVillage$Rule;I)I"⟩, 20), (⟨"SunVillage$Work", "fill", "(II)V"⟩, 20), (⟨"SunVillage$Work", "give", "(LSunVillage$Text;II)V"⟩, 20), (⟨"SunVillage$Work", "choose", "(LSunVillage$Rule;)V"⟩, 20), (⟨"SunVillage$Work", "room", "(I)I"⟩, 20), (⟨"SunVillage$Work", "keepLeast", "(I)V"⟩, 20), (⟨"SunVillage$Work", "chosenAhead", "(I)I"⟩, 20)]
theorem lw_r2 : ∀ q ∈ lw_privs_2, lw_okq q := List.forall_mem_cons.mpr ⟨lw_p16, List.forall_mem_cons.mpr ⟨lw_p17, List.forall_mem_cons.mpr ⟨lw_p18, List.forall_mem_cons.mpr ⟨lw_p19, List.forall_mem_cons.mpr ⟨lw_p20, List.forall_mem_cons.mpr ⟨lw_p21, List.forall_mem_cons.mpr ⟨lw_p22, List.forall_mem_cons.mpr ⟨lw_p23, List.forall_mem_cons.mpr ⟨lw_p24, List.forall_mem_cons.mpr ⟨lw_p25, List.forall_mem_cons.mpr ⟨lw_p26, List.forall_mem_cons.mpr ⟨lw_p27, List.forall_mem_cons.mpr ⟨lw_p28, List.forall_mem_cons.mpr ⟨lw_p29, List.forall_mem_cons.mpr ⟨lw_p30, List.forall_mem_cons.mpr ⟨lw_p31, fun _ h => absurd h List.not_mem_nil⟩⟩⟩⟩⟩⟩⟩⟩⟩⟩⟩⟩⟩⟩⟩⟩
theorem lw_p32 : lw_okq (⟨"SunVillage$Work", "weigh", "(LSunVillage$Token;)J"⟩, 20) := ⟨⟨by decide +kernel, by decide +kernel⟩, List.mem_of_getElem? (i := 139) (by decide +kernel), List.mem_of_getElem? (i := 852) (by decide +kernel), List.mem_of_getElem? (i := 853) (by decide +kernel)⟩
theorem lw_p33 : lw_okq (⟨"SunVillage$Work", "hand", "(LSunVillage$Rule;III)V"⟩, 20) := ⟨⟨by decide +kernel, by decide +kernel⟩, List.mem_of_getElem? (i := 139) (by decide +kernel), List.mem_of_getElem? (i := 861) (by decide +kernel), List.mem_of_getElem? (i := 862) (by decide +kernel)⟩
theorem lw_p34 : lw_okq (⟨"SunVillage$Work", "handRest", "(LSunVillage$Text;II)V"⟩, 20) := ⟨⟨by decide +kernel, by decide +kernel⟩, List.mem_of_getElem? (i := 139) (by decide +kernel), List.mem_of_getElem? (i := 865) (by decide +kernel), List.mem_of_getElem? (i := 866) (by decide +kernel)⟩
theorem lw_p35 : lw_okq (⟨"SunVillage$Work", "sortByWant", "()V"⟩, 20) := ⟨⟨by decide +kernel, by decide +kernel⟩, List.mem_of_getElem? (i := 139) (by decide +kernel), List.mem_of_getElem? (i := 870) (by decide +kernel), List.mem_of_getElem? (i := 871) (by decide +kernel)⟩
theorem lw_p36 : lw_okq (⟨"SunVillage$Work", "handOnes", "(LSunVillage$Rule;IIII)I"⟩, 20) := ⟨⟨by decide +kernel, by decide +kernel⟩, List.mem_of_getElem? (i := 139) (by decide +kernel), List.mem_of_getElem? (i := 875) (by decide +kernel), List.mem_of_getElem? (i := 876) (by decide +kernel)⟩
theorem lw_p37 : lw_okq (⟨"SunVillage$Book", "write", "(I)V"⟩, 11) := ⟨⟨by decide +kernel, by decide +kernel⟩, List.mem_of_getElem? (i := 233) (by decide +kernel), List.mem_of_getElem? (i := 883) (by decide +kernel), List.mem_of_getElem? (i := 884) (by decide +kernel)⟩
theorem lw_p38 : lw_okq (⟨"SunVillage$Book", "coins", "(II)I"⟩, 11) := ⟨⟨by decide +kernel, by decide +kernel⟩, List.mem_of_getElem? (i := 233) (by decide +kernel), List.mem_of_getElem? (i := 907) (by decide +kernel), List.mem_of_getElem? (i := 908) (by decide +kernel)⟩
theorem lw_p39 : lw_okq (⟨"SunVillage$Book", "own", "(I)I"⟩, 11) := ⟨⟨by decide +kernel, by decide +kernel⟩, List.mem_of_getElem? (i := 233) (by decide +kernel), List.mem_of_getElem? (i := 911) (by decide +kernel), List.mem_of_getElem? (i := 912) (by decide +kernel)⟩
theorem lw_p40 : lw_okq (⟨"SunVillage$Book", "bought", "(II)I"⟩, 11) := ⟨⟨by decide +kernel, by decide +kernel⟩, List.mem_of_getElem? (i := 233) (by decide +kernel), List.mem_of_getElem? (i := 915) (by decide +kernel), List.mem_of_getElem? (i := 916) (by decide +kernel)⟩
theorem lw_p41 : lw_okq (⟨"SunVillage$Book", "lacked", "(I)I"⟩, 11) := ⟨⟨by decide +kernel, by decide +kernel⟩, List.mem_of_getElem? (i := 233) (by decide +kernel), List.mem_of_getElem? (i := 919) (by decide +kernel), List.mem_of_getElem? (i := 920) (by decide +kernel)⟩
theorem lw_p42 : lw_okq (⟨"java/lang/Throwable", "fillInStackTrace", "(I)Ljava/lang/Throwable;"⟩, 6) := ⟨⟨by decide +kernel, by decide +kernel⟩, List.mem_of_getElem? (i := 985) (by decide +kernel), List.mem_of_getElem? (i := 983) (by decide +kernel), List.mem_of_getElem? (i := 984) (by decide +kernel)⟩
theorem lw_p43 : lw_okq (⟨"SunVillage$Book", "isInDoubt", "(II)Z"⟩, 11) := ⟨⟨by decide +kernel, by decide +kernel⟩, List.mem_of_getElem? (i := 233) (by decide +kernel), List.mem_of_getElem? (i := 1014) (by decide +kernel), List.mem_of_getElem? (i := 1015) (by decide +kernel)⟩
theorem lw_p44 : lw_okq (⟨"SunVillageModel", "lay", "(J)V"⟩, 75) := ⟨⟨by decide +kernel, by decide +kernel⟩, List.mem_of_getElem? (i := 1044) (by decide +kernel), List.mem_of_getElem? (i := 1042) (by decide +kernel), List.mem_of_getElem? (i := 1043) (by decide +kernel)⟩
theorem lw_p45 : lw_okq (⟨"SunVillageModel", "readText", "()V"⟩, 75) := ⟨⟨by decide +kernel, by decide +kernel⟩, List.mem_of_getElem? (i := 1044) (by decide +kernel), List.mem_of_getElem? (i := 1308) (by decide +kernel), List.mem_of_getElem? (i := 1309) (by decide +kernel)⟩
theorem lw_p46 : lw_okq (⟨"SunVillageModel", "cutAll", "()V"⟩, 75) := ⟨⟨by decide +kernel, by decide +kernel⟩, List.mem_of_getElem? (i := 1044) (by decide +kernel), List.mem_of_getElem? (i := 1312) (by decide +kernel), List.mem_of_getElem? (i := 1313) (by decide +kernel)⟩
theorem lw_p47 : lw_okq (⟨"SunVillageModel", "isWord", "(I)Z"⟩, 75) := ⟨⟨by decide +kernel, by decide +kernel⟩, List.mem_of_getElem? (i := 1044) (by decide +kernel), List.mem_of_getElem? (i := 1331) (by decide +kernel), List.mem_of_getElem? (i := 1332) (by decide +kernel)⟩
def lw_privs_3 : List (MethodName × Nat) := [(⟨"SunVillage$Work", "weigh", "(LSunVillage$Token;)J"⟩, 20), (⟨"SunVillage$Work", "hand", "(LSunVillage$Rule;III)V"⟩, 20), (⟨"SunVillage$Work", "handRest", "(LSunVillage$Text;II)V"⟩, 20), (⟨"SunVillage$Work", "sortByWant", "()V"⟩, 20), (⟨"SunVillage$Work", "handOnes", "(LSunVillage$Rule;IIII)I"⟩, 20), (⟨"SunVillage$Book", "write", "(I)V"⟩, 11), (⟨"SunVillage$Book", "coins", "(II)I"⟩, 11), (⟨"SunVillage$Book", "own", "(I)I"⟩, 11), (⟨"SunVillage$Book", "bought", "(II)I"⟩, 11), (⟨"SunVillage$Book", "lacked", "(I)I"⟩, 11), (⟨"java/lang/Throwable", "fillInStackTrace", "(I)Ljava/lang/Throwable;"⟩, 6), (⟨"SunVillage$Book", "isInDoubt", "(II)Z"⟩, 11), (⟨"SunVillageModel", "lay", "(J)V"⟩, 75), (⟨"SunVillageModel", "readText", "()V"⟩, 75), (⟨"SunVillageModel", "cutAll", "()V"⟩, 75), (⟨"SunVillageModel", "isWord", "(I)Z"⟩, 75)]
theorem lw_r3 : ∀ q ∈ lw_privs_3, lw_okq q := List.forall_mem_cons.mpr ⟨lw_p32, List.forall_mem_cons.mpr ⟨lw_p33, List.forall_mem_cons.mpr ⟨lw_p34, List.forall_mem_cons.mpr ⟨lw_p35, List.forall_mem_cons.mpr ⟨lw_p36, List.forall_mem_cons.mpr ⟨lw_p37, List.forall_mem_cons.mpr ⟨lw_p38, List.forall_mem_cons.mpr ⟨lw_p39, List.forall_mem_cons.mpr ⟨lw_p40, List.forall_mem_cons.mpr ⟨lw_p41, List.forall_mem_cons.mpr ⟨lw_p42, List.forall_mem_cons.mpr ⟨lw_p43, List.forall_mem_cons.mpr ⟨lw_p44, List.forall_mem_cons.mpr ⟨lw_p45, List.forall_mem_cons.mpr ⟨lw_p46, List.forall_mem_cons.mpr ⟨lw_p47, fun _ h => absurd h List.not_mem_nil⟩⟩⟩⟩⟩⟩⟩⟩⟩⟩⟩⟩⟩⟩⟩⟩
theorem lw_p48 : lw_okq (⟨"SunVillageModel", "readRule", "()V"⟩, 75) := ⟨⟨by decide +kernel, by decide +kernel⟩, List.mem_of_getElem? (i := 1044) (by decide +kernel), List.mem_of_getElem? (i := 1335) (by decide +kernel), List.mem_of_getElem? (i := 1336) (by decide +kernel)⟩
theorem lw_p49 : lw_okq (⟨"SunVillageModel", "isRule", "()Z"⟩, 75) := ⟨⟨by decide +kernel, by decide +kernel⟩, List.mem_of_getElem? (i := 1044) (by decide +kernel), List.mem_of_getElem? (i := 1339) (by decide +kernel), List.mem_of_getElem? (i := 1340) (by decide +kernel)⟩
theorem lw_p50 : lw_okq (⟨"SunVillageModel", "wrong", "(I)V"⟩, 75) := ⟨⟨by decide +kernel, by decide +kernel⟩, List.mem_of_getElem? (i := 1044) (by decide +kernel), List.mem_of_getElem? (i := 1343) (by decide +kernel), List.mem_of_getElem? (i := 1344) (by decide +kernel)⟩
theorem lw_p51 : lw_okq (⟨"SunVillageModel", "hasWord", "(I)Z"⟩, 75) := ⟨⟨by decide +kernel, by decide +kernel⟩, List.mem_of_getElem? (i := 1044) (by decide +kernel), List.mem_of_getElem? (i := 1347) (by decide +kernel), List.mem_of_getElem? (i := 1348) (by decide +kernel)⟩
theorem lw_p52 : lw_okq (⟨"SunVillageModel", "code", "()I"⟩, 75) := ⟨⟨by decide +kernel, by decide +kernel⟩, List.mem_of_getElem? (i := 1044) (by decide +kernel), List.mem_of_getElem? (i := 1351) (by decide +kernel), List.mem_of_getElem? (i := 1352) (by decide +kernel)⟩
theorem lw_p53 : lw_okq (⟨"SunVillageModel", "expression", "()V"⟩, 75) := ⟨⟨by decide +kernel, by decide +kernel⟩, List.mem_of_getElem? (i := 1044) (by decide +kernel), List.mem_of_getElem? (i := 1355) (by decide +kernel), List.mem_of_getElem? (i := 1356) (by decide +kernel)⟩
theorem lw_p54 : lw_okq (⟨"SunVillageModel", "opens", "()V"⟩, 75) := ⟨⟨by decide +kernel, by decide +kernel⟩, List.mem_of_getElem? (i := 1044) (by decide +kernel), List.mem_of_getElem? (i := 1359) (by decide +kernel), List.mem_of_getElem? (i := 1360) (by decide +kernel)⟩
theorem lw_p55 : lw_okq (⟨"SunVillageModel", "part", "()Z"⟩, 75) := ⟨⟨by decide +kernel, by decide +kernel⟩, List.mem_of_getElem? (i := 1044) (by decide +kernel), List.mem_of_getElem? (i := 1363) (by decide +kernel), List.mem_of_getElem? (i := 1364) (by decide +kernel)⟩
theorem lw_p56 : lw_okq (⟨"SunVillageModel", "isPart", "()Z"⟩, 75) := ⟨⟨by decide +kernel, by decide +kernel⟩, List.mem_of_getElem? (i := 1044) (by decide +kernel), List.mem_of_getElem? (i := 1367) (by decide +kernel), List.mem_of_getElem? (i := 1368) (by decide +kernel)⟩
theorem lw_p57 : lw_okq (⟨"SunVillageModel", "isSign", "(I)Z"⟩, 75) := ⟨⟨by decide +kernel, by decide +kernel⟩, List.mem_of_getElem? (i := 1044) (by decide +kernel), List.mem_of_getElem? (i := 1371) (by decide +kernel), List.mem_of_getElem? (i := 1372) (by decide +kernel)⟩
theorem lw_p58 : lw_okq (⟨"SunVillageModel", "emit", "(II)V"⟩, 75) := ⟨⟨by decide +kernel, by decide +kernel⟩, List.mem_of_getElem? (i := 1044) (by decide +kernel), List.mem_of_getElem? (i := 1375) (by decide +kernel), List.mem_of_getElem? (i := 1376) (by decide +kernel)⟩
theorem lw_p59 : lw_okq (⟨"SunVillageModel", "hasSign", "(I)Z"⟩, 75) := ⟨⟨by decide +kernel, by decide +kernel⟩, List.mem_of_getElem? (i := 1044) (by decide +kernel), List.mem_of_getElem? (i := 1379) (by decide +kernel), List.mem_of_getElem? (i := 1380) (by decide +kernel)⟩
theorem lw_p60 : lw_okq (⟨"SunVillageModel", "takeWord", "(I)V"⟩, 75) := ⟨⟨by decide +kernel, by decide +kernel⟩, List.mem_of_getElem? (i := 1044) (by decide +kernel), List.mem_of_getElem? (i := 1383) (by decide +kernel), List.mem_of_getElem? (i := 1384) (by decide +kernel)⟩
theorem lw_p61 : lw_okq (⟨"SunVillageModel", "goesOn", "()Z"⟩, 75) := ⟨⟨by decide +kernel, by decide +kernel⟩, List.mem_of_getElem? (i := 1044) (by decide +kernel), List.mem_of_getElem? (i := 1387) (by decide +kernel), List.mem_of_getElem? (i := 1388) (by decide +kernel)⟩
theorem lw_p62 : lw_okq (⟨"SunVillageModel", "takeSign", "(I)V"⟩, 75) := ⟨⟨by decide +kernel, by decide +kernel⟩, List.mem_of_getElem? (i := 1044) (by decide +kernel), List.mem_of_getElem? (i := 1391) (by decide +kernel), List.mem_of_getElem? (i := 1392) (by decide +kernel)⟩
theorem lw_p63 : lw_okq (⟨"SunVillageModel", "readAmount", "(I)V"⟩, 75) := ⟨⟨by decide +kernel, by decide +kernel⟩, List.mem_of_getElem? (i := 1044) (by decide +kernel), List.mem_of_getElem? (i := 1395) (by decide +kernel), List.mem_of_getElem? (i := 1396) (by decide +kernel)⟩
def lw_privs_4 : List (MethodName × Nat) := [(⟨"SunVillageModel", "readRule", "()V"⟩, 75), (⟨"SunVillageModel", "isRule", "()Z"⟩, 75), (⟨"SunVillageModel", "wrong", "(I)V"⟩, 75), (⟨"SunVillageModel", "hasWord", "(I)Z"⟩, 75), (⟨"SunVillageModel", "code", "()I"⟩, 75), (⟨"SunVillageModel", "expression", "()V"⟩, 75), (⟨"SunVillageModel", "opens", "()V"⟩, 75), (⟨"SunVillageModel", "part", "()Z"⟩, 75), (⟨"SunVillageModel", "isPart", "()Z"⟩, 75), (⟨"SunVillageModel", "isSign", "(I)Z"⟩, 75), (⟨"SunVillageModel", "emit", "(II)V"⟩, 75), (⟨"SunVillageModel", "hasSign", "(I)Z"⟩, 75), (⟨"SunVillageModel", "takeWord", "(I)V"⟩, 75), (⟨"SunVillageModel", "goesOn", "()Z"⟩, 75), (⟨"SunVillageModel", "takeSign", "(I)V"⟩, 75), (⟨"SunVillageModel", "readAmount", "(I)V"⟩, 75)]
theorem lw_r4 : ∀ q ∈ lw_privs_4, lw_okq q := List.forall_mem_cons.mpr ⟨lw_p48, List.forall_mem_cons.mpr ⟨lw_p49, List.forall_mem_cons.mpr ⟨lw_p50, List.forall_mem_cons.mpr ⟨lw_p51, List.forall_mem_cons.mpr ⟨lw_p52, List.forall_mem_cons.mpr ⟨lw_p53, List.forall_mem_cons.mpr ⟨lw_p54, List.forall_mem_cons.mpr ⟨lw_p55, List.forall_mem_cons.mpr ⟨lw_p56, List.forall_mem_cons.mpr ⟨lw_p57, List.forall_mem_cons.mpr ⟨lw_p58, List.forall_mem_cons.mpr ⟨lw_p59, List.forall_mem_cons.mpr ⟨lw_p60, List.forall_mem_cons.mpr ⟨lw_p61, List.forall_mem_cons.mpr ⟨lw_p62, List.forall_mem_cons.mpr ⟨lw_p63, fun _ h => absurd h List.not_mem_nil⟩⟩⟩⟩⟩⟩⟩⟩⟩⟩⟩⟩⟩⟩⟩⟩
theorem lw_p64 : lw_okq (⟨"SunVillageModel", "oneOf", "(II)I"⟩, 75) := ⟨⟨by decide +kernel, by decide +kernel⟩, List.mem_of_getElem? (i := 1044) (by decide +kernel), List.mem_of_getElem? (i := 1399) (by decide +kernel), List.mem_of_getElem? (i := 1400) (by decide +kernel)⟩
theorem lw_p65 : lw_okq (⟨"SunVillageModel", "readWhom", "(I)V"⟩, 75) := ⟨⟨by decide +kernel, by decide +kernel⟩, List.mem_of_getElem? (i := 1044) (by decide +kernel), List.mem_of_getElem? (i := 1403) (by decide +kernel), List.mem_of_getElem? (i := 1404) (by decide +kernel)⟩
theorem lw_p66 : lw_okq (⟨"SunVillageModel", "takeNumber", "(II)I"⟩, 75) := ⟨⟨by decide +kernel, by decide +kernel⟩, List.mem_of_getElem? (i := 1044) (by decide +kernel), List.mem_of_getElem? (i := 1407) (by decide +kernel), List.mem_of_getElem? (i := 1408) (by decide +kernel)⟩
theorem lw_p67 : lw_okq (⟨"SunVillageModel", "keep", "(I)V"⟩, 75) := ⟨⟨by decide +kernel, by decide +kernel⟩, List.mem_of_getElem? (i := 1044) (by decide +kernel), List.mem_of_getElem? (i := 1411) (by decide +kernel), List.mem_of_getElem? (i := 1412) (by decide +kernel)⟩
theorem lw_p68 : lw_okq (⟨"SunVillageModel", "lookDay", "()I"⟩, 75) := ⟨⟨by decide +kernel, by decide +kernel⟩, List.mem_of_getElem? (i := 1044) (by decide +kernel), List.mem_of_getElem? (i := 1439) (by decide +kernel), List.mem_of_getElem? (i := 1440) (by decide +kernel)⟩
theorem lw_p69 : lw_okq (⟨"SunVillageModel", "works", "(IIZ)V"⟩, 75) := ⟨⟨by decide +kernel, by decide +kernel⟩, List.mem_of_getElem? (i := 1044) (by decide +kernel), List.mem_of_getElem? (i := 1443) (by decide +kernel), List.mem_of_getElem? (i := 1444) (by decide +kernel)⟩
theorem lw_p70 : lw_okq (⟨"SunVillageModel", "quarterBegins", "(Z)V"⟩, 75) := ⟨⟨by decide +kernel, by decide +kernel⟩, List.mem_of_getElem? (i := 1044) (by decide +kernel), List.mem_of_getElem? (i := 1447) (by decide +kernel), List.mem_of_getElem? (i := 1448) (by decide +kernel)⟩
theorem lw_p71 : lw_okq (⟨"SunVillageModel", "rule", "(I)V"⟩, 75) := ⟨⟨by decide +kernel, by decide +kernel⟩, List.mem_of_getElem? (i := 1044) (by decide +kernel), List.mem_of_getElem? (i := 1451) (by decide +kernel), List.mem_of_getElem? (i := 1452) (by decide +kernel)⟩
theorem lw_p72 : lw_okq (⟨"SunVillageModel", "worth", "(I)I"⟩, 75) := ⟨⟨by decide +kernel, by decide +kernel⟩, List.mem_of_getElem? (i := 1044) (by decide +kernel), List.mem_of_getElem? (i := 1455) (by decide +kernel), List.mem_of_getElem? (i := 1456) (by decide +kernel)⟩
theorem lw_p73 : lw_okq (⟨"SunVillageModel", "partOf", "(I)I"⟩, 75) := ⟨⟨by decide +kernel, by decide +kernel⟩, List.mem_of_getElem? (i := 1044) (by decide +kernel), List.mem_of_getElem? (i := 1459) (by decide +kernel), List.mem_of_getElem? (i := 1460) (by decide +kernel)⟩
theorem lw_p74 : lw_okq (⟨"SunVillageModel", "givesBy", "(II)V"⟩, 75) := ⟨⟨by decide +kernel, by decide +kernel⟩, List.mem_of_getElem? (i := 1044) (by decide +kernel), List.mem_of_getElem? (i := 1463) (by decide +kernel), List.mem_of_getElem? (i := 1464) (by decide +kernel)⟩
theorem lw_p75 : lw_okq (⟨"SunVillageModel", "chooses", "(I)I"⟩, 75) := ⟨⟨by decide +kernel, by decide +kernel⟩, List.mem_of_getElem? (i := 1044) (by decide +kernel), List.mem_of_getElem? (i := 1467) (by decide +kernel), List.mem_of_getElem? (i := 1468) (by decide +kernel)⟩
theorem lw_p76 : lw_okq (⟨"SunVillageModel", "can", "(I)Z"⟩, 75) := ⟨⟨by decide +kernel, by decide +kernel⟩, List.mem_of_getElem? (i := 1044) (by decide +kernel), List.mem_of_getElem? (i := 1471) (by decide +kernel), List.mem_of_getElem? (i := 1472) (by decide +kernel)⟩
theorem lw_p77 : lw_okq (⟨"SunVillageModel", "hands", "(IIII)V"⟩, 75) := ⟨⟨by decide +kernel, by decide +kernel⟩, List.mem_of_getElem? (i := 1044) (by decide +kernel), List.mem_of_getElem? (i := 1478) (by decide +kernel), List.mem_of_getElem? (i := 1479) (by decide +kernel)⟩
theorem lw_p78 : lw_okq (⟨"SunVillageModel", "oneByOne", "(III)V"⟩, 75) := ⟨⟨by decide +kernel, by decide +kernel⟩, List.mem_of_getElem? (i := 1044) (by decide +kernel), List.mem_of_getElem? (i := 1482) (by decide +kernel), List.mem_of_getElem? (i := 1483) (by decide +kernel)⟩
theorem lw_p79 : lw_okq (⟨"SunVillageModel", "nextOf", "()I"⟩, 75) := ⟨⟨by decide +kernel, by decide +kernel⟩, List.mem_of_getElem? (i := 1044) (by decide +kernel), List.mem_of_getElem? (i := 1486) (by decide +kernel), List.mem_of_getElem? (i := 1487) (by decide +kernel)⟩
def lw_privs_5 : List (MethodName × Nat) := [(⟨"SunVillageModel", "oneOf", "(II)I"⟩, 75), (⟨"SunVillageModel", "readWhom", "(I)V"⟩, 75), (⟨"SunVillageModel", "takeNumber", "(II)I"⟩, 75), (⟨"SunVillageModel", "keep", "(I)V"⟩, 75), (⟨"SunVillageModel", "lookDay", "()I"⟩, 75), (⟨"SunVillageModel", "works", "(IIZ)V"⟩, 75), (⟨"SunVillageModel", "quarterBegins", "(Z)V"⟩, 75), (⟨"SunVillageModel", "rule", "(I)V"⟩, 75), (⟨"SunVillageModel", "worth", "(I)I"⟩, 75), (⟨"SunVillageModel", "partOf", "(I)I"⟩, 75), (⟨"SunVillageModel", "givesBy", "(II)V"⟩, 75), (⟨"SunVillageModel", "chooses", "(I)I"⟩, 75), (⟨"SunVillageModel", "can", "(I)Z"⟩, 75), (⟨"SunVillageModel", "hands", "(IIII)V"⟩, 75), (⟨"SunVillageModel", "oneByOne", "(III)V"⟩, 75), (⟨"SunVillageModel", "nextOf", "()I"⟩, 75)]
theorem lw_r5 : ∀ q ∈ lw_privs_5, lw_okq q := List.forall_mem_cons.mpr ⟨lw_p64, List.forall_mem_cons.mpr ⟨lw_p65, List.forall_mem_cons.mpr ⟨lw_p66, List.forall_mem_cons.mpr ⟨lw_p67, List.forall_mem_cons.mpr ⟨lw_p68, List.forall_mem_cons.mpr ⟨lw_p69, List.forall_mem_cons.mpr ⟨lw_p70, List.forall_mem_cons.mpr ⟨lw_p71, List.forall_mem_cons.mpr ⟨lw_p72, List.forall_mem_cons.mpr ⟨lw_p73, List.forall_mem_cons.mpr ⟨lw_p74, List.forall_mem_cons.mpr ⟨lw_p75, List.forall_mem_cons.mpr ⟨lw_p76, List.forall_mem_cons.mpr ⟨lw_p77, List.forall_mem_cons.mpr ⟨lw_p78, List.forall_mem_cons.mpr ⟨lw_p79, fun _ h => absurd h List.not_mem_nil⟩⟩⟩⟩⟩⟩⟩⟩⟩⟩⟩⟩⟩⟩⟩⟩
theorem lw_p80 : lw_okq (⟨"SunVillageModel", "quarterEnds", "()V"⟩, 75) := ⟨⟨by decide +kernel, by decide +kernel⟩, List.mem_of_getElem? (i := 1044) (by decide +kernel), List.mem_of_getElem? (i := 1490) (by decide +kernel), List.mem_of_getElem? (i := 1491) (by decide +kernel)⟩
def lw_privs_6 : List (MethodName × Nat) := [(⟨"SunVillageModel", "quarterEnds", "()V"⟩, 75)]
theorem lw_r6 : ∀ q ∈ lw_privs_6, lw_okq q := List.forall_mem_cons.mpr ⟨lw_p80, fun _ h => absurd h List.not_mem_nil⟩
def lw_privs : List (MethodName × Nat) := lw_privs_1 ++ (lw_privs_2 ++ (lw_privs_3 ++ (lw_privs_4 ++ (lw_privs_5 ++ (lw_privs_6)))))
def lw_tbl : List Cond := k2_sels lw_privs ++ tables_1
theorem lw_privs_ok : ∀ q ∈ lw_privs, lw_okq q := by
  show ∀ q ∈ lw_privs_1 ++ (lw_privs_2 ++ (lw_privs_3 ++ (lw_privs_4 ++ (lw_privs_5 ++ (lw_privs_6))))), lw_okq q
  exact List.forall_mem_append.mpr ⟨lw_r1, List.forall_mem_append.mpr ⟨lw_r2, List.forall_mem_append.mpr ⟨lw_r3, List.forall_mem_append.mpr ⟨lw_r4, List.forall_mem_append.mpr ⟨lw_r5, lw_r6⟩⟩⟩⟩⟩
/-! ===== BEGIN printed: names, fields, word lists, decode rows ===== -/
def RX0 : String := "SunVillage$Bills"
def TX0 : u_T := fun k => match k with
  | 0 => ("SunVillage$Bills", "coins", "[I", true)
  | _ => ("SunVillage$Bills", "days", "I", false)
def tyX0 : Nat → FieldType := fun k => match k with
  | 0 => .array .int
  | _ => .int
abbrev wsX00 : List Cond := u_ws RX0 TX0 2
theorem nmX0 : ∀ a, a < 2 → ∀ b, b < 2 → a ≠ b → (TX0 a).2.1 ≠ (TX0 b).2.1 := by decide +kernel
theorem tyX0_ok : ∀ k, k < 2 → parseFieldDescriptor (TX0 k).2.2.1 = some (tyX0 k) := by decide +kernel
abbrev cX0_init : ByteArray := prog_2_method_1_code
def yX0_init : MethodName := ⟨RX0, "<init>", "()V"⟩
abbrev cX0_slot : ByteArray := prog_2_method_2_code
def yX0_slot : MethodName := ⟨RX0, "slot", "(II)I"⟩
abbrev cX0_write : ByteArray := prog_2_method_3_code
def yX0_write : MethodName := ⟨RX0, "write", "(II)V"⟩
def RX1 : String := "SunVillage$Book"
def TX1 : u_T := fun k => match k with
  | 0 => ("SunVillage$Book", "houses", "LSunVillage$Houses;", true)
  | 1 => ("SunVillage$Book", "readings", "LSunVillage$Readings;", true)
  | 2 => ("SunVillage$Book", "texts", "LSunVillage$Texts;", true)
  | 3 => ("SunVillage$Book", "work", "LSunVillage$Work;", true)
  | 4 => ("SunVillage$Book", "asKnown", "I", false)
  | 5 => ("SunVillage$Book", "worked", "I", false)
  | 6 => ("SunVillage$Book", "reading", "[I", true)
  | 7 => ("SunVillage$Book", "fromPool", "[I", true)
  | 8 => ("SunVillage$Book", "fromStore", "[I", true)
  | 9 => ("SunVillage$Book", "hadThatDay", "[I", true)
  | _ => ("SunVillage$Book", "sums", "[I", true)
def tyX1 : Nat → FieldType := fun k => match k with
  | 0 => .object "SunVillage$Houses"
  | 1 => .object "SunVillage$Readings"
  | 2 => .object "SunVillage$Texts"
  | 3 => .object "SunVillage$Work"
  | 4 => .int
  | 5 => .int
  | 6 => .array .int
  | 7 => .array .int
  | 8 => .array .int
  | 9 => .array .int
  | _ => .array .int
abbrev wsX10 : List Cond := u_ws RX1 TX1 11
theorem nmX1 : ∀ a, a < 11 → ∀ b, b < 11 → a ≠ b → (TX1 a).2.1 ≠ (TX1 b).2.1 := by decide +kernel
theorem tyX1_ok : ∀ k, k < 11 → parseFieldDescriptor (TX1 k).2.2.1 = some (tyX1 k) := by decide +kernel
abbrev cX1_init : ByteArray := prog_3_method_1_code
def yX1_init : MethodName := ⟨RX1, "<init>", "(LSunVillage$Houses;LSunVillage$Readings;LSunVillage$Texts;LSunVillage$Work;)V"⟩
abbrev cX1_forgetFrom : ByteArray := prog_3_method_2_code
def yX1_forgetFrom : MethodName := ⟨RX1, "forgetFrom", "(I)V"⟩
abbrev cX1_workTo : ByteArray := prog_3_method_3_code
def yX1_workTo : MethodName := ⟨RX1, "workTo", "(II)V"⟩
abbrev cX1_turnTo : ByteArray := prog_3_method_4_code
def yX1_turnTo : MethodName := ⟨RX1, "turnTo", "(I)V"⟩
abbrev cX1_placeReadings : ByteArray := prog_3_method_5_code
def yX1_placeReadings : MethodName := ⟨RX1, "placeReadings", "(I)V"⟩
abbrev cX1_workAgain : ByteArray := prog_3_method_6_code
def yX1_workAgain : MethodName := ⟨RX1, "workAgain", "(II)V"⟩
abbrev cX1_bringIn : ByteArray := prog_3_method_7_code
def yX1_bringIn : MethodName := ⟨RX1, "bringIn", "(II)V"⟩
abbrev cX1_write : ByteArray := prog_3_method_8_code
def yX1_write : MethodName := ⟨RX1, "write", "(I)V"⟩
abbrev cX1_cell : ByteArray := prog_3_method_9_code
def yX1_cell : MethodName := ⟨RX1, "cell", "(II)I"⟩
abbrev cX1_sum : ByteArray := prog_3_method_10_code
def yX1_sum : MethodName := ⟨RX1, "sum", "(II)I"⟩
abbrev cX1_ofHouse : ByteArray := prog_3_method_11_code
def yX1_ofHouse : MethodName := ⟨RX1, "ofHouse", "(III)I"⟩
abbrev cX1_byRules : ByteArray := prog_3_method_12_code
def yX1_byRules : MethodName := ⟨RX1, "byRules", "(II)I"⟩
abbrev cX1_wants : ByteArray := prog_3_method_13_code
def yX1_wants : MethodName := ⟨RX1, "wants", "(I)I"⟩
abbrev cX1_gives : ByteArray := prog_3_method_14_code
def yX1_gives : MethodName := ⟨RX1, "gives", "(I)I"⟩
abbrev cX1_own : ByteArray := prog_3_method_15_code
def yX1_own : MethodName := ⟨RX1, "own", "(I)I"⟩
abbrev cX1_isInDoubt : ByteArray := prog_3_method_16_code
def yX1_isInDoubt : MethodName := ⟨RX1, "isInDoubt", "(II)Z"⟩
abbrev cX1_lacked : ByteArray := prog_3_method_17_code
def yX1_lacked : MethodName := ⟨RX1, "lacked", "(I)I"⟩
abbrev cX1_bought : ByteArray := prog_3_method_18_code
def yX1_bought : MethodName := ⟨RX1, "bought", "(II)I"⟩
abbrev cX1_coins : ByteArray := prog_3_method_19_code
def yX1_coins : MethodName := ⟨RX1, "coins", "(II)I"⟩
abbrev cX1_coinsUpTo : ByteArray := prog_3_method_20_code
def yX1_coinsUpTo : MethodName := ⟨RX1, "coinsUpTo", "(II)I"⟩
def RX2 : String := "SunVillage$Houses"
def TX2 : u_T := fun k => match k with
  | 0 => ("SunVillage$Houses", "share", "[I", true)
  | 1 => ("SunVillage$Houses", "bears", "[I", true)
  | _ => ("SunVillage$Houses", "size", "I", false)
def tyX2 : Nat → FieldType := fun k => match k with
  | 0 => .array .int
  | 1 => .array .int
  | _ => .int
abbrev wsX20 : List Cond := u_ws RX2 TX2 3
theorem nmX2 : ∀ a, a < 3 → ∀ b, b < 3 → a ≠ b → (TX2 a).2.1 ≠ (TX2 b).2.1 := by decide +kernel
theorem tyX2_ok : ∀ k, k < 3 → parseFieldDescriptor (TX2 k).2.2.1 = some (tyX2 k) := by decide +kernel
abbrev cX2_init : ByteArray := prog_4_method_1_code
def yX2_init : MethodName := ⟨RX2, "<init>", "()V"⟩
abbrev cX2_has : ByteArray := prog_4_method_2_code
def yX2_has : MethodName := ⟨RX2, "has", "(I)Z"⟩
abbrev cX2_add : ByteArray := prog_4_method_3_code
def yX2_add : MethodName := ⟨RX2, "add", "(II)I"⟩
def RX3 : String := "SunVillage$Reader"
def TX3 : u_T := fun k => match k with
  | 0 => ("SunVillage$Reader", "tokens", "[LSunVillage$Token;", true)
  | 1 => ("SunVillage$Reader", "places", "[I", true)
  | 2 => ("SunVillage$Reader", "numbers", "[I", true)
  | 3 => ("SunVillage$Reader", "last", "I", false)
  | 4 => ("SunVillage$Reader", "at", "I", false)
  | 5 => ("SunVillage$Reader", "fault", "I", false)
  | 6 => ("SunVillage$Reader", "houseCount", "I", false)
  | _ => ("SunVillage$Reader", "text", "LSunVillage$Text;", false)
def tyX3 : Nat → FieldType := fun k => match k with
  | 0 => .array (.object "SunVillage$Token")
  | 1 => .array .int
  | 2 => .array .int
  | 3 => .int
  | 4 => .int
  | 5 => .int
  | 6 => .int
  | _ => .object "SunVillage$Text"
abbrev wsX30 : List Cond := u_ws RX3 TX3 8
theorem nmX3 : ∀ a, a < 8 → ∀ b, b < 8 → a ≠ b → (TX3 a).2.1 ≠ (TX3 b).2.1 := by decide +kernel
theorem tyX3_ok : ∀ k, k < 8 → parseFieldDescriptor (TX3 k).2.2.1 = some (tyX3 k) := by decide +kernel
abbrev cX3_init : ByteArray := prog_5_method_1_code
def yX3_init : MethodName := ⟨RX3, "<init>", "()V"⟩
abbrev cX3_parse : ByteArray := prog_5_method_2_code
def yX3_parse : MethodName := ⟨RX3, "parse", "(LSunVillage$Tape;ILSunVillage$Text;)I"⟩
abbrev cX3_scan : ByteArray := prog_5_method_3_code
def yX3_scan : MethodName := ⟨RX3, "scan", "(LSunVillage$Tape;)V"⟩
abbrev cX3_scanToken : ByteArray := prog_5_method_4_code
def yX3_scanToken : MethodName := ⟨RX3, "scanToken", "(LSunVillage$Tape;II)V"⟩
abbrev cX3_refuse : ByteArray := prog_5_method_5_code
def yX3_refuse : MethodName := ⟨RX3, "refuse", "(I)Z"⟩
abbrev cX3_step : ByteArray := prog_5_method_6_code
def yX3_step : MethodName := ⟨RX3, "step", "()V"⟩
abbrev cX3_take : ByteArray := prog_5_method_7_code
def yX3_take : MethodName := ⟨RX3, "take", "(LSunVillage$Token;)Z"⟩
abbrev cX3_takeOneOf : ByteArray := prog_5_method_8_code
def yX3_takeOneOf : MethodName := ⟨RX3, "takeOneOf", "(LSunVillage$Token;LSunVillage$Token;LSunVillage$Token;)LSunVillage$Token;"⟩
abbrev cX3_takeRest : ByteArray := prog_5_method_9_code
def yX3_takeRest : MethodName := ⟨RX3, "takeRest", "()Z"⟩
abbrev cX3_takeRule : ByteArray := prog_5_method_10_code
def yX3_takeRule : MethodName := ⟨RX3, "takeRule", "()Z"⟩
abbrev cX3_takeAct : ByteArray := prog_5_method_11_code
def yX3_takeAct : MethodName := ⟨RX3, "takeAct", "(LSunVillage$Rule;)Z"⟩
abbrev cX3_takePrice : ByteArray := prog_5_method_12_code
def yX3_takePrice : MethodName := ⟨RX3, "takePrice", "(LSunVillage$Rule;)Z"⟩
abbrev cX3_takeNumber : ByteArray := prog_5_method_13_code
def yX3_takeNumber : MethodName := ⟨RX3, "takeNumber", "(LSunVillage$Rule;II)Z"⟩
abbrev cX3_takeWays : ByteArray := prog_5_method_14_code
def yX3_takeWays : MethodName := ⟨RX3, "takeWays", "(LSunVillage$Rule;)Z"⟩
abbrev cX3_takeWhom : ByteArray := prog_5_method_15_code
def yX3_takeWhom : MethodName := ⟨RX3, "takeWhom", "(LSunVillage$Rule;)Z"⟩
abbrev cX3_takeExpression : ByteArray := prog_5_method_16_code
def yX3_takeExpression : MethodName := ⟨RX3, "takeExpression", "(I)Z"⟩
abbrev cX3_takePart : ByteArray := prog_5_method_17_code
def yX3_takePart : MethodName := ⟨RX3, "takePart", "(I)Z"⟩
def RX4 : String := "SunVillage$Readings"
def TX4 : u_T := fun k => match k with
  | 0 => ("SunVillage$Readings", "house", "[I", true)
  | 1 => ("SunVillage$Readings", "quarter", "[I", true)
  | 2 => ("SunVillage$Readings", "wants", "[I", true)
  | 3 => ("SunVillage$Readings", "gives", "[I", true)
  | 4 => ("SunVillage$Readings", "day", "[I", true)
  | _ => ("SunVillage$Readings", "size", "I", false)
def tyX4 : Nat → FieldType := fun k => match k with
  | 0 => .array .int
  | 1 => .array .int
  | 2 => .array .int
  | 3 => .array .int
  | 4 => .array .int
  | _ => .int
abbrev wsX40 : List Cond := u_ws RX4 TX4 6
theorem nmX4 : ∀ a, a < 6 → ∀ b, b < 6 → a ≠ b → (TX4 a).2.1 ≠ (TX4 b).2.1 := by decide +kernel
theorem tyX4_ok : ∀ k, k < 6 → parseFieldDescriptor (TX4 k).2.2.1 = some (tyX4 k) := by decide +kernel
abbrev cX4_init : ByteArray := prog_6_method_1_code
def yX4_init : MethodName := ⟨RX4, "<init>", "()V"⟩
abbrev cX4_add : ByteArray := prog_6_method_2_code
def yX4_add : MethodName := ⟨RX4, "add", "(IIIII)V"⟩
abbrev cX4_firstTouched : ByteArray := prog_6_method_3_code
def yX4_firstTouched : MethodName := ⟨RX4, "firstTouched", "(II)I"⟩
def RX5 : String := "SunVillage$Rule"
def TX5 : u_T := fun k => match k with
  | 0 => ("SunVillage$Rule", "act", "LSunVillage$Token;", false)
  | 1 => ("SunVillage$Rule", "whenFrom", "I", false)
  | 2 => ("SunVillage$Rule", "whenTo", "I", false)
  | 3 => ("SunVillage$Rule", "amountFrom", "I", false)
  | 4 => ("SunVillage$Rule", "amountTo", "I", false)
  | 5 => ("SunVillage$Rule", "source", "LSunVillage$Token;", false)
  | 6 => ("SunVillage$Rule", "whom", "LSunVillage$Token;", false)
  | 7 => ("SunVillage$Rule", "way", "LSunVillage$Token;", false)
  | 8 => ("SunVillage$Rule", "price", "I", false)
  | _ => ("SunVillage$Rule", "number", "I", false)
def tyX5 : Nat → FieldType := fun k => match k with
  | 0 => .object "SunVillage$Token"
  | 1 => .int
  | 2 => .int
  | 3 => .int
  | 4 => .int
  | 5 => .object "SunVillage$Token"
  | 6 => .object "SunVillage$Token"
  | 7 => .object "SunVillage$Token"
  | 8 => .int
  | _ => .int
abbrev wsX50 : List Cond := u_ws RX5 TX5 10
theorem nmX5 : ∀ a, a < 10 → ∀ b, b < 10 → a ≠ b → (TX5 a).2.1 ≠ (TX5 b).2.1 := by decide +kernel
theorem tyX5_ok : ∀ k, k < 10 → parseFieldDescriptor (TX5 k).2.2.1 = some (tyX5 k) := by decide +kernel
abbrev cX5_init : ByteArray := prog_7_method_1_code
def yX5_init : MethodName := ⟨RX5, "<init>", "()V"⟩
def RX6 : String := "SunVillage$Tape"
def TX6 : u_T := fun k => match k with
  | 0 => ("SunVillage$Tape", "signs", "[C", true)
  | _ => ("SunVillage$Tape", "size", "I", false)
def tyX6 : Nat → FieldType := fun k => match k with
  | 0 => .array .char
  | _ => .int
abbrev wsX60 : List Cond := u_ws RX6 TX6 2
theorem nmX6 : ∀ a, a < 2 → ∀ b, b < 2 → a ≠ b → (TX6 a).2.1 ≠ (TX6 b).2.1 := by decide +kernel
theorem tyX6_ok : ∀ k, k < 2 → parseFieldDescriptor (TX6 k).2.2.1 = some (tyX6 k) := by decide +kernel
abbrev cX6_init : ByteArray := prog_8_method_1_code
def yX6_init : MethodName := ⟨RX6, "<init>", "()V"⟩
abbrev cX6_addBytes : ByteArray := prog_8_method_2_code
def yX6_addBytes : MethodName := ⟨RX6, "addBytes", "(J)V"⟩
abbrev cX6_sort : ByteArray := prog_8_method_3_code
def yX6_sort : MethodName := ⟨RX6, "sort", "(I)I"⟩
abbrev cX6_tokenBegins : ByteArray := prog_8_method_4_code
def yX6_tokenBegins : MethodName := ⟨RX6, "tokenBegins", "(I)Z"⟩
abbrev cX6_tokenEnd : ByteArray := prog_8_method_5_code
def yX6_tokenEnd : MethodName := ⟨RX6, "tokenEnd", "(I)I"⟩
abbrev cX6_numberAt : ByteArray := prog_8_method_6_code
def yX6_numberAt : MethodName := ⟨RX6, "numberAt", "(II)I"⟩
def RX7 : String := "SunVillage$Text"
def TX7 : u_T := fun k => match k with
  | 0 => ("SunVillage$Text", "rules", "[LSunVillage$Rule;", true)
  | 1 => ("SunVillage$Text", "size", "I", false)
  | 2 => ("SunVillage$Text", "rest", "LSunVillage$Token;", false)
  | 3 => ("SunVillage$Text", "code", "[I", true)
  | 4 => ("SunVillage$Text", "codeSize", "I", false)
  | 5 => ("SunVillage$Text", "quarter", "I", false)
  | _ => ("SunVillage$Text", "day", "I", false)
def tyX7 : Nat → FieldType := fun k => match k with
  | 0 => .array (.object "SunVillage$Rule")
  | 1 => .int
  | 2 => .object "SunVillage$Token"
  | 3 => .array .int
  | 4 => .int
  | 5 => .int
  | _ => .int
abbrev wsX70 : List Cond := u_ws RX7 TX7 7
theorem nmX7 : ∀ a, a < 7 → ∀ b, b < 7 → a ≠ b → (TX7 a).2.1 ≠ (TX7 b).2.1 := by decide +kernel
theorem tyX7_ok : ∀ k, k < 7 → parseFieldDescriptor (TX7 k).2.2.1 = some (tyX7 k) := by decide +kernel
abbrev cX7_init : ByteArray := prog_9_method_1_code
def yX7_init : MethodName := ⟨RX7, "<init>", "()V"⟩
abbrev cX7_emit : ByteArray := prog_9_method_2_code
def yX7_emit : MethodName := ⟨RX7, "emit", "(I)V"⟩
def RX8 : String := "SunVillage$Texts"
def TX8 : u_T := fun k => match k with
  | 0 => ("SunVillage$Texts", "items", "[LSunVillage$Text;", true)
  | _ => ("SunVillage$Texts", "size", "I", false)
def tyX8 : Nat → FieldType := fun k => match k with
  | 0 => .array (.object "SunVillage$Text")
  | _ => .int
abbrev wsX80 : List Cond := u_ws RX8 TX8 2
theorem nmX8 : ∀ a, a < 2 → ∀ b, b < 2 → a ≠ b → (TX8 a).2.1 ≠ (TX8 b).2.1 := by decide +kernel
theorem tyX8_ok : ∀ k, k < 2 → parseFieldDescriptor (TX8 k).2.2.1 = some (tyX8 k) := by decide +kernel
abbrev cX8_init : ByteArray := prog_10_method_1_code
def yX8_init : MethodName := ⟨RX8, "<init>", "()V"⟩
abbrev cX8_canTake : ByteArray := prog_10_method_2_code
def yX8_canTake : MethodName := ⟨RX8, "canTake", "(I)Z"⟩
abbrev cX8_add : ByteArray := prog_10_method_3_code
def yX8_add : MethodName := ⟨RX8, "add", "(LSunVillage$Text;II)V"⟩
abbrev cX8_putOnly : ByteArray := prog_10_method_4_code
def yX8_putOnly : MethodName := ⟨RX8, "putOnly", "(LSunVillage$Text;)LSunVillage$Text;"⟩
abbrev cX8_rulesOfLatest : ByteArray := prog_10_method_5_code
def yX8_rulesOfLatest : MethodName := ⟨RX8, "rulesOfLatest", "()I"⟩
abbrev cX8_inForce : ByteArray := prog_10_method_6_code
def yX8_inForce : MethodName := ⟨RX8, "inForce", "(II)LSunVillage$Text;"⟩
abbrev cX8_firstTouched : ByteArray := prog_10_method_7_code
def yX8_firstTouched : MethodName := ⟨RX8, "firstTouched", "(II)I"⟩
def RX9 : String := "SunVillage$Token"
def TX9 : u_T := fun k => match k with
  | _ => ("", "", "", false)
def tyX9 : Nat → FieldType := fun k => match k with
  | _ => .int
abbrev wsX90 : List Cond := u_ws RX9 TX9 0
theorem nmX9 : ∀ a, a < 0 → ∀ b, b < 0 → a ≠ b → (TX9 a).2.1 ≠ (TX9 b).2.1 := by decide +kernel
theorem tyX9_ok : ∀ k, k < 0 → parseFieldDescriptor (TX9 k).2.2.1 = some (tyX9 k) := by decide +kernel
abbrev cX9_spelled : ByteArray := prog_11_method_4_code
def yX9_spelled : MethodName := ⟨RX9, "spelled", "(LSunVillage$Tape;II)LSunVillage$Token;"⟩
abbrev cX9_isSpelled : ByteArray := prog_11_method_5_code
def yX9_isSpelled : MethodName := ⟨RX9, "isSpelled", "(LSunVillage$Tape;II)Z"⟩
abbrev cX9_isOperator : ByteArray := prog_11_method_6_code
def yX9_isOperator : MethodName := ⟨RX9, "isOperator", "()Z"⟩
abbrev cX9_isCompare : ByteArray := prog_11_method_7_code
def yX9_isCompare : MethodName := ⟨RX9, "isCompare", "()Z"⟩
abbrev cX9_beginsPart : ByteArray := prog_11_method_8_code
def yX9_beginsPart : MethodName := ⟨RX9, "beginsPart", "()Z"⟩
abbrev cX9_beginsRule : ByteArray := prog_11_method_9_code
def yX9_beginsRule : MethodName := ⟨RX9, "beginsRule", "()Z"⟩
abbrev cX9_price : ByteArray := prog_11_method_10_code
def yX9_price : MethodName := ⟨RX9, "price", "()I"⟩
def RX10 : String := "SunVillage$Work"
def TX10 : u_T := fun k => match k with
  | 0 => ("SunVillage$Work", "houses", "LSunVillage$Houses;", true)
  | 1 => ("SunVillage$Work", "cap", "I", true)
  | 2 => ("SunVillage$Work", "loss", "I", true)
  | 3 => ("SunVillage$Work", "quarter", "I", false)
  | 4 => ("SunVillage$Work", "pool", "I", false)
  | 5 => ("SunVillage$Work", "store", "I", false)
  | 6 => ("SunVillage$Work", "want", "[I", true)
  | 7 => ("SunVillage$Work", "line", "[I", true)
  | 8 => ("SunVillage$Work", "hadThatDay", "[I", true)
  | 9 => ("SunVillage$Work", "fromPool", "[I", true)
  | 10 => ("SunVillage$Work", "fromStore", "[I", true)
  | 11 => ("SunVillage$Work", "chosen", "[I", true)
  | 12 => ("SunVillage$Work", "chosenSize", "I", false)
  | 13 => ("SunVillage$Work", "isLeast", "[Z", true)
  | 14 => ("SunVillage$Work", "weight", "[I", true)
  | 15 => ("SunVillage$Work", "sides", "[I", true)
  | 16 => ("SunVillage$Work", "watched", "I", false)
  | 17 => ("SunVillage$Work", "watchedFilled", "I", false)
  | 18 => ("SunVillage$Work", "watchedGave", "[I", true)
  | _ => ("SunVillage$Work", "sums", "[I", true)
def tyX10 : Nat → FieldType := fun k => match k with
  | 0 => .object "SunVillage$Houses"
  | 1 => .int
  | 2 => .int
  | 3 => .int
  | 4 => .int
  | 5 => .int
  | 6 => .array .int
  | 7 => .array .int
  | 8 => .array .int
  | 9 => .array .int
  | 10 => .array .int
  | 11 => .array .int
  | 12 => .int
  | 13 => .array .boolean
  | 14 => .array .int
  | 15 => .array .int
  | 16 => .int
  | 17 => .int
  | 18 => .array .int
  | _ => .array .int
abbrev wsX100 : List Cond := u_ws RX10 TX10 20
theorem nmX10 : ∀ a, a < 20 → ∀ b, b < 20 → a ≠ b → (TX10 a).2.1 ≠ (TX10 b).2.1 := by decide +kernel
theorem tyX10_ok : ∀ k, k < 20 → parseFieldDescriptor (TX10 k).2.2.1 = some (tyX10 k) := by decide +kernel
abbrev cX10_init : ByteArray := prog_12_method_1_code
def yX10_init : MethodName := ⟨RX10, "<init>", "(LSunVillage$Houses;II)V"⟩
abbrev cX10_begin : ByteArray := prog_12_method_2_code
def yX10_begin : MethodName := ⟨RX10, "begin", "(III)V"⟩
abbrev cX10_bringIn : ByteArray := prog_12_method_3_code
def yX10_bringIn : MethodName := ⟨RX10, "bringIn", "(IIII)V"⟩
abbrev cX10_apply : ByteArray := prog_12_method_4_code
def yX10_apply : MethodName := ⟨RX10, "apply", "(LSunVillage$Text;I)V"⟩
abbrev cX10_end : ByteArray := prog_12_method_5_code
def yX10_end : MethodName := ⟨RX10, "end", "()V"⟩
abbrev cX10_amount : ByteArray := prog_12_method_6_code
def yX10_amount : MethodName := ⟨RX10, "amount", "(LSunVillage$Text;LSunVillage$Rule;I)I"⟩
abbrev cX10_value : ByteArray := prog_12_method_7_code
def yX10_value : MethodName := ⟨RX10, "value", "(LSunVillage$Text;II)I"⟩
abbrev cX10_joined : ByteArray := prog_12_method_8_code
def yX10_joined : MethodName := ⟨RX10, "joined", "(III)I"⟩
abbrev cX10_measured : ByteArray := prog_12_method_9_code
def yX10_measured : MethodName := ⟨RX10, "measured", "(I)I"⟩
abbrev cX10_wantOfAll : ByteArray := prog_12_method_10_code
def yX10_wantOfAll : MethodName := ⟨RX10, "wantOfAll", "()I"⟩
abbrev cX10_fill : ByteArray := prog_12_method_11_code
def yX10_fill : MethodName := ⟨RX10, "fill", "(II)V"⟩
abbrev cX10_give : ByteArray := prog_12_method_12_code
def yX10_give : MethodName := ⟨RX10, "give", "(LSunVillage$Text;II)V"⟩
abbrev cX10_room : ByteArray := prog_12_method_13_code
def yX10_room : MethodName := ⟨RX10, "room", "(I)I"⟩
abbrev cX10_choose : ByteArray := prog_12_method_14_code
def yX10_choose : MethodName := ⟨RX10, "choose", "(LSunVillage$Rule;)V"⟩
abbrev cX10_keepLeast : ByteArray := prog_12_method_15_code
def yX10_keepLeast : MethodName := ⟨RX10, "keepLeast", "(I)V"⟩
abbrev cX10_chosenAhead : ByteArray := prog_12_method_16_code
def yX10_chosenAhead : MethodName := ⟨RX10, "chosenAhead", "(I)I"⟩
abbrev cX10_weigh : ByteArray := prog_12_method_17_code
def yX10_weigh : MethodName := ⟨RX10, "weigh", "(LSunVillage$Token;)J"⟩
abbrev cX10_hand : ByteArray := prog_12_method_18_code
def yX10_hand : MethodName := ⟨RX10, "hand", "(LSunVillage$Rule;III)V"⟩
abbrev cX10_handRest : ByteArray := prog_12_method_19_code
def yX10_handRest : MethodName := ⟨RX10, "handRest", "(LSunVillage$Text;II)V"⟩
abbrev cX10_handOnes : ByteArray := prog_12_method_20_code
def yX10_handOnes : MethodName := ⟨RX10, "handOnes", "(LSunVillage$Rule;IIII)I"⟩
abbrev cX10_sortByWant : ByteArray := prog_12_method_21_code
def yX10_sortByWant : MethodName := ⟨RX10, "sortByWant", "()V"⟩
def RX11 : String := "SunVillage"
def TX11 : u_T := fun k => match k with
  | 0 => ("SunVillage", "houses", "LSunVillage$Houses;", true)
  | 1 => ("SunVillage", "readings", "LSunVillage$Readings;", true)
  | 2 => ("SunVillage", "tape", "LSunVillage$Tape;", true)
  | 3 => ("SunVillage", "reader", "LSunVillage$Reader;", true)
  | 4 => ("SunVillage", "work", "LSunVillage$Work;", true)
  | 5 => ("SunVillage", "texts", "LSunVillage$Texts;", true)
  | 6 => ("SunVillage", "book", "LSunVillage$Book;", true)
  | 7 => ("SunVillage", "bills", "LSunVillage$Bills;", true)
  | 8 => ("SunVillage", "alone", "LSunVillage$Texts;", true)
  | 9 => ("SunVillage", "otherBook", "LSunVillage$Book;", false)
  | 10 => ("SunVillage", "draft", "LSunVillage$Text;", false)
  | 11 => ("SunVillage", "now", "I", false)
  | _ => ("SunVillage", "lookDay", "I", false)
def tyX11 : Nat → FieldType := fun k => match k with
  | 0 => .object "SunVillage$Houses"
  | 1 => .object "SunVillage$Readings"
  | 2 => .object "SunVillage$Tape"
  | 3 => .object "SunVillage$Reader"
  | 4 => .object "SunVillage$Work"
  | 5 => .object "SunVillage$Texts"
  | 6 => .object "SunVillage$Book"
  | 7 => .object "SunVillage$Bills"
  | 8 => .object "SunVillage$Texts"
  | 9 => .object "SunVillage$Book"
  | 10 => .object "SunVillage$Text"
  | 11 => .int
  | _ => .int
abbrev wsX110 : List Cond := u_ws RX11 TX11 13
theorem nmX11 : ∀ a, a < 13 → ∀ b, b < 13 → a ≠ b → (TX11 a).2.1 ≠ (TX11 b).2.1 := by decide +kernel
theorem tyX11_ok : ∀ k, k < 13 → parseFieldDescriptor (TX11 k).2.2.1 = some (tyX11 k) := by decide +kernel
abbrev cX11_init : ByteArray := prog_1_method_1_code
def yX11_init : MethodName := ⟨RX11, "<init>", "(II)V"⟩
abbrev cX11_house : ByteArray := prog_1_method_2_code
def yX11_house : MethodName := ⟨RX11, "house", "(II)I"⟩
abbrev cX11_read : ByteArray := prog_1_method_3_code
def yX11_read : MethodName := ⟨RX11, "read", "(IIII)Z"⟩
abbrev cX11_days : ByteArray := prog_1_method_4_code
def yX11_days : MethodName := ⟨RX11, "days", "(I)I"⟩
abbrev cX11_feed : ByteArray := prog_1_method_5_code
def yX11_feed : MethodName := ⟨RX11, "feed", "(JJJ)I"⟩
abbrev cX11_text : ByteArray := prog_1_method_6_code
def yX11_text : MethodName := ⟨RX11, "text", "(I)I"⟩
abbrev cX11_other : ByteArray := prog_1_method_7_code
def yX11_other : MethodName := ⟨RX11, "other", "()I"⟩
abbrev cX11_known : ByteArray := prog_1_method_8_code
def yX11_known : MethodName := ⟨RX11, "known", "(I)Z"⟩
abbrev cX11_had : ByteArray := prog_1_method_9_code
def yX11_had : MethodName := ⟨RX11, "had", "(III)I"⟩
abbrev cX11_quarter : ByteArray := prog_1_method_10_code
def yX11_quarter : MethodName := ⟨RX11, "quarter", "(II)I"⟩
abbrev cX11_by : ByteArray := prog_1_method_11_code
def yX11_by : MethodName := ⟨RX11, "by", "(III)I"⟩
abbrev cX11_would : ByteArray := prog_1_method_12_code
def yX11_would : MethodName := ⟨RX11, "would", "(II)I"⟩
abbrev cX11_bills : ByteArray := prog_1_method_13_code
def yX11_bills : MethodName := ⟨RX11, "bills", "()I"⟩
abbrev cX11_bill : ByteArray := prog_1_method_14_code
def yX11_bill : MethodName := ⟨RX11, "bill", "(II)I"⟩
abbrev cX11_count : ByteArray := prog_1_method_15_code
def yX11_count : MethodName := ⟨RX11, "count", "(I)I"⟩
abbrev cX11_dayOfLooks : ByteArray := prog_1_method_16_code
def yX11_dayOfLooks : MethodName := ⟨RX11, "dayOfLooks", "()I"⟩
abbrev cX11_isIn : ByteArray := prog_1_method_17_code
def yX11_isIn : MethodName := ⟨RX11, "isIn", "(III)Z"⟩
abbrev cX11_isQuarter : ByteArray := prog_1_method_18_code
def yX11_isQuarter : MethodName := ⟨RX11, "isQuarter", "(I)Z"⟩
def RX12 : String := "SunVillageModel"
def TX12 : u_T := fun k => match k with
  | 0 => ("SunVillageModel", "thrown", "I", false)
  | 1 => ("SunVillageModel", "tape", "[I", true)
  | 2 => ("SunVillageModel", "taped", "I", false)
  | 3 => ("SunVillageModel", "size", "I", false)
  | 4 => ("SunVillageModel", "sort", "[I", true)
  | 5 => ("SunVillageModel", "place", "[I", true)
  | 6 => ("SunVillageModel", "value", "[J", true)
  | 7 => ("SunVillageModel", "at", "I", false)
  | 8 => ("SunVillageModel", "fault", "I", false)
  | 9 => ("SunVillageModel", "words", "[J", true)
  | 10 => ("SunVillageModel", "rules", "[I", true)
  | 11 => ("SunVillageModel", "how", "[I", true)
  | 12 => ("SunVillageModel", "when", "[I", true)
  | 13 => ("SunVillageModel", "act", "[I", true)
  | 14 => ("SunVillageModel", "amount", "[I", true)
  | 15 => ("SunVillageModel", "source", "[I", true)
  | 16 => ("SunVillageModel", "whom", "[I", true)
  | 17 => ("SunVillageModel", "whomN", "[I", true)
  | 18 => ("SunVillageModel", "way", "[I", true)
  | 19 => ("SunVillageModel", "op", "[I", true)
  | 20 => ("SunVillageModel", "one", "[I", true)
  | 21 => ("SunVillageModel", "codes", "[I", true)
  | 22 => ("SunVillageModel", "texts", "I", false)
  | 23 => ("SunVillageModel", "inForce", "[I", true)
  | 24 => ("SunVillageModel", "textDay", "[I", true)
  | 25 => ("SunVillageModel", "hasOther", "Z", false)
  | 26 => ("SunVillageModel", "deep", "I", false)
  | 27 => ("SunVillageModel", "sumWaits", "[I", true)
  | 28 => ("SunVillageModel", "signWaits", "[I", true)
  | 29 => ("SunVillageModel", "cap", "I", true)
  | 30 => ("SunVillageModel", "loss", "I", true)
  | 31 => ("SunVillageModel", "houses", "I", false)
  | 32 => ("SunVillageModel", "share", "[I", true)
  | 33 => ("SunVillageModel", "bears", "[I", true)
  | 34 => ("SunVillageModel", "readings", "I", false)
  | 35 => ("SunVillageModel", "readHouse", "[I", true)
  | 36 => ("SunVillageModel", "readQuarter", "[I", true)
  | 37 => ("SunVillageModel", "readWants", "[I", true)
  | 38 => ("SunVillageModel", "readGives", "[I", true)
  | 39 => ("SunVillageModel", "readDay", "[I", true)
  | 40 => ("SunVillageModel", "now", "I", false)
  | 41 => ("SunVillageModel", "asOf", "I", false)
  | 42 => ("SunVillageModel", "knownDay", "I", false)
  | 43 => ("SunVillageModel", "q", "I", false)
  | 44 => ("SunVillageModel", "inText", "I", false)
  | 45 => ("SunVillageModel", "store", "I", false)
  | 46 => ("SunVillageModel", "pool", "I", false)
  | 47 => ("SunVillageModel", "price", "[I", true)
  | 48 => ("SunVillageModel", "wants", "[I", true)
  | 49 => ("SunVillageModel", "gives", "[I", true)
  | 50 => ("SunVillageModel", "doubt", "[I", true)
  | 51 => ("SunVillageModel", "own", "[I", true)
  | 52 => ("SunVillageModel", "want", "[I", true)
  | 53 => ("SunVillageModel", "line", "[I", true)
  | 54 => ("SunVillageModel", "gift", "[I", true)
  | 55 => ("SunVillageModel", "fromPool", "[I", true)
  | 56 => ("SunVillageModel", "fromStore", "[I", true)
  | 57 => ("SunVillageModel", "bought", "[I", true)
  | 58 => ("SunVillageModel", "dayGiven", "[I", true)
  | 59 => ("SunVillageModel", "coins", "[I", true)
  | 60 => ("SunVillageModel", "poolFirst", "I", false)
  | 61 => ("SunVillageModel", "filled", "I", false)
  | 62 => ("SunVillageModel", "lost", "I", false)
  | 63 => ("SunVillageModel", "sold", "I", false)
  | 64 => ("SunVillageModel", "left", "I", false)
  | 65 => ("SunVillageModel", "townCoins", "I", false)
  | 66 => ("SunVillageModel", "potCoins", "I", false)
  | 67 => ("SunVillageModel", "byRule", "[I", true)
  | 68 => ("SunVillageModel", "sums", "[I", true)
  | 69 => ("SunVillageModel", "pile", "[I", true)
  | 70 => ("SunVillageModel", "is", "[Z", true)
  | 71 => ("SunVillageModel", "gets", "[I", true)
  | 72 => ("SunVillageModel", "weight", "[I", true)
  | 73 => ("SunVillageModel", "billed", "I", false)
  | _ => ("SunVillageModel", "bill", "[I", true)
def tyX12 : Nat → FieldType := fun k => match k with
  | 0 => .int
  | 1 => .array .int
  | 2 => .int
  | 3 => .int
  | 4 => .array .int
  | 5 => .array .int
  | 6 => .array .long
  | 7 => .int
  | 8 => .int
  | 9 => .array .long
  | 10 => .array .int
  | 11 => .array .int
  | 12 => .array .int
  | 13 => .array .int
  | 14 => .array .int
  | 15 => .array .int
  | 16 => .array .int
  | 17 => .array .int
  | 18 => .array .int
  | 19 => .array .int
  | 20 => .array .int
  | 21 => .array .int
  | 22 => .int
  | 23 => .array .int
  | 24 => .array .int
  | 25 => .boolean
  | 26 => .int
  | 27 => .array .int
  | 28 => .array .int
  | 29 => .int
  | 30 => .int
  | 31 => .int
  | 32 => .array .int
  | 33 => .array .int
  | 34 => .int
  | 35 => .array .int
  | 36 => .array .int
  | 37 => .array .int
  | 38 => .array .int
  | 39 => .array .int
  | 40 => .int
  | 41 => .int
  | 42 => .int
  | 43 => .int
  | 44 => .int
  | 45 => .int
  | 46 => .int
  | 47 => .array .int
  | 48 => .array .int
  | 49 => .array .int
  | 50 => .array .int
  | 51 => .array .int
  | 52 => .array .int
  | 53 => .array .int
  | 54 => .array .int
  | 55 => .array .int
  | 56 => .array .int
  | 57 => .array .int
  | 58 => .array .int
  | 59 => .array .int
  | 60 => .int
  | 61 => .int
  | 62 => .int
  | 63 => .int
  | 64 => .int
  | 65 => .int
  | 66 => .int
  | 67 => .array .int
  | 68 => .array .int
  | 69 => .array .int
  | 70 => .array .boolean
  | 71 => .array .int
  | 72 => .array .int
  | 73 => .int
  | _ => .array .int
abbrev wsX120 : List Cond := u_ws RX12 TX12 75
theorem nmX12 : ∀ a, a < 75 → ∀ b, b < 75 → a ≠ b → (TX12 a).2.1 ≠ (TX12 b).2.1 := by decide +kernel
theorem tyX12_ok : ∀ k, k < 75 → parseFieldDescriptor (TX12 k).2.2.1 = some (tyX12 k) := by decide +kernel
abbrev cX12_thrown : ByteArray := prog_14_method_1_code
def yX12_thrown : MethodName := ⟨RX12, "thrown", "()I"⟩
abbrev cX12_feed : ByteArray := prog_14_method_2_code
def yX12_feed : MethodName := ⟨RX12, "feed", "(JJJ)I"⟩
abbrev cX12_lay : ByteArray := prog_14_method_3_code
def yX12_lay : MethodName := ⟨RX12, "lay", "(J)V"⟩
abbrev cX12_init : ByteArray := prog_14_method_4_code
def yX12_init : MethodName := ⟨RX12, "<init>", "(II)V"⟩
abbrev cX12_isLetter : ByteArray := prog_14_method_5_code
def yX12_isLetter : MethodName := ⟨RX12, "isLetter", "(I)Z"⟩
abbrev cX12_isDigit : ByteArray := prog_14_method_6_code
def yX12_isDigit : MethodName := ⟨RX12, "isDigit", "(I)Z"⟩
abbrev cX12_rank : ByteArray := prog_14_method_7_code
def yX12_rank : MethodName := ⟨RX12, "rank", "(I)I"⟩
abbrev cX12_isSignOf : ByteArray := prog_14_method_8_code
def yX12_isSignOf : MethodName := ⟨RX12, "isSignOf", "(I)Z"⟩
abbrev cX12_cutAll : ByteArray := prog_14_method_9_code
def yX12_cutAll : MethodName := ⟨RX12, "cutAll", "()V"⟩
abbrev cX12_wrong : ByteArray := prog_14_method_10_code
def yX12_wrong : MethodName := ⟨RX12, "wrong", "(I)V"⟩
abbrev cX12_isSign : ByteArray := prog_14_method_11_code
def yX12_isSign : MethodName := ⟨RX12, "isSign", "(I)Z"⟩
abbrev cX12_isWord : ByteArray := prog_14_method_12_code
def yX12_isWord : MethodName := ⟨RX12, "isWord", "(I)Z"⟩
abbrev cX12_takeSign : ByteArray := prog_14_method_13_code
def yX12_takeSign : MethodName := ⟨RX12, "takeSign", "(I)V"⟩
abbrev cX12_hasSign : ByteArray := prog_14_method_14_code
def yX12_hasSign : MethodName := ⟨RX12, "hasSign", "(I)Z"⟩
abbrev cX12_hasWord : ByteArray := prog_14_method_15_code
def yX12_hasWord : MethodName := ⟨RX12, "hasWord", "(I)Z"⟩
abbrev cX12_takeWord : ByteArray := prog_14_method_16_code
def yX12_takeWord : MethodName := ⟨RX12, "takeWord", "(I)V"⟩
abbrev cX12_takeNumber : ByteArray := prog_14_method_17_code
def yX12_takeNumber : MethodName := ⟨RX12, "takeNumber", "(II)I"⟩
abbrev cX12_oneOf : ByteArray := prog_14_method_18_code
def yX12_oneOf : MethodName := ⟨RX12, "oneOf", "(II)I"⟩
abbrev cX12_emit : ByteArray := prog_14_method_19_code
def yX12_emit : MethodName := ⟨RX12, "emit", "(II)V"⟩
abbrev cX12_readText : ByteArray := prog_14_method_20_code
def yX12_readText : MethodName := ⟨RX12, "readText", "()V"⟩
abbrev cX12_isRule : ByteArray := prog_14_method_21_code
def yX12_isRule : MethodName := ⟨RX12, "isRule", "()Z"⟩
abbrev cX12_readRule : ByteArray := prog_14_method_22_code
def yX12_readRule : MethodName := ⟨RX12, "readRule", "()V"⟩
abbrev cX12_readAmount : ByteArray := prog_14_method_23_code
def yX12_readAmount : MethodName := ⟨RX12, "readAmount", "(I)V"⟩
abbrev cX12_readWhom : ByteArray := prog_14_method_24_code
def yX12_readWhom : MethodName := ⟨RX12, "readWhom", "(I)V"⟩
abbrev cX12_code : ByteArray := prog_14_method_25_code
def yX12_code : MethodName := ⟨RX12, "code", "()I"⟩
abbrev cX12_opens : ByteArray := prog_14_method_26_code
def yX12_opens : MethodName := ⟨RX12, "opens", "()V"⟩
abbrev cX12_expression : ByteArray := prog_14_method_27_code
def yX12_expression : MethodName := ⟨RX12, "expression", "()V"⟩
abbrev cX12_isPart : ByteArray := prog_14_method_28_code
def yX12_isPart : MethodName := ⟨RX12, "isPart", "()Z"⟩
abbrev cX12_part : ByteArray := prog_14_method_29_code
def yX12_part : MethodName := ⟨RX12, "part", "()Z"⟩
abbrev cX12_goesOn : ByteArray := prog_14_method_30_code
def yX12_goesOn : MethodName := ⟨RX12, "goesOn", "()Z"⟩
abbrev cX12_keep : ByteArray := prog_14_method_31_code
def yX12_keep : MethodName := ⟨RX12, "keep", "(I)V"⟩
abbrev cX12_text : ByteArray := prog_14_method_32_code
def yX12_text : MethodName := ⟨RX12, "text", "(I)I"⟩
abbrev cX12_other : ByteArray := prog_14_method_33_code
def yX12_other : MethodName := ⟨RX12, "other", "()I"⟩
abbrev cX12_house : ByteArray := prog_14_method_34_code
def yX12_house : MethodName := ⟨RX12, "house", "(II)I"⟩
abbrev cX12_read : ByteArray := prog_14_method_35_code
def yX12_read : MethodName := ⟨RX12, "read", "(IIII)Z"⟩
abbrev cX12_days : ByteArray := prog_14_method_36_code
def yX12_days : MethodName := ⟨RX12, "days", "(I)I"⟩
abbrev cX12_known : ByteArray := prog_14_method_37_code
def yX12_known : MethodName := ⟨RX12, "known", "(I)Z"⟩
abbrev cX12_works : ByteArray := prog_14_method_38_code
def yX12_works : MethodName := ⟨RX12, "works", "(IIZ)V"⟩
abbrev cX12_quarterBegins : ByteArray := prog_14_method_39_code
def yX12_quarterBegins : MethodName := ⟨RX12, "quarterBegins", "(Z)V"⟩
abbrev cX12_quarterEnds : ByteArray := prog_14_method_40_code
def yX12_quarterEnds : MethodName := ⟨RX12, "quarterEnds", "()V"⟩
abbrev cX12_worth : ByteArray := prog_14_method_41_code
def yX12_worth : MethodName := ⟨RX12, "worth", "(I)I"⟩
abbrev cX12_partOf : ByteArray := prog_14_method_42_code
def yX12_partOf : MethodName := ⟨RX12, "partOf", "(I)I"⟩
abbrev cX12_rule : ByteArray := prog_14_method_43_code
def yX12_rule : MethodName := ⟨RX12, "rule", "(I)V"⟩
abbrev cX12_can : ByteArray := prog_14_method_44_code
def yX12_can : MethodName := ⟨RX12, "can", "(I)Z"⟩
abbrev cX12_chooses : ByteArray := prog_14_method_45_code
def yX12_chooses : MethodName := ⟨RX12, "chooses", "(I)I"⟩
abbrev cX12_givesBy : ByteArray := prog_14_method_46_code
def yX12_givesBy : MethodName := ⟨RX12, "givesBy", "(II)V"⟩
abbrev cX12_least : ByteArray := prog_14_method_47_code
def yX12_least : MethodName := ⟨RX12, "least", "(II)I"⟩
abbrev cX12_hands : ByteArray := prog_14_method_48_code
def yX12_hands : MethodName := ⟨RX12, "hands", "(IIII)V"⟩
abbrev cX12_oneByOne : ByteArray := prog_14_method_49_code
def yX12_oneByOne : MethodName := ⟨RX12, "oneByOne", "(III)V"⟩
abbrev cX12_nextOf : ByteArray := prog_14_method_50_code
def yX12_nextOf : MethodName := ⟨RX12, "nextOf", "()I"⟩
abbrev cX12_lookDay : ByteArray := prog_14_method_51_code
def yX12_lookDay : MethodName := ⟨RX12, "lookDay", "()I"⟩
abbrev cX12_had : ByteArray := prog_14_method_52_code
def yX12_had : MethodName := ⟨RX12, "had", "(III)I"⟩
abbrev cX12_quarter : ByteArray := prog_14_method_53_code
def yX12_quarter : MethodName := ⟨RX12, "quarter", "(II)I"⟩
abbrev cX12_by : ByteArray := prog_14_method_54_code
def yX12_by : MethodName := ⟨RX12, "by", "(III)I"⟩
abbrev cX12_would : ByteArray := prog_14_method_55_code
def yX12_would : MethodName := ⟨RX12, "would", "(II)I"⟩
abbrev cX12_bills : ByteArray := prog_14_method_56_code
def yX12_bills : MethodName := ⟨RX12, "bills", "()I"⟩
abbrev cX12_bill : ByteArray := prog_14_method_57_code
def yX12_bill : MethodName := ⟨RX12, "bill", "(II)I"⟩
abbrev cX12_count : ByteArray := prog_14_method_58_code
def yX12_count : MethodName := ⟨RX12, "count", "(I)I"⟩
def RJx29ce0 : String := "java/lang/Enum"
def TJx29ce0 : u_T := fun k => match k with
  | _ => ("", "", "", false)
def tyJx29ce0 : Nat → FieldType := fun k => match k with
  | _ => .int
abbrev wsJx29ce00 : List Cond := u_ws RJx29ce0 TJx29ce0 0
theorem nmJx29ce0 : ∀ a, a < 0 → ∀ b, b < 0 → a ≠ b → (TJx29ce0 a).2.1 ≠ (TJx29ce0 b).2.1 := by decide +kernel
theorem tyJx29ce0_ok : ∀ k, k < 0 → parseFieldDescriptor (TJx29ce0 k).2.2.1 = some (tyJx29ce0 k) := by decide +kernel
def RJ9 : String := "java/lang/Math"
def TJ9 : u_T := fun k => match k with
  | _ => ("", "", "", false)
def tyJ9 : Nat → FieldType := fun k => match k with
  | _ => .int
abbrev wsJ90 : List Cond := u_ws RJ9 TJ9 0
theorem nmJ9 : ∀ a, a < 0 → ∀ b, b < 0 → a ≠ b → (TJ9 a).2.1 ≠ (TJ9 b).2.1 := by decide +kernel
theorem tyJ9_ok : ∀ k, k < 0 → parseFieldDescriptor (TJ9 k).2.2.1 = some (tyJ9 k) := by decide +kernel
abbrev cJ9_max_7cf53 : ByteArray := prog_17_method_65_code
def yJ9_max_7cf53 : MethodName := ⟨RJ9, "max", "(II)I"⟩
abbrev cJ9_min_7cf53 : ByteArray := prog_17_method_69_code
def yJ9_min_7cf53 : MethodName := ⟨RJ9, "min", "(II)I"⟩
abbrev cJ9_min_f86c9 : ByteArray := prog_17_method_70_code
def yJ9_min_f86c9 : MethodName := ⟨RJ9, "min", "(JJ)J"⟩
def RJ0 : String := "java/lang/String"
def TJ0 : u_T := fun k => match k with
  | _ => ("", "", "", false)
def tyJ0 : Nat → FieldType := fun k => match k with
  | _ => .int
abbrev wsJ00 : List Cond := u_ws RJ0 TJ0 0
theorem nmJ0 : ∀ a, a < 0 → ∀ b, b < 0 → a ≠ b → (TJ0 a).2.1 ≠ (TJ0 b).2.1 := by decide +kernel
theorem tyJ0_ok : ∀ k, k < 0 → parseFieldDescriptor (TJ0 k).2.2.1 = some (tyJ0 k) := by decide +kernel
abbrev cJ0_length_8abf5 : ByteArray := prog_19_method_54_code
def yJ0_length_8abf5 : MethodName := ⟨RJ0, "length", "()I"⟩
abbrev cJ0_charAt_5068e : ByteArray := prog_19_method_56_code
def yJ0_charAt_5068e : MethodName := ⟨RJ0, "charAt", "(I)C"⟩
abbrev cJ0_coder_7d493 : ByteArray := prog_19_method_152_code
def yJ0_coder_7d493 : MethodName := ⟨RJ0, "coder", "()B"⟩
abbrev cJ0_isLatin1_aae02 : ByteArray := prog_19_method_154_code
def yJ0_isLatin1_aae02 : MethodName := ⟨RJ0, "isLatin1", "()Z"⟩
abbrev cJ0_checkIndex_df160 : ByteArray := prog_19_method_155_code
def yJ0_checkIndex_df160 : MethodName := ⟨RJ0, "checkIndex", "(II)V"⟩
def RJ1 : String := "java/lang/StringLatin1"
def TJ1 : u_T := fun k => match k with
  | _ => ("", "", "", false)
def tyJ1 : Nat → FieldType := fun k => match k with
  | _ => .int
abbrev wsJ10 : List Cond := u_ws RJ1 TJ1 0
theorem nmJ1 : ∀ a, a < 0 → ∀ b, b < 0 → a ≠ b → (TJ1 a).2.1 ≠ (TJ1 b).2.1 := by decide +kernel
theorem tyJ1_ok : ∀ k, k < 0 → parseFieldDescriptor (TJ1 k).2.2.1 = some (tyJ1 k) := by decide +kernel
abbrev cJ1_charAt_3b067 : ByteArray := prog_20_method_2_code
def yJ1_charAt_3b067 : MethodName := ⟨RJ1, "charAt", "([BI)C"⟩
def RJ2 : String := "java/lang/StringUTF16"
def TJ2 : u_T := fun k => match k with
  | _ => ("", "", "", false)
def tyJ2 : Nat → FieldType := fun k => match k with
  | _ => .int
abbrev wsJ20 : List Cond := u_ws RJ2 TJ2 0
theorem nmJ2 : ∀ a, a < 0 → ∀ b, b < 0 → a ≠ b → (TJ2 a).2.1 ≠ (TJ2 b).2.1 := by decide +kernel
theorem tyJ2_ok : ∀ k, k < 0 → parseFieldDescriptor (TJ2 k).2.2.1 = some (tyJ2 k) := by decide +kernel
abbrev cJ2_getChar_3b067 : ByteArray := prog_21_method_5_code
def yJ2_getChar_3b067 : MethodName := ⟨RJ2, "getChar", "([BI)C"⟩
abbrev cJ2_length_9d52b : ByteArray := prog_21_method_6_code
def yJ2_length_9d52b : MethodName := ⟨RJ2, "length", "([B)I"⟩
abbrev cJ2_charAt_3b067 : ByteArray := prog_21_method_83_code
def yJ2_charAt_3b067 : MethodName := ⟨RJ2, "charAt", "([BI)C"⟩
abbrev cJ2_checkIndex_2214a : ByteArray := prog_21_method_91_code
def yJ2_checkIndex_2214a : MethodName := ⟨RJ2, "checkIndex", "(I[B)V"⟩
def RJ10 : String := "java/lang/System"
def TJ10 : u_T := fun k => match k with
  | _ => ("", "", "", false)
def tyJ10 : Nat → FieldType := fun k => match k with
  | _ => .int
abbrev wsJ100 : List Cond := u_ws RJ10 TJ10 0
theorem nmJ10 : ∀ a, a < 0 → ∀ b, b < 0 → a ≠ b → (TJ10 a).2.1 ≠ (TJ10 b).2.1 := by decide +kernel
theorem tyJ10_ok : ∀ k, k < 0 → parseFieldDescriptor (TJ10 k).2.2.1 = some (tyJ10 k) := by decide +kernel
def RJ3 : String := "jdk/internal/util/Preconditions"
def TJ3 : u_T := fun k => match k with
  | _ => ("", "", "", false)
def tyJ3 : Nat → FieldType := fun k => match k with
  | _ => .int
abbrev wsJ30 : List Cond := u_ws RJ3 TJ3 0
theorem nmJ3 : ∀ a, a < 0 → ∀ b, b < 0 → a ≠ b → (TJ3 a).2.1 ≠ (TJ3 b).2.1 := by decide +kernel
theorem tyJ3_ok : ∀ k, k < 0 → parseFieldDescriptor (TJ3 k).2.2.1 = some (tyJ3 k) := by decide +kernel
abbrev cJ3_checkIndex_8e157 : ByteArray := prog_25_method_11_code
def yJ3_checkIndex_8e157 : MethodName := ⟨RJ3, "checkIndex", "(IILjava/util/function/BiFunction;)I"⟩
def RL : String := "SunVillageLaw"
abbrev cL_cell : ByteArray := method_2_code
def yL_cell : MethodName := ⟨RL, "cell", "([II)I"⟩
abbrev cL_had : ByteArray := method_3_code
def yL_had : MethodName := ⟨RL, "had", "(LSunVillage;III[J)I"⟩
abbrev cL_quarter : ByteArray := method_4_code
def yL_quarter : MethodName := ⟨RL, "quarter", "(LSunVillage;II[J)I"⟩
abbrev cL_bill : ByteArray := method_5_code
def yL_bill : MethodName := ⟨RL, "bill", "(LSunVillage;II[J)I"⟩
abbrev cL_law : ByteArray := code
def yL_law : MethodName := ⟨RL, "law", "([I)Z"⟩
end
section
/-! ===== THE MEMORY: cells by numbers (0 null, 1 .. 34 tokens, 35 EACH, 36 .. 67 texts of tokens, from 100 on what the run makes) ===== -/
/-- how many, kinds, lengths, references -/
abbrev LT : Type := Nat × (Nat → Nat) × (Nat → Nat) × (Nat → Nat → Nat)
/-- ints, longs, tokens -/
abbrev MT : Type := (Nat → Nat → Int32) × (Nat → Nat → Int64) × (Nat → Nat → Nat)
/-- n0, tokens, EACH, texts, their bytes, numbers of kinds, places of fields, array kinds -/
abbrev GT : Type := Nat × (Nat → Nat) × Nat × (Nat → Nat) × (Nat → Nat) × (Nat → ClassId) × (Nat → Nat → Nat) × (Nat → ClassId)
def gn (g : GT) : Nat := g.1
def gad (g : GT) : Nat → Nat := g.2.1
def gea (g : GT) : Nat := g.2.2.1
def gk (g : GT) : Nat → Nat := g.2.2.2.1
def gv (g : GT) : Nat → Nat := g.2.2.2.2.1
def gC (g : GT) : Nat → ClassId := g.2.2.2.2.2.1
def gD (g : GT) : Nat → Nat → Nat := g.2.2.2.2.2.2.1
def gA (g : GT) : Nat → ClassId := g.2.2.2.2.2.2.2
abbrev lt_n (w : LT) : Nat := w.1
abbrev lt_t (w : LT) (a : Nat) : Nat := w.2.1 a
abbrev lt_l (w : LT) (a : Nat) : Nat := w.2.2.1 a
abbrev lt_p (w : LT) (a k : Nat) : Nat := w.2.2.2 a k
def up2 {α : Type} (f : Nat → Nat → α) (a k : Nat) (v : α) : Nat → Nat → α := fun b => if b = a then (fun j => if j = k then v else f a j) else f b
theorem up2_eq {α : Type} (f : Nat → Nat → α) (a k : Nat) (v : α) : up2 f a k v a k = v := by simp [up2]
theorem up2_at {α : Type} (f : Nat → Nat → α) (a k j : Nat) (v : α) : up2 f a k v a j = if j = k then v else f a j := by simp [up2]
theorem up2_ne {α : Type} (f : Nat → Nat → α) {a b : Nat} (k : Nat) (v : α) (h : b ≠ a) : up2 f a k v b = f b := by simp [up2, h]
def gI (u : MT) (a k : Nat) : Int32 := u.1 a k
def gL (u : MT) (a k : Nat) : Int64 := u.2.1 a k
def gK (u : MT) (a k : Nat) : Nat := u.2.2 a k
def sI (u : MT) (a k : Nat) (v : Int32) : MT := (up2 u.1 a k v, u.2)
def sL (u : MT) (a k : Nat) (v : Int64) : MT := (u.1, up2 u.2.1 a k v, u.2.2)
def sK (u : MT) (a k : Nat) (v : Nat) : MT := (u.1, u.2.1, up2 u.2.2 a k v)
def sP (w : LT) (a k b : Nat) : LT := (w.1, w.2.1, w.2.2.1, up2 w.2.2.2 a k b)
def adr (g : GT) (x : Nat) : Nat := if x ≤ 34 then gad g (x - 1) else if x = 35 then gea g else if x < 100 then gk g (x - 36) else gn g + (x - 100)
def tr (g : GT) (x : Nat) : Value := if x = 0 then .null else .ref (adr g x)
def trv (g : GT) (v : Value) : Value := match v with
  | .ref a => tr g a
  | v => v
theorem trv_cat (g : GT) (v : Value) : (trv g v).category = v.category := by
  cases v with
  | ref a => simp only [trv, tr]; split <;> rfl
  | _ => rfl
theorem tr_or (g : GT) (x : Nat) : tr g x = .null ∨ ∃ a, tr g x = .ref a := by
  unfold tr
  split
  · exact Or.inl rfl
  · exact Or.inr ⟨_, rfl⟩
theorem adr_dyn (g : GT) {a : Nat} (h : 100 ≤ a) : adr g a = gn g + (a - 100) := by
  simp [adr, show ¬ a ≤ 34 by omega, show ¬ a = 35 by omega, show ¬ a < 100 by omega]
theorem tr_dyn (g : GT) {a : Nat} (h : 100 ≤ a) : tr g a = .ref (adr g a) := by
  simp [tr, show ¬ a = 0 by omega]
/-! the kinds of cells: 0 .. 12 by the tables of fields; 20 int, 21 long, 22 boolean, 23 char, 24 tokens, 25 rules, 26 texts -/
def cS : Nat → String
  | 0 => RX0 | 1 => RX1 | 2 => RX2 | 3 => RX3 | 4 => RX4 | 5 => RX5 | 6 => RX6 | 7 => RX7 | 8 => RX8 | 9 => RX9 | 10 => RX10 | 11 => RX11 | _ => RX12
def cT : Nat → u_T
  | 0 => TX0 | 1 => TX1 | 2 => TX2 | 3 => TX3 | 4 => TX4 | 5 => TX5 | 6 => TX6 | 7 => TX7 | 8 => TX8 | 9 => TX9 | 10 => TX10 | 11 => TX11 | _ => TX12
def cN : Nat → Nat
  | 0 => 2 | 1 => 11 | 2 => 3 | 3 => 8 | 4 => 6 | 5 => 10 | 6 => 2 | 7 => 7 | 8 => 2 | 9 => 0 | 10 => 20 | 11 => 13 | _ => 75
def cY : Nat → Nat → FieldType
  | 0 => tyX0 | 1 => tyX1 | 2 => tyX2 | 3 => tyX3 | 4 => tyX4 | 5 => tyX5 | 6 => tyX6 | 7 => tyX7 | 8 => tyX8 | 9 => tyX9 | 10 => tyX10 | 11 => tyX11 | _ => tyX12
abbrev clL : List vw_C := [(RX0, TX0, 2), (RX1, TX1, 11), (RX2, TX2, 3), (RX3, TX3, 8), (RX4, TX4, 6), (RX5, TX5, 10), (RX6, TX6, 2), (RX7, TX7, 7), (RX8, TX8, 2), (RX9, TX9, 0), (RX10, TX10, 20), (RX11, TX11, 13), (RX12, TX12, 75)]
/-- a field's kind: 0 an int, 1 a reference, 2 a token -/
def fkT : List (List Nat) := [[1, 0], [1, 1, 1, 1, 0, 0, 1, 1, 1, 1, 1], [1, 1, 0], [1, 1, 1, 0, 0, 0, 0, 1], [1, 1, 1, 1, 1, 0], [2, 0, 0, 0, 0, 2, 2, 2, 0, 0], [1, 0], [1, 0, 2, 1, 0, 0, 0], [1, 0], [], [1, 0, 0, 0, 0, 0, 1, 1, 1, 1, 1, 1, 0, 1, 1, 1, 0, 0, 1, 1], [1, 1, 1, 1, 1, 1, 1, 1, 1, 1, 1, 0, 0], [0, 1, 0, 0, 1, 1, 1, 0, 0, 1, 1, 1, 1, 1, 1, 1, 1, 1, 1, 1, 1, 1, 0, 1, 1, 0, 0, 1, 1, 0, 0, 0, 1, 1, 0, 1, 1, 1, 1, 1, 0, 0, 0, 0, 0, 0, 0, 1, 1, 1, 1, 1, 1, 1, 1, 1, 1, 1, 1, 1, 0, 0, 0, 0, 0, 0, 0, 1, 1, 1, 1, 1, 1, 0, 1]]
def fk (t k : Nat) : Nat := (fkT.getD t []).getD k 0
def fkOk (t k : Nat) : Bool := match cY t k with
  | .int => fk t k == 0
  | .boolean => fk t k == 0
  | .object C => if C = "SunVillage$Token" then fk t k == 2 else fk t k == 1
  | .array _ => fk t k == 1
  | _ => false
theorem fk_ok : ∀ t, t < 13 → ∀ k, k < cN t → fkOk t k = true := by decide +kernel
def aTy : Nat → FieldType
  | 20 => .int | 21 => .long | 22 => .boolean | 23 => .char | 24 => .object "SunVillage$Token" | 25 => .object "SunVillage$Rule" | _ => .object "SunVillage$Text"
abbrev tyL (g : GT) : List (ClassId × FieldType) := [(gA g 20, .int), (gA g 21, .long), (gA g 22, .boolean), (gA g 23, .char), (gA g 24, .object "SunVillage$Token"), (gA g 25, .object "SunVillage$Rule"), (gA g 26, .object "SunVillage$Text")]
def fv (g : GT) (w : LT) (u : MT) (t a k : Nat) : Value := if fk t k = 0 then .int (gI u a k) else if fk t k = 1 then tr g (lt_p w a k) else tr g (gK u a k)
def av (g : GT) (w : LT) (u : MT) (t a j : Nat) : Value := if t = 21 then .long (gL u a j) else if t = 24 then tr g (gK u a j) else if t = 25 ∨ t = 26 then tr g (lt_p w a j) else .int (gI u a j)
def cellOk (g : GT) (w : LT) (u : MT) (a : Nat) (H : Heap) : Prop :=
  (lt_t w a < 13 → t_OB (adr g a) (gC g (lt_t w a)) (cN (lt_t w a)) (gD g (lt_t w a)) H (fv g w u (lt_t w a) a)) ∧
  (20 ≤ lt_t w a → lt_t w a < 27 → H[adr g a]? = some (arrV (gA g (lt_t w a)) (lt_l w a) (av g w u (lt_t w a) a)))
def Rep (g : GT) (w : LT) (u : MT) (H : Heap) : Prop :=
  H.size = gn g + (lt_n w - 100) ∧ 100 ≤ lt_n w ∧ (∀ a, a < 100 ∨ lt_n w ≤ a → lt_t w a = 99) ∧ ∀ a, 100 ≤ a → a < lt_n w → cellOk g w u a H
/-! the tokens -/
def tkN : List String := ["NOTHING", "END", "NUMBER", "OPEN", "CLOSE", "SEMICOLON", "HOUR", "DAY", "POOL", "STORE", "WANT", "PLUS", "MINUS", "LESS", "EQUAL", "WHEN", "GIVE", "FILL", "PRICE", "REST", "FROM", "TO", "BY", "ALL", "HOUSE", "LEAST", "HEADS", "WANTS", "SHARES", "BUY", "SELL", "FIRST", "MOST", "TURN"]
def tkC : List Int32 := [0, 0, 0, 0, 0, 0, -1, -2, -3, -4, -5, -6, -7, -8, -9, 0, 0, 0, 0, 0, 0, 0, 0, 0, 0, 0, 0, 0, 0, 0, 0, 0, 0, 0]
/-- which text a token is spelled by -/
def tkX (i : Nat) : Nat := i - 2
def tkL : List Nat := [0, 1, 1, 1, 4, 3, 4, 5, 4, 1, 1, 1, 1, 4, 4, 4, 5, 4, 4, 2, 2, 3, 5, 5, 5, 5, 6, 3, 4, 5, 4, 4]
def tkB : List (List Int32) := [[], [40], [41], [59], [104, 111, 117, 114], [100, 97, 121], [112, 111, 111, 108], [115, 116, 111, 114, 101], [119, 97, 110, 116], [43], [45], [60], [61], [119, 104, 101, 110], [103, 105, 118, 101], [102, 105, 108, 108], [112, 114, 105, 99, 101], [114, 101, 115, 116], [102, 114, 111, 109], [116, 111], [98, 121], [97, 108, 108], [104, 111, 117, 115, 101], [108, 101, 97, 115, 116], [104, 101, 97, 100, 115], [119, 97, 110, 116, 115], [115, 104, 97, 114, 101, 115], [98, 117, 121], [115, 101, 108, 108], [102, 105, 114, 115, 116], [109, 111, 115, 116], [116, 117, 114, 110]]
abbrev fr (g : GT) : Nat → Prop := fun q => gn g ≤ q
abbrev Stk (g : GT) (U : State) : Prop := va_En "SunVillage$Token" "LSunVillage$Token;" tkN [("SunVillage$Token", "code", "I", tkC)] (gad g) (fr g) U U.heap
def Stx (g : GT) (U : State) : Prop :=
  va_Z "SunVillage$Token" "EACH" "[LSunVillage$Token;" (.ref (gea g)) (fr g) U U.heap ∧ va_T (.object "SunVillage$Token") (gea g) 34 (fun i => .ref (gad g i)) (fr g) U U.heap ∧
  va_Ef 34 "SunVillage$Token" "spelling" "Ljava/lang/String;" (fun i => .ref (gk g (tkX i))) (gad g) (fr g) U U.heap ∧ vk_S 32 tkL tkB (gk g) (gv g) (fr g) U U.heap
/-- the words of nest mates -/
def isNest : Cond → Bool
  | .fieldLinkNest .. => true
  | .methodLinkNest .. => true
  | _ => false
def NWs : List Cond := tables_1.filter isNest
theorem NW_at {w : Cond} (i : Nat) (h : tables_1[i]? = some w) (hg : isNest w = true) : w ∈ NWs := List.mem_filter.mpr ⟨List.mem_of_getElem? h, hg⟩
theorem NW_warm {w : Cond} {s U : State} (hw : w ∈ NWs) (hW : s.WarmedH U.vm) (h : va_Nw w s) : va_Nw w U := by
  have h1 := (List.mem_filter.mp hw).2
  cases w <;> first | (simp [isNest] at h1; done) | exact va_Nw.warmF hW h | exact va_Nw.warmM hW h
theorem NW_use {w : Cond} {s : State} (hw : w ∈ NWs) (h : va_Nw w s) (args : Array Value) : w.before args s = true := by
  have h1 := (List.mem_filter.mp hw).2
  cases w <;> first | (simp [isNest] at h1; done) | exact va_Nw.use rfl h
/-- what is there from the start, and stays -/
def Stc (g : GT) (U : State) : Prop := va_K (gC g, gD g) clL (tyL g) U ∧ Stk g U ∧ Stx g U ∧ gn g ≤ U.heap.size ∧ (∀ w ∈ NWs, va_Nw w U) ∧ va_AO "SunVillage$Token" U ∧ va_AO "SunVillage$Rule" U ∧ va_AO "SunVillage$Text" U
theorem Stc.go {g : GT} {s U : State} (h : Stc g s) (hW : s.WarmedH U.vm) (hz : s.heap.size ≤ U.heap.size) (hq : ∀ a : Nat, a < s.heap.size → ¬ fr g a → U.heap[a]? = s.heap[a]?) : Stc g U := by
  have hvm := hW.alike
  obtain ⟨h1, h2, ⟨h3, h4, h5, h6⟩, h7, h8, h9, h10, h11⟩ := h
  exact ⟨va_K.moved hvm h1, va_En.moved hvm (va_En.kept h2 hq), ⟨va_Z.moved hvm (h3.kept hq), va_T.moved hvm (h4.kept hq), va_Ef.moved hvm (h5.kept hq), vk_S.moved hvm (h6.kept hq)⟩, Nat.le_trans h7 hz, fun w hw => NW_warm hw hW (h8 w hw), va_AO.moved hvm h9, va_AO.moved hvm h10, va_AO.moved hvm h11⟩
theorem Stc.nest {g : GT} {s : State} (h : Stc g s) {w : Cond} (hw : w ∈ NWs) (args : Array Value) : w.before args s = true := NW_use hw (h.2.2.2.2.1 w hw) args
theorem va_RA_name {U : State} {cA : ClassId} {ty : FieldType} (h : va_RA U cA ty) : U.vm.findClass ("[" ++ ty.toString) = some cA := by
  cases ty with
  | object C =>
    obtain ⟨kA, comp, h1, h2, h3, h4⟩ := h
    exact h4
  | _ => exact h
/-! the words -/
def WT : List Cond := lw_tbl.filter goodWord
theorem WT_in {w : Cond} (h : w ∈ WT) : w ∈ lw_tbl := (List.mem_filter.mp h).1
theorem WT_good : GoodIn WT WT := fun w h => ⟨h, good_of_word (List.mem_filter.mp h).2⟩
/-- the word at a place of the tables -/
theorem WT_at {w : Cond} (i : Nat) (h : tables_1[i]? = some w) (hg : goodWord w = true) : w ∈ WT := List.mem_filter.mpr ⟨List.mem_append_right _ (List.mem_of_getElem? h), hg⟩
theorem WT_sel {w : Cond} (i : Nat) (h : (k2_sels lw_privs)[i]? = some w) (hg : goodWord w = true) : w ∈ WT := List.mem_filter.mpr ⟨List.mem_append_left _ (List.mem_of_getElem? h), hg⟩
theorem cl_at : ∀ t, t < 13 → clL[t]? = some (cS t, cT t, cN t) := fun t h => by
  match t, h with
  | 0, _ => rfl | 1, _ => rfl | 2, _ => rfl | 3, _ => rfl | 4, _ => rfl | 5, _ => rfl | 6, _ => rfl | 7, _ => rfl | 8, _ => rfl | 9, _ => rfl | 10, _ => rfl | 11, _ => rfl | 12, _ => rfl
  | n + 13, h => omega
set_option maxRecDepth 20000 in
theorem cl_ws : ∀ t, t < 13 → ∀ w ∈ u_ws (cS t) (cT t) (cN t), w ∈ WT := by decide +kernel
theorem cl_ty : ∀ t, t < 13 → ∀ k, k < cN t → parseFieldDescriptor (cT t k).2.2.1 = some (cY t k) := by decide +kernel
theorem cl_nm : ∀ t, t < 13 → ∀ a, a < cN t → ∀ b, b < cN t → a ≠ b → (cT t a).2.1 ≠ (cT t b).2.1 := fun t h => by
  match t, h with
  | 0, _ => exact nmX0 | 1, _ => exact nmX1 | 2, _ => exact nmX2 | 3, _ => exact nmX3 | 4, _ => exact nmX4 | 5, _ => exact nmX5 | 6, _ => exact nmX6 | 7, _ => exact nmX7 | 8, _ => exact nmX8 | 9, _ => exact nmX9 | 10, _ => exact nmX10 | 11, _ => exact nmX11 | 12, _ => exact nmX12
  | n + 13, h => omega
/-! a word at a place of a part of the tables -/
theorem WT_c1 {w : Cond} (i : Nat) (h0 : tables_1_1[i]? = some w) (hg : goodWord w = true) : w ∈ WT := by
  have h : w ∈ tables_1_1 := List.mem_of_getElem? h0
  exact List.mem_filter.mpr ⟨List.mem_append_right _ (show w ∈ tables_1 from List.mem_append_left _ (h)), hg⟩
theorem NW_c1 {w : Cond} (i : Nat) (h0 : tables_1_1[i]? = some w) (hg : isNest w = true) : w ∈ NWs := by
  have h : w ∈ tables_1_1 := List.mem_of_getElem? h0
  exact List.mem_filter.mpr ⟨(show w ∈ tables_1 from List.mem_append_left _ (h)), hg⟩
theorem WT_c2 {w : Cond} (i : Nat) (h0 : tables_1_2[i]? = some w) (hg : goodWord w = true) : w ∈ WT := by
  have h : w ∈ tables_1_2 := List.mem_of_getElem? h0
  exact List.mem_filter.mpr ⟨List.mem_append_right _ (show w ∈ tables_1 from List.mem_append_right _ (List.mem_append_left _ (h))), hg⟩
theorem NW_c2 {w : Cond} (i : Nat) (h0 : tables_1_2[i]? = some w) (hg : isNest w = true) : w ∈ NWs := by
  have h : w ∈ tables_1_2 := List.mem_of_getElem? h0
  exact List.mem_filter.mpr ⟨(show w ∈ tables_1 from List.mem_append_right _ (List.mem_append_left _ (h))), hg⟩
theorem WT_c3 {w : Cond} (i : Nat) (h0 : tables_1_3[i]? = some w) (hg : goodWord w = true) : w ∈ WT := by
  have h : w ∈ tables_1_3 := List.mem_of_getElem? h0
  exact List.mem_filter.mpr ⟨List.mem_append_right _ (show w ∈ tables_1 from List.mem_append_right _ (List.mem_append_right _ (List.mem_append_left _ (h)))), hg⟩
theorem NW_c3 {w : Cond} (i : Nat) (h0 : tables_1_3[i]? = some w) (hg : isNest w = true) : w ∈ NWs := by
  have h : w ∈ tables_1_3 := List.mem_of_getElem? h0
  exact List.mem_filter.mpr ⟨(show w ∈ tables_1 from List.mem_append_right _ (List.mem_append_right _ (List.mem_append_left _ (h)))), hg⟩
theorem WT_c4 {w : Cond} (i : Nat) (h0 : tables_1_4[i]? = some w) (hg : goodWord w = true) : w ∈ WT := by
  have h : w ∈ tables_1_4 := List.mem_of_getElem? h0
  exact List.mem_filter.mpr ⟨List.mem_append_right _ (show w ∈ tables_1 from List.mem_append_right _ (List.mem_append_right _ (List.mem_append_right _ (List.mem_append_left _ (h))))), hg⟩
theorem NW_c4 {w : Cond} (i : Nat) (h0 : tables_1_4[i]? = some w) (hg : isNest w = true) : w ∈ NWs := by
  have h : w ∈ tables_1_4 := List.mem_of_getElem? h0
  exact List.mem_filter.mpr ⟨(show w ∈ tables_1 from List.mem_append_right _ (List.mem_append_right _ (List.mem_append_right _ (List.mem_append_left _ (h))))), hg⟩
theorem WT_c5 {w : Cond} (i : Nat) (h0 : tables_1_5[i]? = some w) (hg : goodWord w = true) : w ∈ WT := by
  have h : w ∈ tables_1_5 := List.mem_of_getElem? h0
  exact List.mem_filter.mpr ⟨List.mem_append_right _ (show w ∈ tables_1 from List.mem_append_right _ (List.mem_append_right _ (List.mem_append_right _ (List.mem_append_right _ (List.mem_append_left _ (h)))))), hg⟩
theorem NW_c5 {w : Cond} (i : Nat) (h0 : tables_1_5[i]? = some w) (hg : isNest w = true) : w ∈ NWs := by
  have h : w ∈ tables_1_5 := List.mem_of_getElem? h0
  exact List.mem_filter.mpr ⟨(show w ∈ tables_1 from List.mem_append_right _ (List.mem_append_right _ (List.mem_append_right _ (List.mem_append_right _ (List.mem_append_left _ (h)))))), hg⟩
theorem WT_c6 {w : Cond} (i : Nat) (h0 : tables_1_6[i]? = some w) (hg : goodWord w = true) : w ∈ WT := by
  have h : w ∈ tables_1_6 := List.mem_of_getElem? h0
  exact List.mem_filter.mpr ⟨List.mem_append_right _ (show w ∈ tables_1 from List.mem_append_right _ (List.mem_append_right _ (List.mem_append_right _ (List.mem_append_right _ (List.mem_append_right _ (List.mem_append_left _ (h))))))), hg⟩
theorem NW_c6 {w : Cond} (i : Nat) (h0 : tables_1_6[i]? = some w) (hg : isNest w = true) : w ∈ NWs := by
  have h : w ∈ tables_1_6 := List.mem_of_getElem? h0
  exact List.mem_filter.mpr ⟨(show w ∈ tables_1 from List.mem_append_right _ (List.mem_append_right _ (List.mem_append_right _ (List.mem_append_right _ (List.mem_append_right _ (List.mem_append_left _ (h))))))), hg⟩
theorem WT_c7 {w : Cond} (i : Nat) (h0 : tables_1_7[i]? = some w) (hg : goodWord w = true) : w ∈ WT := by
  have h : w ∈ tables_1_7 := List.mem_of_getElem? h0
  exact List.mem_filter.mpr ⟨List.mem_append_right _ (show w ∈ tables_1 from List.mem_append_right _ (List.mem_append_right _ (List.mem_append_right _ (List.mem_append_right _ (List.mem_append_right _ (List.mem_append_right _ (h))))))), hg⟩
theorem NW_c7 {w : Cond} (i : Nat) (h0 : tables_1_7[i]? = some w) (hg : isNest w = true) : w ∈ NWs := by
  have h : w ∈ tables_1_7 := List.mem_of_getElem? h0
  exact List.mem_filter.mpr ⟨(show w ∈ tables_1 from List.mem_append_right _ (List.mem_append_right _ (List.mem_append_right _ (List.mem_append_right _ (List.mem_append_right _ (List.mem_append_right _ (h))))))), hg⟩
end
section
/-! ===== THE JUDGEMENT V: a method's body over the memory ===== -/
abbrev ZT : Type := Program × Launch × Env × Room × State × MethodId × Array Value × List Frame × Method × Code
def QQ (g : GT) (Q : Option Value → LT → MT → Prop) : Array Value → State → Outcome → State → Prop := fun _ st o t => (∃ (v : Option Value) (w : LT) (u : MT), o = .returned (v.map (trv g)) ∧ Q v w u ∧ Rep g w u t.heap) ∧ va_F (fr g) st t
abbrev rmD (D mc ms : Nat) : Room := { frames := D, cells := mc, slots := ms, locals := 64 * D }
def Cx (z : ZT) (g : GT) (cc : ByteArray) (nL : Nat) (own : String) (ret : Option FieldType) (D mc ms : Nat) : Prop := match z with
  | (p, _, _, R, s, m, args, _, meth, c) => p.tables.exec = Jvm.exec ∧ c.code = cc ∧ c.maxLocals = nL ∧ s.vm.findClass own = some m.cls ∧ (∀ w ∈ WT, w.before args s = true) ∧ meth.sig.returnType = ret ∧ meth.locks = false ∧ Stc g s ∧ R = rmD D mc ms
def Cn (z : ZT) : Prop := match z with
  | (_, _, _, _, _, _, _, _, meth, _) => meth.name = "<init>"
def V (z : ZT) (g : GT) (nL : Nat) (pc : Nat) (lv : List (Nat × Value)) (st : List Value) (w : LT) (u : MT) (kc ks : Nat) (Q : Option Value → LT → MT → Prop) : Prop := match z with
  | (p, l, e, R, s, m, args, below, meth, c) => ∀ (H : Heap) (locs : List Loc) (ls : Array Slot), Rep g w u H → va_S (fr g) s.heap H locs → lv_has ls nL (lv.map fun q => (q.1, trv g q.2)) → W p l e R s m args below meth c H locs kc ks (MQ below (QQ g Q) args s R.cells R.slots (fr g)) (F0 m pc ls (st.map (trv g)))
theorem lvm_at {g : GT} {lv : List (Nat × Value)} {ls : Array Slot} {nL j i : Nat} {v : Value} (hl : lv_has ls nL (lv.map fun q => (q.1, trv g q.2))) (h : lv[j]? = some (i, v)) : ls[i]? = some (.val (trv g v)) := lv_at hl j (by rw [List.getElem?_map, h]; rfl)
def lst1 (i : Nat) (v : Value) (lv : List (Nat × Value)) : List (Nat × Value) := (i, v) :: lv.filter (fun q => !(q.1 == i) && !(q.1 + 1 == i && q.2.category == 2))
def lst2 (i : Nat) (v : Value) (lv : List (Nat × Value)) : List (Nat × Value) := (i, v) :: lv.filter (fun q => !(q.1 == i) && (!(q.1 == i + 1) && !(q.1 + 1 == i && q.2.category == 2)))
theorem lst1_map (g : GT) (i : Nat) (v : Value) (lv : List (Nat × Value)) : lst1 i (trv g v) (lv.map fun q => (q.1, trv g q.2)) = (lst1 i v lv).map fun q => (q.1, trv g q.2) := by
  unfold lst1
  rw [List.map_cons, List.filter_map]
  congr 2
  apply List.filter_congr
  intro q _
  simp only [Function.comp, trv_cat]
theorem lst2_map (g : GT) (i : Nat) (v : Value) (lv : List (Nat × Value)) : lst2 i (trv g v) (lv.map fun q => (q.1, trv g q.2)) = (lst2 i v lv).map fun q => (q.1, trv g q.2) := by
  unfold lst2
  rw [List.map_cons, List.filter_map]
  congr 2
  apply List.filter_congr
  intro q _
  simp only [Function.comp, trv_cat]
theorem trm_sum (g : GT) (st : List Value) : ((st.map (trv g)).map fun v => v.category).sum = (st.map fun v => v.category).sum := by
  rw [List.map_map]
  congr 1
  apply List.map_congr_left
  intro v _
  exact trv_cat g v
section VPURE
variable {z : ZT} {g : GT} {cc : ByteArray} {nL : Nat} {own : String} {ret : Option FieldType} {D mc ms : Nat} {pc : Nat} {lv lv' : List (Nat × Value)} {st : List Value} {w : LT} {u : MT} {kc ks : Nat} {Q : Option Value → LT → MT → Prop}
theorem Viconst {n : Int} {x : Int32} (C : Cx z g cc nL own ret D mc ms) (d : decode cc pc = .ok (.iconst n, 1)) (hv : Int32.ofInt n = x) (k : V z g nL (pc + 1) lv (.int x :: st) w u kc ks Q) : V z g nL pc lv (st) w u kc ks Q := by
  obtain ⟨p, l, e, R, s, m, args, below, meth, c⟩ := z
  intro H locs ls hR hS hl
  exact lv_iconst C.1 C.2.1 d hv (k H locs ls hR hS hl)
theorem Vbipush {n : Int} {x : Int32} (C : Cx z g cc nL own ret D mc ms) (d : decode cc pc = .ok (.bipush n, 2)) (hv : (Int8.ofInt n).toInt32 = x) (k : V z g nL (pc + 2) lv (.int x :: st) w u kc ks Q) : V z g nL pc lv (st) w u kc ks Q := by
  obtain ⟨p, l, e, R, s, m, args, below, meth, c⟩ := z
  intro H locs ls hR hS hl
  exact lv_bipush C.1 C.2.1 d hv (k H locs ls hR hS hl)
theorem Vsipush {n : Int} {x : Int32} (C : Cx z g cc nL own ret D mc ms) (d : decode cc pc = .ok (.sipush n, 3)) (hv : (Int16.ofInt n).toInt32 = x) (k : V z g nL (pc + 3) lv (.int x :: st) w u kc ks Q) : V z g nL pc lv (st) w u kc ks Q := by
  obtain ⟨p, l, e, R, s, m, args, below, meth, c⟩ := z
  intro H locs ls hR hS hl
  exact lv_sipush C.1 C.2.1 d hv (k H locs ls hR hS hl)
theorem Vlconst {n : Fin 2} {x : Int64} (C : Cx z g cc nL own ret D mc ms) (d : decode cc pc = .ok (.lconst n, 1)) (hv : Int64.ofNat (n : Nat) = x) (k : V z g nL (pc + 1) lv (.long x :: st) w u kc ks Q) : V z g nL pc lv (st) w u kc ks Q := by
  obtain ⟨p, l, e, R, s, m, args, below, meth, c⟩ := z
  intro H locs ls hR hS hl
  exact lv_lconst C.1 C.2.1 d hv (k H locs ls hR hS hl)
theorem Vnull  (C : Cx z g cc nL own ret D mc ms) (d : decode cc pc = .ok (.aconst_null, 1)) (k : V z g nL (pc + 1) lv (.ref 0 :: st) w u kc ks Q) : V z g nL pc lv (st) w u kc ks Q := by
  obtain ⟨p, l, e, R, s, m, args, below, meth, c⟩ := z
  intro H locs ls hR hS hl
  exact lv_null C.1 C.2.1 d (k H locs ls hR hS hl)
theorem Vldc {i : Nat} {x : Int32} (C : Cx z g cc nL own ret D mc ms) (hw : Cond.constant own i x ∈ WT) (d : decode cc pc = .ok (.ldc i, 2)) (k : V z g nL (pc + 2) lv (.int x :: st) w u kc ks Q) : V z g nL pc lv (st) w u kc ks Q := by
  obtain ⟨p, l, e, R, s, m, args, below, meth, c⟩ := z
  intro H locs ls hR hS hl
  exact lv_ldc C.1 C.2.1 C.2.2.2.1 (C.2.2.2.2.1 _ hw) d (k H locs ls hR hS hl)
theorem Vldc2 {i : Nat} {x : Int64} (C : Cx z g cc nL own ret D mc ms) (hw : Cond.constantLong own i x ∈ WT) (d : decode cc pc = .ok (.ldc2_w i, 3)) (k : V z g nL (pc + 3) lv (.long x :: st) w u kc ks Q) : V z g nL pc lv (st) w u kc ks Q := by
  obtain ⟨p, l, e, R, s, m, args, below, meth, c⟩ := z
  intro H locs ls hR hS hl
  exact lv_ldc2 C.1 C.2.1 C.2.2.2.1 (C.2.2.2.2.1 _ hw) d (k H locs ls hR hS hl)
theorem Viload_n {k4 : Fin 4} {i : Nat} {x : Int32} (C : Cx z g cc nL own ret D mc ms) (j : Nat) (d : decode cc pc = .ok (.iload_n k4, 1)) (hi : (k4 : Nat) = i) (h : lv[j]? = some (i, .int x)) (k : V z g nL (pc + 1) lv (.int x :: st) w u kc ks Q) : V z g nL pc lv (st) w u kc ks Q := by
  obtain ⟨p, l, e, R, s, m, args, below, meth, c⟩ := z
  intro H locs ls hR hS hl
  exact lv_iload_n C.1 C.2.1 d hi (lvm_at (v := .int x) hl h) (k H locs ls hR hS hl)
theorem Viload {i : Nat} {x : Int32} (C : Cx z g cc nL own ret D mc ms) (j : Nat) (d : decode cc pc = .ok (.iload i, 2)) (h : lv[j]? = some (i, .int x)) (k : V z g nL (pc + 2) lv (.int x :: st) w u kc ks Q) : V z g nL pc lv (st) w u kc ks Q := by
  obtain ⟨p, l, e, R, s, m, args, below, meth, c⟩ := z
  intro H locs ls hR hS hl
  exact lv_iload C.1 C.2.1 d (lvm_at (v := .int x) hl h) (k H locs ls hR hS hl)
theorem Vlload_n {k4 : Fin 4} {i : Nat} {x : Int64} (C : Cx z g cc nL own ret D mc ms) (j : Nat) (d : decode cc pc = .ok (.lload_n k4, 1)) (hi : (k4 : Nat) = i) (h : lv[j]? = some (i, .long x)) (k : V z g nL (pc + 1) lv (.long x :: st) w u kc ks Q) : V z g nL pc lv (st) w u kc ks Q := by
  obtain ⟨p, l, e, R, s, m, args, below, meth, c⟩ := z
  intro H locs ls hR hS hl
  exact lv_lload_n C.1 C.2.1 d hi (lvm_at (v := .long x) hl h) (k H locs ls hR hS hl)
theorem Vlload {i : Nat} {x : Int64} (C : Cx z g cc nL own ret D mc ms) (j : Nat) (d : decode cc pc = .ok (.lload i, 2)) (h : lv[j]? = some (i, .long x)) (k : V z g nL (pc + 2) lv (.long x :: st) w u kc ks Q) : V z g nL pc lv (st) w u kc ks Q := by
  obtain ⟨p, l, e, R, s, m, args, below, meth, c⟩ := z
  intro H locs ls hR hS hl
  exact lv_lload C.1 C.2.1 d (lvm_at (v := .long x) hl h) (k H locs ls hR hS hl)
theorem Vaload_n {k4 : Fin 4} {i : Nat} {x : Nat} (C : Cx z g cc nL own ret D mc ms) (j : Nat) (d : decode cc pc = .ok (.aload_n k4, 1)) (hi : (k4 : Nat) = i) (h : lv[j]? = some (i, .ref x)) (k : V z g nL (pc + 1) lv (.ref x :: st) w u kc ks Q) : V z g nL pc lv st w u kc ks Q := by
  obtain ⟨p, l, e, R, s, m, args, below, meth, c⟩ := z
  intro H locs ls hR hS hl
  have h1 := lvm_at hl h
  have h2 := k H locs ls hR hS hl
  by_cases hx : x = 0
  · subst hx
    exact lv_aload_nN C.1 C.2.1 d hi h1 h2
  · simp only [trv, tr, hx, if_false, List.map_cons] at h1 h2
    exact lv_aload_n C.1 C.2.1 d hi h1 h2
theorem Vaload {i : Nat} {x : Nat} (C : Cx z g cc nL own ret D mc ms) (j : Nat) (d : decode cc pc = .ok (.aload i, 2)) (h : lv[j]? = some (i, .ref x)) (k : V z g nL (pc + 2) lv (.ref x :: st) w u kc ks Q) : V z g nL pc lv st w u kc ks Q := by
  obtain ⟨p, l, e, R, s, m, args, below, meth, c⟩ := z
  intro H locs ls hR hS hl
  have h1 := lvm_at hl h
  have h2 := k H locs ls hR hS hl
  by_cases hx : x = 0
  · subst hx
    exact lv_aloadN C.1 C.2.1 d h1 h2
  · simp only [trv, tr, hx, if_false, List.map_cons] at h1 h2
    exact lv_aload C.1 C.2.1 d h1 h2
theorem Vistore_n {k4 : Fin 4} {i : Nat} {x : Int32} (C : Cx z g cc nL own ret D mc ms) (d : decode cc pc = .ok (.istore_n k4, 1)) (hi : (k4 : Nat) = i) (hn : i < nL) (h : lst1 i (.int x) lv = lv') (k : V z g nL (pc + 1) lv' st w u kc ks Q) : V z g nL pc lv (.int x :: st) w u kc ks Q := by
  obtain ⟨p, l, e, R, s, m, args, below, meth, c⟩ := z
  intro H locs ls hR hS hl
  subst h
  exact lv_istore_n C.1 C.2.1 d hi hl hn (lst1_map g i (.int x) lv) (fun ls' hl' => k H locs ls' hR hS hl')
theorem Vistore {i : Nat} {x : Int32} (C : Cx z g cc nL own ret D mc ms) (d : decode cc pc = .ok (.istore i, 2)) (hn : i < nL) (h : lst1 i (.int x) lv = lv') (k : V z g nL (pc + 2) lv' st w u kc ks Q) : V z g nL pc lv (.int x :: st) w u kc ks Q := by
  obtain ⟨p, l, e, R, s, m, args, below, meth, c⟩ := z
  intro H locs ls hR hS hl
  subst h
  exact lv_istore C.1 C.2.1 d hl hn (lst1_map g i (.int x) lv) (fun ls' hl' => k H locs ls' hR hS hl')
theorem Vlstore_n {k4 : Fin 4} {i : Nat} {x : Int64} (C : Cx z g cc nL own ret D mc ms) (d : decode cc pc = .ok (.lstore_n k4, 1)) (hi : (k4 : Nat) = i) (hn : i + 1 < nL) (h : lst2 i (.long x) lv = lv') (k : V z g nL (pc + 1) lv' st w u kc ks Q) : V z g nL pc lv (.long x :: st) w u kc ks Q := by
  obtain ⟨p, l, e, R, s, m, args, below, meth, c⟩ := z
  intro H locs ls hR hS hl
  subst h
  exact lv_lstore_n C.1 C.2.1 d hi hl hn (lst2_map g i (.long x) lv) (fun ls' hl' => k H locs ls' hR hS hl')
theorem Vlstore {i : Nat} {x : Int64} (C : Cx z g cc nL own ret D mc ms) (d : decode cc pc = .ok (.lstore i, 2)) (hn : i + 1 < nL) (h : lst2 i (.long x) lv = lv') (k : V z g nL (pc + 2) lv' st w u kc ks Q) : V z g nL pc lv (.long x :: st) w u kc ks Q := by
  obtain ⟨p, l, e, R, s, m, args, below, meth, c⟩ := z
  intro H locs ls hR hS hl
  subst h
  exact lv_lstore C.1 C.2.1 d hl hn (lst2_map g i (.long x) lv) (fun ls' hl' => k H locs ls' hR hS hl')
theorem Vastore_n {k4 : Fin 4} {i : Nat} {x : Nat} (C : Cx z g cc nL own ret D mc ms) (d : decode cc pc = .ok (.astore_n k4, 1)) (hi : (k4 : Nat) = i) (hn : i < nL) (h : lst1 i (.ref x) lv = lv') (k : V z g nL (pc + 1) lv' st w u kc ks Q) : V z g nL pc lv (.ref x :: st) w u kc ks Q := by
  obtain ⟨p, l, e, R, s, m, args, below, meth, c⟩ := z
  intro H locs ls hR hS hl
  subst h
  have h1 := lst1_map g i (.ref x) lv
  by_cases hx : x = 0
  · subst hx
    exact lv_astore_nN C.1 C.2.1 d hi hl hn h1 (fun ls' hl' => k H locs ls' hR hS hl')
  · have h2 : trv g (.ref x) = .ref (adr g x) := by simp [trv, tr, hx]
    rw [h2] at h1
    show W p l e R s m args below meth c H locs kc ks _ (F0 m pc ls (trv g (.ref x) :: st.map (trv g)))
    rw [h2]
    exact lv_astore_n C.1 C.2.1 d hi hl hn h1 (fun ls' hl' => k H locs ls' hR hS hl')
theorem Vastore {i : Nat} {x : Nat} (C : Cx z g cc nL own ret D mc ms) (d : decode cc pc = .ok (.astore i, 2)) (hn : i < nL) (h : lst1 i (.ref x) lv = lv') (k : V z g nL (pc + 2) lv' st w u kc ks Q) : V z g nL pc lv (.ref x :: st) w u kc ks Q := by
  obtain ⟨p, l, e, R, s, m, args, below, meth, c⟩ := z
  intro H locs ls hR hS hl
  subst h
  have h1 := lst1_map g i (.ref x) lv
  by_cases hx : x = 0
  · subst hx
    exact lv_astoreN C.1 C.2.1 d hl hn h1 (fun ls' hl' => k H locs ls' hR hS hl')
  · have h2 : trv g (.ref x) = .ref (adr g x) := by simp [trv, tr, hx]
    rw [h2] at h1
    show W p l e R s m args below meth c H locs kc ks _ (F0 m pc ls (trv g (.ref x) :: st.map (trv g)))
    rw [h2]
    exact lv_astore C.1 C.2.1 d hl hn h1 (fun ls' hl' => k H locs ls' hR hS hl')
theorem Viinc {i j : Nat} {n : Int} {x v : Int32} (C : Cx z g cc nL own ret D mc ms) (d : decode cc pc = .ok (.iinc i n, 3)) (h : lv[j]? = some (i, .int x)) (hv : x + Int32.ofInt n = v) (hn : i < nL) (hl' : lst1 i (.int v) lv = lv') (k : V z g nL (pc + 3) lv' st w u kc ks Q) : V z g nL pc lv st w u kc ks Q := by
  obtain ⟨p, l, e, R, s, m, args, below, meth, c⟩ := z
  intro H locs ls hR hS hl
  subst hl'
  exact lv_iinc C.1 C.2.1 d hl (k := j) (by rw [List.getElem?_map, h]; rfl) hv hn (lst1_map g i (.int v) lv) (fun ls' hl' => k H locs ls' hR hS hl')
theorem Viadd {x y : Int32} (C : Cx z g cc nL own ret D mc ms) (d : decode cc pc = .ok (.iadd, 1)) (k : V z g nL (pc + 1) lv (.int (x + y) :: st) w u kc ks Q) : V z g nL pc lv (.int y :: .int x :: st) w u kc ks Q := by
  obtain ⟨p, l, e, R, s, m, args, below, meth, c⟩ := z
  intro H locs ls hR hS hl
  exact lv_iadd C.1 C.2.1 d (k H locs ls hR hS hl)
theorem Visub {x y : Int32} (C : Cx z g cc nL own ret D mc ms) (d : decode cc pc = .ok (.isub, 1)) (k : V z g nL (pc + 1) lv (.int (x - y) :: st) w u kc ks Q) : V z g nL pc lv (.int y :: .int x :: st) w u kc ks Q := by
  obtain ⟨p, l, e, R, s, m, args, below, meth, c⟩ := z
  intro H locs ls hR hS hl
  exact lv_isub C.1 C.2.1 d (k H locs ls hR hS hl)
theorem Vimul {x y : Int32} (C : Cx z g cc nL own ret D mc ms) (d : decode cc pc = .ok (.imul, 1)) (k : V z g nL (pc + 1) lv (.int (x * y) :: st) w u kc ks Q) : V z g nL pc lv (.int y :: .int x :: st) w u kc ks Q := by
  obtain ⟨p, l, e, R, s, m, args, below, meth, c⟩ := z
  intro H locs ls hR hS hl
  exact lv_imul C.1 C.2.1 d (k H locs ls hR hS hl)
theorem Viand {x y : Int32} (C : Cx z g cc nL own ret D mc ms) (d : decode cc pc = .ok (.iand, 1)) (k : V z g nL (pc + 1) lv (.int (x &&& y) :: st) w u kc ks Q) : V z g nL pc lv (.int y :: .int x :: st) w u kc ks Q := by
  obtain ⟨p, l, e, R, s, m, args, below, meth, c⟩ := z
  intro H locs ls hR hS hl
  exact lv_iand C.1 C.2.1 d (k H locs ls hR hS hl)
theorem Vidiv {x y : Int32} (C : Cx z g cc nL own ret D mc ms) (d : decode cc pc = .ok (.idiv, 1)) (hne : ¬ y = 0) (k : V z g nL (pc + 1) lv (.int (x / y) :: st) w u kc ks Q) : V z g nL pc lv (.int y :: .int x :: st) w u kc ks Q := by
  obtain ⟨p, l, e, R, s, m, args, below, meth, c⟩ := z
  intro H locs ls hR hS hl
  exact lv_idiv C.1 C.2.1 d hne (k H locs ls hR hS hl)
theorem Virem {x y : Int32} (C : Cx z g cc nL own ret D mc ms) (d : decode cc pc = .ok (.irem, 1)) (hne : ¬ y = 0) (k : V z g nL (pc + 1) lv (.int (x - x / y * y) :: st) w u kc ks Q) : V z g nL pc lv (.int y :: .int x :: st) w u kc ks Q := by
  obtain ⟨p, l, e, R, s, m, args, below, meth, c⟩ := z
  intro H locs ls hR hS hl
  exact lv_irem C.1 C.2.1 d hne (k H locs ls hR hS hl)
theorem Vineg {x : Int32} (C : Cx z g cc nL own ret D mc ms) (d : decode cc pc = .ok (.ineg, 1)) (k : V z g nL (pc + 1) lv (.int (-x) :: st) w u kc ks Q) : V z g nL pc lv (.int x :: st) w u kc ks Q := by
  obtain ⟨p, l, e, R, s, m, args, below, meth, c⟩ := z
  intro H locs ls hR hS hl
  exact lv_ineg C.1 C.2.1 d (k H locs ls hR hS hl)
theorem Vladd {x y : Int64} (C : Cx z g cc nL own ret D mc ms) (d : decode cc pc = .ok (.ladd, 1)) (k : V z g nL (pc + 1) lv (.long (x + y) :: st) w u kc ks Q) : V z g nL pc lv (.long y :: .long x :: st) w u kc ks Q := by
  obtain ⟨p, l, e, R, s, m, args, below, meth, c⟩ := z
  intro H locs ls hR hS hl
  exact lv_ladd C.1 C.2.1 d (k H locs ls hR hS hl)
theorem Vlsub {x y : Int64} (C : Cx z g cc nL own ret D mc ms) (d : decode cc pc = .ok (.lsub, 1)) (k : V z g nL (pc + 1) lv (.long (x - y) :: st) w u kc ks Q) : V z g nL pc lv (.long y :: .long x :: st) w u kc ks Q := by
  obtain ⟨p, l, e, R, s, m, args, below, meth, c⟩ := z
  intro H locs ls hR hS hl
  exact lv_lsub C.1 C.2.1 d (k H locs ls hR hS hl)
theorem Vlmul {x y : Int64} (C : Cx z g cc nL own ret D mc ms) (d : decode cc pc = .ok (.lmul, 1)) (k : V z g nL (pc + 1) lv (.long (x * y) :: st) w u kc ks Q) : V z g nL pc lv (.long y :: .long x :: st) w u kc ks Q := by
  obtain ⟨p, l, e, R, s, m, args, below, meth, c⟩ := z
  intro H locs ls hR hS hl
  exact lv_lmul C.1 C.2.1 d (k H locs ls hR hS hl)
theorem Vland {x y : Int64} (C : Cx z g cc nL own ret D mc ms) (d : decode cc pc = .ok (.land, 1)) (k : V z g nL (pc + 1) lv (.long (x &&& y) :: st) w u kc ks Q) : V z g nL pc lv (.long y :: .long x :: st) w u kc ks Q := by
  obtain ⟨p, l, e, R, s, m, args, below, meth, c⟩ := z
  intro H locs ls hR hS hl
  exact lv_land C.1 C.2.1 d (k H locs ls hR hS hl)
theorem Vlor {x y : Int64} (C : Cx z g cc nL own ret D mc ms) (d : decode cc pc = .ok (.lor, 1)) (k : V z g nL (pc + 1) lv (.long (x ||| y) :: st) w u kc ks Q) : V z g nL pc lv (.long y :: .long x :: st) w u kc ks Q := by
  obtain ⟨p, l, e, R, s, m, args, below, meth, c⟩ := z
  intro H locs ls hR hS hl
  exact lv_lor C.1 C.2.1 d (k H locs ls hR hS hl)
theorem Vldiv {x y : Int64} (C : Cx z g cc nL own ret D mc ms) (d : decode cc pc = .ok (.ldiv, 1)) (hne : ¬ y = 0) (k : V z g nL (pc + 1) lv (.long (x / y) :: st) w u kc ks Q) : V z g nL pc lv (.long y :: .long x :: st) w u kc ks Q := by
  obtain ⟨p, l, e, R, s, m, args, below, meth, c⟩ := z
  intro H locs ls hR hS hl
  exact lv_ldiv C.1 C.2.1 d hne (k H locs ls hR hS hl)
theorem Vlshl {x : Int64} {y : Int32} (C : Cx z g cc nL own ret D mc ms) (d : decode cc pc = .ok (.lshl, 1)) (k : V z g nL (pc + 1) lv (.long (x <<< (y.toInt64 &&& 63)) :: st) w u kc ks Q) : V z g nL pc lv (.int y :: .long x :: st) w u kc ks Q := by
  obtain ⟨p, l, e, R, s, m, args, below, meth, c⟩ := z
  intro H locs ls hR hS hl
  exact lv_lshl C.1 C.2.1 d rfl (k H locs ls hR hS hl)
theorem Vlushr {x : Int64} {y : Int32} (C : Cx z g cc nL own ret D mc ms) (d : decode cc pc = .ok (.lushr, 1)) (k : V z g nL (pc + 1) lv (.long (x.toUInt64 >>> (y.toInt64.toUInt64 &&& Int64.toUInt64 63)).toInt64 :: st) w u kc ks Q) : V z g nL pc lv (.int y :: .long x :: st) w u kc ks Q := by
  obtain ⟨p, l, e, R, s, m, args, below, meth, c⟩ := z
  intro H locs ls hR hS hl
  exact lv_lushr C.1 C.2.1 d rfl (k H locs ls hR hS hl)
theorem Vlshr {x : Int64} {y : Int32} (C : Cx z g cc nL own ret D mc ms) (d : decode cc pc = .ok (.lshr, 1)) (k : V z g nL (pc + 1) lv (.long (x >>> (y.toInt64 &&& 63)) :: st) w u kc ks Q) : V z g nL pc lv (.int y :: .long x :: st) w u kc ks Q := by
  obtain ⟨p, l, e, R, s, m, args, below, meth, c⟩ := z
  intro H locs ls hR hS hl
  exact lv_lshr C.1 C.2.1 d rfl (k H locs ls hR hS hl)
theorem Vi2l {x : Int32} (C : Cx z g cc nL own ret D mc ms) (d : decode cc pc = .ok (.i2l, 1)) (k : V z g nL (pc + 1) lv (.long x.toInt64 :: st) w u kc ks Q) : V z g nL pc lv (.int x :: st) w u kc ks Q := by
  obtain ⟨p, l, e, R, s, m, args, below, meth, c⟩ := z
  intro H locs ls hR hS hl
  exact lv_i2l C.1 C.2.1 d rfl (k H locs ls hR hS hl)
theorem Vl2i {x : Int64} (C : Cx z g cc nL own ret D mc ms) (d : decode cc pc = .ok (.l2i, 1)) (k : V z g nL (pc + 1) lv (.int x.toInt32 :: st) w u kc ks Q) : V z g nL pc lv (.long x :: st) w u kc ks Q := by
  obtain ⟨p, l, e, R, s, m, args, below, meth, c⟩ := z
  intro H locs ls hR hS hl
  exact lv_l2i C.1 C.2.1 d rfl (k H locs ls hR hS hl)
theorem Vi2c {x : Int32} (C : Cx z g cc nL own ret D mc ms) (d : decode cc pc = .ok (.i2c, 1)) (k : V z g nL (pc + 1) lv (.int (x.toUInt32 % 65536).toInt32 :: st) w u kc ks Q) : V z g nL pc lv (.int x :: st) w u kc ks Q := by
  obtain ⟨p, l, e, R, s, m, args, below, meth, c⟩ := z
  intro H locs ls hR hS hl
  exact lv_i2c C.1 C.2.1 d rfl (k H locs ls hR hS hl)
theorem Vlcmp {x y : Int64} (C : Cx z g cc nL own ret D mc ms) (d : decode cc pc = .ok (.lcmp, 1)) (k : V z g nL (pc + 1) lv (.int (lg_cmp x y) :: st) w u kc ks Q) : V z g nL pc lv (.long y :: .long x :: st) w u kc ks Q := by
  obtain ⟨p, l, e, R, s, m, args, below, meth, c⟩ := z
  intro H locs ls hR hS hl
  exact W.lcmp C.1 C.2.1 d (k H locs ls hR hS hl)
theorem Vdup {a : Value} (C : Cx z g cc nL own ret D mc ms) (d : decode cc pc = .ok (.dup, 1)) (ha : a.category = 1) (k : V z g nL (pc + 1) lv (a :: a :: st) w u kc ks Q) : V z g nL pc lv (a :: st) w u kc ks Q := by
  obtain ⟨p, l, e, R, s, m, args, below, meth, c⟩ := z
  intro H locs ls hR hS hl
  exact lv_dup C.1 C.2.1 d ((trv_cat g a).trans ha) (k H locs ls hR hS hl)
theorem Vpop {a : Value} (C : Cx z g cc nL own ret D mc ms) (d : decode cc pc = .ok (.pop, 1)) (ha : a.category = 1) (k : V z g nL (pc + 1) lv (st) w u kc ks Q) : V z g nL pc lv (a :: st) w u kc ks Q := by
  obtain ⟨p, l, e, R, s, m, args, below, meth, c⟩ := z
  intro H locs ls hR hS hl
  exact lv_pop C.1 C.2.1 d ((trv_cat g a).trans ha) (k H locs ls hR hS hl)
theorem Vdup2 {a b : Value} (C : Cx z g cc nL own ret D mc ms) (d : decode cc pc = .ok (.dup2, 1)) (ha : a.category = 1) (hb : b.category = 1) (k : V z g nL (pc + 1) lv (a :: b :: a :: b :: st) w u kc ks Q) : V z g nL pc lv (a :: b :: st) w u kc ks Q := by
  obtain ⟨p, l, e, R, s, m, args, below, meth, c⟩ := z
  intro H locs ls hR hS hl
  exact lv_dup2_11 C.1 C.2.1 d ((trv_cat g a).trans ha) ((trv_cat g b).trans hb) (k H locs ls hR hS hl)
theorem Vdup2L {a : Value} (C : Cx z g cc nL own ret D mc ms) (d : decode cc pc = .ok (.dup2, 1)) (ha : a.category = 2) (k : V z g nL (pc + 1) lv (a :: a :: st) w u kc ks Q) : V z g nL pc lv (a :: st) w u kc ks Q := by
  obtain ⟨p, l, e, R, s, m, args, below, meth, c⟩ := z
  intro H locs ls hR hS hl
  exact lv_dup2_2 C.1 C.2.1 d ((trv_cat g a).trans ha) (k H locs ls hR hS hl)
theorem Vif_eq {x : Int32} {off : Int} {tgt : Nat} (C : Cx z g cc nL own ret D mc ms) (d : decode cc pc = .ok (.ifCond .eq off, 3)) (ht : (pc : Int) + off = (tgt : Int)) (kt : x = 0 → V z g nL tgt lv st w u kc ks Q) (kf : ¬ x = 0 → V z g nL (pc + 3) lv st w u kc ks Q) : V z g nL pc lv (.int x :: st) w u kc ks Q := by
  obtain ⟨p, l, e, R, s, m, args, below, meth, c⟩ := z
  intro H locs ls hR hS hl
  exact lv_if_eq C.1 C.2.1 d ht (fun q => kt q H locs ls hR hS hl) (fun q => kf q H locs ls hR hS hl)
theorem Vicmp_eq {x y : Int32} {off : Int} {tgt : Nat} (C : Cx z g cc nL own ret D mc ms) (d : decode cc pc = .ok (.if_icmp .eq off, 3)) (ht : (pc : Int) + off = (tgt : Int)) (kt : x = y → V z g nL tgt lv st w u kc ks Q) (kf : ¬ x = y → V z g nL (pc + 3) lv st w u kc ks Q) : V z g nL pc lv (.int y :: .int x :: st) w u kc ks Q := by
  obtain ⟨p, l, e, R, s, m, args, below, meth, c⟩ := z
  intro H locs ls hR hS hl
  exact lv_icmp_eq C.1 C.2.1 d ht (fun q => kt q H locs ls hR hS hl) (fun q => kf q H locs ls hR hS hl)
theorem Vif_ne {x : Int32} {off : Int} {tgt : Nat} (C : Cx z g cc nL own ret D mc ms) (d : decode cc pc = .ok (.ifCond .ne off, 3)) (ht : (pc : Int) + off = (tgt : Int)) (kt : ¬ x = 0 → V z g nL tgt lv st w u kc ks Q) (kf : x = 0 → V z g nL (pc + 3) lv st w u kc ks Q) : V z g nL pc lv (.int x :: st) w u kc ks Q := by
  obtain ⟨p, l, e, R, s, m, args, below, meth, c⟩ := z
  intro H locs ls hR hS hl
  exact lv_if_ne C.1 C.2.1 d ht (fun q => kt q H locs ls hR hS hl) (fun q => kf q H locs ls hR hS hl)
theorem Vicmp_ne {x y : Int32} {off : Int} {tgt : Nat} (C : Cx z g cc nL own ret D mc ms) (d : decode cc pc = .ok (.if_icmp .ne off, 3)) (ht : (pc : Int) + off = (tgt : Int)) (kt : ¬ x = y → V z g nL tgt lv st w u kc ks Q) (kf : x = y → V z g nL (pc + 3) lv st w u kc ks Q) : V z g nL pc lv (.int y :: .int x :: st) w u kc ks Q := by
  obtain ⟨p, l, e, R, s, m, args, below, meth, c⟩ := z
  intro H locs ls hR hS hl
  exact lv_icmp_ne C.1 C.2.1 d ht (fun q => kt q H locs ls hR hS hl) (fun q => kf q H locs ls hR hS hl)
theorem Vif_lt {x : Int32} {off : Int} {tgt : Nat} (C : Cx z g cc nL own ret D mc ms) (d : decode cc pc = .ok (.ifCond .lt off, 3)) (ht : (pc : Int) + off = (tgt : Int)) (kt : x < 0 → V z g nL tgt lv st w u kc ks Q) (kf : ¬ x < 0 → V z g nL (pc + 3) lv st w u kc ks Q) : V z g nL pc lv (.int x :: st) w u kc ks Q := by
  obtain ⟨p, l, e, R, s, m, args, below, meth, c⟩ := z
  intro H locs ls hR hS hl
  exact lv_if_lt C.1 C.2.1 d ht (fun q => kt q H locs ls hR hS hl) (fun q => kf q H locs ls hR hS hl)
theorem Vicmp_lt {x y : Int32} {off : Int} {tgt : Nat} (C : Cx z g cc nL own ret D mc ms) (d : decode cc pc = .ok (.if_icmp .lt off, 3)) (ht : (pc : Int) + off = (tgt : Int)) (kt : x < y → V z g nL tgt lv st w u kc ks Q) (kf : ¬ x < y → V z g nL (pc + 3) lv st w u kc ks Q) : V z g nL pc lv (.int y :: .int x :: st) w u kc ks Q := by
  obtain ⟨p, l, e, R, s, m, args, below, meth, c⟩ := z
  intro H locs ls hR hS hl
  exact lv_icmp_lt C.1 C.2.1 d ht (fun q => kt q H locs ls hR hS hl) (fun q => kf q H locs ls hR hS hl)
theorem Vif_ge {x : Int32} {off : Int} {tgt : Nat} (C : Cx z g cc nL own ret D mc ms) (d : decode cc pc = .ok (.ifCond .ge off, 3)) (ht : (pc : Int) + off = (tgt : Int)) (kt : 0 ≤ x → V z g nL tgt lv st w u kc ks Q) (kf : ¬ 0 ≤ x → V z g nL (pc + 3) lv st w u kc ks Q) : V z g nL pc lv (.int x :: st) w u kc ks Q := by
  obtain ⟨p, l, e, R, s, m, args, below, meth, c⟩ := z
  intro H locs ls hR hS hl
  exact lv_if_ge C.1 C.2.1 d ht (fun q => kt q H locs ls hR hS hl) (fun q => kf q H locs ls hR hS hl)
theorem Vicmp_ge {x y : Int32} {off : Int} {tgt : Nat} (C : Cx z g cc nL own ret D mc ms) (d : decode cc pc = .ok (.if_icmp .ge off, 3)) (ht : (pc : Int) + off = (tgt : Int)) (kt : y ≤ x → V z g nL tgt lv st w u kc ks Q) (kf : ¬ y ≤ x → V z g nL (pc + 3) lv st w u kc ks Q) : V z g nL pc lv (.int y :: .int x :: st) w u kc ks Q := by
  obtain ⟨p, l, e, R, s, m, args, below, meth, c⟩ := z
  intro H locs ls hR hS hl
  exact lv_icmp_ge C.1 C.2.1 d ht (fun q => kt q H locs ls hR hS hl) (fun q => kf q H locs ls hR hS hl)
theorem Vif_gt {x : Int32} {off : Int} {tgt : Nat} (C : Cx z g cc nL own ret D mc ms) (d : decode cc pc = .ok (.ifCond .gt off, 3)) (ht : (pc : Int) + off = (tgt : Int)) (kt : 0 < x → V z g nL tgt lv st w u kc ks Q) (kf : ¬ 0 < x → V z g nL (pc + 3) lv st w u kc ks Q) : V z g nL pc lv (.int x :: st) w u kc ks Q := by
  obtain ⟨p, l, e, R, s, m, args, below, meth, c⟩ := z
  intro H locs ls hR hS hl
  exact lv_if_gt C.1 C.2.1 d ht (fun q => kt q H locs ls hR hS hl) (fun q => kf q H locs ls hR hS hl)
theorem Vicmp_gt {x y : Int32} {off : Int} {tgt : Nat} (C : Cx z g cc nL own ret D mc ms) (d : decode cc pc = .ok (.if_icmp .gt off, 3)) (ht : (pc : Int) + off = (tgt : Int)) (kt : y < x → V z g nL tgt lv st w u kc ks Q) (kf : ¬ y < x → V z g nL (pc + 3) lv st w u kc ks Q) : V z g nL pc lv (.int y :: .int x :: st) w u kc ks Q := by
  obtain ⟨p, l, e, R, s, m, args, below, meth, c⟩ := z
  intro H locs ls hR hS hl
  exact lv_icmp_gt C.1 C.2.1 d ht (fun q => kt q H locs ls hR hS hl) (fun q => kf q H locs ls hR hS hl)
theorem Vif_le {x : Int32} {off : Int} {tgt : Nat} (C : Cx z g cc nL own ret D mc ms) (d : decode cc pc = .ok (.ifCond .le off, 3)) (ht : (pc : Int) + off = (tgt : Int)) (kt : x ≤ 0 → V z g nL tgt lv st w u kc ks Q) (kf : ¬ x ≤ 0 → V z g nL (pc + 3) lv st w u kc ks Q) : V z g nL pc lv (.int x :: st) w u kc ks Q := by
  obtain ⟨p, l, e, R, s, m, args, below, meth, c⟩ := z
  intro H locs ls hR hS hl
  exact lv_if_le C.1 C.2.1 d ht (fun q => kt q H locs ls hR hS hl) (fun q => kf q H locs ls hR hS hl)
theorem Vicmp_le {x y : Int32} {off : Int} {tgt : Nat} (C : Cx z g cc nL own ret D mc ms) (d : decode cc pc = .ok (.if_icmp .le off, 3)) (ht : (pc : Int) + off = (tgt : Int)) (kt : x ≤ y → V z g nL tgt lv st w u kc ks Q) (kf : ¬ x ≤ y → V z g nL (pc + 3) lv st w u kc ks Q) : V z g nL pc lv (.int y :: .int x :: st) w u kc ks Q := by
  obtain ⟨p, l, e, R, s, m, args, below, meth, c⟩ := z
  intro H locs ls hR hS hl
  exact lv_icmp_le C.1 C.2.1 d ht (fun q => kt q H locs ls hR hS hl) (fun q => kf q H locs ls hR hS hl)
theorem Vgoto {off : Int} {tgt : Nat} (C : Cx z g cc nL own ret D mc ms) (d : decode cc pc = .ok (.goto off, 3)) (ht : (pc : Int) + off = (tgt : Int)) (k : V z g nL tgt lv st w u kc ks Q) : V z g nL pc lv st w u kc ks Q := by
  obtain ⟨p, l, e, R, s, m, args, below, meth, c⟩ := z
  intro H locs ls hR hS hl
  exact lv_goto C.1 C.2.1 d ht (k H locs ls hR hS hl)
theorem Vifnull {x : Nat} {off : Int} {tgt : Nat} (C : Cx z g cc nL own ret D mc ms) (d : decode cc pc = .ok (.ifnull off, 3)) (ht : (pc : Int) + off = (tgt : Int)) (kt : x = 0 → V z g nL tgt lv st w u kc ks Q) (kf : ¬ x = 0 → V z g nL (pc + 3) lv st w u kc ks Q) : V z g nL pc lv (.ref x :: st) w u kc ks Q := by
  obtain ⟨p, l, e, R, s, m, args, below, meth, c⟩ := z
  intro H locs ls hR hS hl
  by_cases hx : x = 0
  · subst hx
    exact lv_ifnullN C.1 C.2.1 d ht (kt rfl H locs ls hR hS hl)
  · show W p l e R s m args below meth c H locs kc ks _ (F0 m pc ls (trv g (.ref x) :: st.map (trv g)))
    rw [show trv g (.ref x) = .ref (adr g x) by simp [trv, tr, hx]]
    exact lv_ifnull C.1 C.2.1 d (kf hx H locs ls hR hS hl)
theorem Vifnonnull {x : Nat} {off : Int} {tgt : Nat} (C : Cx z g cc nL own ret D mc ms) (d : decode cc pc = .ok (.ifnonnull off, 3)) (ht : (pc : Int) + off = (tgt : Int)) (kt : ¬ x = 0 → V z g nL tgt lv st w u kc ks Q) (kf : x = 0 → V z g nL (pc + 3) lv st w u kc ks Q) : V z g nL pc lv (.ref x :: st) w u kc ks Q := by
  obtain ⟨p, l, e, R, s, m, args, below, meth, c⟩ := z
  intro H locs ls hR hS hl
  by_cases hx : x = 0
  · subst hx
    exact lv_ifnonnullN C.1 C.2.1 d (kf rfl H locs ls hR hS hl)
  · show W p l e R s m args below meth c H locs kc ks _ (F0 m pc ls (trv g (.ref x) :: st.map (trv g)))
    rw [show trv g (.ref x) = .ref (adr g x) by simp [trv, tr, hx]]
    exact lv_ifnonnull C.1 C.2.1 d ht (kt hx H locs ls hR hS hl)
/-- two tokens, or null, are one if their numbers are -/
theorem tok_inj {g : GT} {U : State} (h : Stk g U) {x y : Nat} (hx : x ≤ 34) (hy : y ≤ 34) : (if x = 0 then none else some (adr g x)) = (if y = 0 then none else some (adr g y)) ↔ x = y := by
  constructor
  · intro e
    by_cases h1 : x = 0
    · by_cases h2 : y = 0
      · omega
      · simp [h1, h2] at e
    · by_cases h2 : y = 0
      · simp [h1, h2] at e
      · simp only [h1, h2, if_false, Option.some.injEq, adr, hx, hy, if_true] at e
        have := h.2 (x - 1) (y - 1) (by show x - 1 < 34; omega) (by show y - 1 < 34; omega) e
        omega
  · intro e
    rw [e]
theorem tr_rf (g : GT) (x : Nat) : trv g (.ref x) = va_rf (if x = 0 then none else some (adr g x)) := by
  simp only [trv, tr]
  by_cases h : x = 0 <;> simp [h, va_rf]
theorem Vacmp_eq {x y : Nat} {off : Int} {tgt : Nat} (C : Cx z g cc nL own ret D mc ms) (d : decode cc pc = .ok (.if_acmp .eq off, 3)) (ht : (pc : Int) + off = (tgt : Int)) (hx : x ≤ 34) (hy : y ≤ 34) (kt : x = y → V z g nL tgt lv st w u kc ks Q) (kf : ¬ x = y → V z g nL (pc + 3) lv st w u kc ks Q) : V z g nL pc lv (.ref y :: .ref x :: st) w u kc ks Q := by
  obtain ⟨p, l, e, R, s, m, args, below, meth, c⟩ := z
  intro H locs ls hR hS hl
  have hi := tok_inj C.2.2.2.2.2.2.2.1.2.1 hx hy
  show W p l e R s m args below meth c H locs kc ks _ (F0 m pc ls (trv g (.ref y) :: trv g (.ref x) :: st.map (trv g)))
  rw [tr_rf, tr_rf]
  exact lv_acmp_eq C.1 C.2.1 d ht (fun q => kt (hi.mp q) H locs ls hR hS hl) (fun q => kf (fun r => q (hi.mpr r)) H locs ls hR hS hl)
theorem Vacmp_ne {x y : Nat} {off : Int} {tgt : Nat} (C : Cx z g cc nL own ret D mc ms) (d : decode cc pc = .ok (.if_acmp .ne off, 3)) (ht : (pc : Int) + off = (tgt : Int)) (hx : x ≤ 34) (hy : y ≤ 34) (kt : ¬ x = y → V z g nL tgt lv st w u kc ks Q) (kf : x = y → V z g nL (pc + 3) lv st w u kc ks Q) : V z g nL pc lv (.ref y :: .ref x :: st) w u kc ks Q := by
  obtain ⟨p, l, e, R, s, m, args, below, meth, c⟩ := z
  intro H locs ls hR hS hl
  have hi := tok_inj C.2.2.2.2.2.2.2.1.2.1 hx hy
  show W p l e R s m args below meth c H locs kc ks _ (F0 m pc ls (trv g (.ref y) :: trv g (.ref x) :: st.map (trv g)))
  rw [tr_rf, tr_rf]
  exact lv_acmp_ne C.1 C.2.1 d ht (fun q => kt (fun r => q (hi.mpr r)) H locs ls hR hS hl) (fun q => kf (hi.mp q) H locs ls hR hS hl)
theorem VtableIn {dflt lo hi : Int} {offs : Array Int} {len : Nat} {x : Int32} {off : Int} {tgt : Nat} (C : Cx z g cc nL own ret D mc ms) (d : decode cc pc = .ok (.tableswitch dflt lo hi offs, len)) (h1 : ¬ x.toInt < lo) (h2 : ¬ hi < x.toInt) (ho : offs[(x.toInt - lo).toNat]? = some off) (ht : (pc : Int) + off = (tgt : Int)) (k : V z g nL tgt lv st w u kc ks Q) : V z g nL pc lv (.int x :: st) w u kc ks Q := by
  obtain ⟨p, l, e, R, s, m, args, below, meth, c⟩ := z
  intro H locs ls hR hS hl
  exact lv_tableIn C.1 C.2.1 d h1 h2 ho ht (k H locs ls hR hS hl)
theorem VtableOut {dflt lo hi : Int} {offs : Array Int} {len : Nat} {x : Int32} {tgt : Nat} (C : Cx z g cc nL own ret D mc ms) (d : decode cc pc = .ok (.tableswitch dflt lo hi offs, len)) (h : x.toInt < lo ∨ hi < x.toInt) (ht : (pc : Int) + dflt = (tgt : Int)) (k : V z g nL tgt lv st w u kc ks Q) : V z g nL pc lv (.int x :: st) w u kc ks Q := by
  obtain ⟨p, l, e, R, s, m, args, below, meth, c⟩ := z
  intro H locs ls hR hS hl
  exact lv_tableOut C.1 C.2.1 d h ht (k H locs ls hR hS hl)
end VPURE
end
section
/-! ===== ROWS OVER THE HEAP ===== -/
theorem Rep.dyn {g : GT} {w : LT} {u : MT} {H : Heap} (hR : Rep g w u H) {a : Nat} (h : lt_t w a ≠ 99) : 100 ≤ a ∧ a < lt_n w := by
  refine ⟨?_, ?_⟩
  · rcases Nat.lt_or_ge a 100 with q | q
    · exact absurd (hR.2.2.1 a (Or.inl q)) h
    · exact q
  · rcases Nat.lt_or_ge a (lt_n w) with q | q
    · exact q
    · exact absurd (hR.2.2.1 a (Or.inr q)) h
theorem adr_inj {g : GT} {a b : Nat} (ha : 100 ≤ a) (hb : 100 ≤ b) (h : adr g a = adr g b) : a = b := by
  rw [adr_dyn g ha, adr_dyn g hb] at h
  omega
theorem Rep.obj {g : GT} {w : LT} {u : MT} {H : Heap} (hR : Rep g w u H) {a t : Nat} (h : lt_t w a = t) (ht : t < 13) : t_OB (adr g a) (gC g t) (cN t) (gD g t) H (fv g w u t a) := by
  have h1 := hR.dyn (a := a) (by omega)
  have h2 := (hR.2.2.2 a h1.1 h1.2).1 (by omega)
  rw [h] at h2
  exact h2
theorem Rep.arr {g : GT} {w : LT} {u : MT} {H : Heap} (hR : Rep g w u H) {a t : Nat} (h : lt_t w a = t) (h1 : 20 ≤ t) (h2 : t < 27) : H[adr g a]? = some (arrV (gA g t) (lt_l w a) (av g w u t a)) := by
  have h3 := hR.dyn (a := a) (by omega)
  have h4 := (hR.2.2.2 a h3.1 h3.2).2 (by omega) (by omega)
  rw [h] at h4
  exact h4
theorem Rep.fr {g : GT} {w : LT} {u : MT} {H : Heap} (hR : Rep g w u H) {a : Nat} (h : lt_t w a ≠ 99) : fr g (adr g a) := by
  have h1 := hR.dyn h
  show gn g ≤ adr g a
  rw [adr_dyn g h1.1]
  omega
theorem Rep.val {g : GT} {w : LT} {u : MT} {H : Heap} (hR : Rep g w u H) {a : Nat} (h : lt_t w a ≠ 99) : trv g (.ref a) = .ref (adr g a) := tr_dyn g (hR.dyn h).1
/-- one cell is another now -/
def Upd (w : LT) (u : MT) (w' : LT) (u' : MT) (a : Nat) : Prop := lt_n w' = lt_n w ∧ (∀ b, lt_t w' b = lt_t w b) ∧ (∀ b, lt_l w' b = lt_l w b) ∧ ∀ b, b ≠ a → w'.2.2.2 b = w.2.2.2 b ∧ u'.1 b = u.1 b ∧ u'.2.1 b = u.2.1 b ∧ u'.2.2 b = u.2.2 b
theorem Upd.i (w : LT) (u : MT) (a k : Nat) (v : Int32) : Upd w u w (sI u a k v) a := ⟨rfl, fun _ => rfl, fun _ => rfl, fun _ h => ⟨rfl, up2_ne _ _ _ h, rfl, rfl⟩⟩
theorem Upd.l (w : LT) (u : MT) (a k : Nat) (v : Int64) : Upd w u w (sL u a k v) a := ⟨rfl, fun _ => rfl, fun _ => rfl, fun _ h => ⟨rfl, rfl, up2_ne _ _ _ h, rfl⟩⟩
theorem Upd.k (w : LT) (u : MT) (a k v : Nat) : Upd w u w (sK u a k v) a := ⟨rfl, fun _ => rfl, fun _ => rfl, fun _ h => ⟨rfl, rfl, rfl, up2_ne _ _ _ h⟩⟩
theorem Upd.p (w : LT) (u : MT) (a k v : Nat) : Upd w u (sP w a k v) u a := ⟨rfl, fun _ => rfl, fun _ => rfl, fun _ h => ⟨up2_ne _ _ _ h, rfl, rfl, rfl⟩⟩
theorem fv_eq {g : GT} {w w' : LT} {u u' : MT} {t b k : Nat} (h1 : w'.2.2.2 b = w.2.2.2 b) (h2 : u'.1 b = u.1 b) (h3 : u'.2.2 b = u.2.2 b) : fv g w' u' t b k = fv g w u t b k := by
  unfold fv lt_p gI gK
  rw [h1, h2, h3]
theorem av_eq {g : GT} {w w' : LT} {u u' : MT} {t b k : Nat} (h1 : w'.2.2.2 b = w.2.2.2 b) (h2 : u'.1 b = u.1 b) (h3 : u'.2.1 b = u.2.1 b) (h4 : u'.2.2 b = u.2.2 b) : av g w' u' t b k = av g w u t b k := by
  unfold av lt_p gI gK gL
  rw [h1, h2, h3, h4]
theorem cellOk.go {g : GT} {w w' : LT} {u u' : MT} {b : Nat} {H H' : Heap} (h : cellOk g w u b H) (ht : lt_t w' b = lt_t w b) (hl : lt_l w' b = lt_l w b) (h1 : w'.2.2.2 b = w.2.2.2 b) (h2 : u'.1 b = u.1 b) (h3 : u'.2.1 b = u.2.1 b) (h4 : u'.2.2 b = u.2.2 b) (hq : H'[adr g b]? = H[adr g b]?) : cellOk g w' u' b H' := by
  unfold cellOk
  rw [ht, hl]
  refine ⟨fun q => ?_, fun q1 q2 => ?_⟩
  · exact ((h.1 q).kept hq).to (fun k _ => (fv_eq h1 h2 h4).symm)
  · rw [hq, h.2 q1 q2]
    congr 2
    funext j
    exact (av_eq h1 h2 h3 h4).symm
theorem Rep.put {g : GT} {w w' : LT} {u u' : MT} {H H' : Heap} {a : Nat} (hR : Rep g w u H) (hU : Upd w u w' u' a) (ha : lt_t w a ≠ 99) (z : H'.size = H.size) (oq : ∀ q : Nat, q ≠ adr g a → H'[q]? = H[q]?) (hc : cellOk g w' u' a H') : Rep g w' u' H' := by
  obtain ⟨h1, h2, h3, h4⟩ := hR
  have hd := Rep.dyn ⟨h1, h2, h3, h4⟩ ha
  obtain ⟨e1, e2, e3, e4⟩ := hU
  refine ⟨by rw [z, h1, e1], by rw [e1]; exact h2, fun b hb => by rw [e2]; exact h3 b (by rw [e1] at hb; exact hb), fun b hb1 hb2 => ?_⟩
  by_cases hba : b = a
  · rw [hba]; exact hc
  · obtain ⟨f1, f2, f3, f4⟩ := e4 b hba
    exact (h4 b hb1 (by rw [e1] at hb2; exact hb2)).go (e2 b) (e3 b) f1 f2 f3 f4 (oq _ (fun q => hba (adr_inj hb1 hd.1 q)))
/-- a constant's link to a field -/
def GF (own : String) (idx t k : Nat) : Prop := t < 13 ∧ k < cN t ∧ (Cond.fieldLink own idx (cT t k).1 (cT t k).2.1 (cT t k).2.2.1 ∈ WT ∨ ∃ host, Cond.fieldLinkNest own idx (cT t k).1 (cT t k).2.1 (cT t k).2.2.1 host ∈ NWs)
section VHEAP
variable {z : ZT} {g : GT} {cc : ByteArray} {nL : Nat} {own : String} {ret : Option FieldType} {D mc ms : Nat} {pc : Nat} {lv lv' : List (Nat × Value)} {st : List Value} {w w' : LT} {u u' : MT} {kc ks : Nat} {Q : Option Value → LT → MT → Prop}
theorem Vget {idx t k a : Nat} {v : Value} (C : Cx z g cc nL own ret D mc ms) (d : decode cc pc = .ok (.getfield idx, 3)) (hf : GF own idx t k) (ht : lt_t w a = t) (hv : fv g w u t a k = trv g v) (kk : V z g nL (pc + 3) lv (v :: st) w u kc ks Q) : V z g nL pc lv (.ref a :: st) w u kc ks Q := by
  obtain ⟨p, l, e, R, s, m, args, below, meth, c⟩ := z
  intro H locs ls hR hS hl
  obtain ⟨hx, hb, -, hown, hts, -, -, hsc, -⟩ := C
  have hK := hsc.1
  obtain ⟨ht13, hk, hlk⟩ := hf
  obtain ⟨cell, q1, q2, q3, q4⟩ := hR.obj ht ht13
  obtain ⟨hSl, hfc, kC, hkC, hkind⟩ := hK.1 t _ (cl_at t ht13)
  obtain ⟨cf, kf, fi, f, hi, hsl⟩ := hSl k hk
  have hst := (u_facts hfc hkC (u_lays hts (cl_ws t ht13) hk) hi).1
  have h5 : cell.slots[f.slot]? = some (trv g v) := by rw [hsl]; rw [← hv]; exact q4 k hk
  have h6 := kk H locs ls hR hS hl
  show W p l e R s m args below meth c H locs kc ks _ (F0 m pc ls (trv g (.ref a) :: st.map (trv g)))
  rw [hR.val (a := a) (by omega)]
  rcases hlk with h | ⟨host, h⟩
  · exact W.getf hx hb hown (hts _ h) hi hst q1 (by rw [q3]; exact fun h => by cases h) h5 rfl rfl d h6
  · exact va_Wgetf hx hb hown (hsc.nest h args) hi hst q1 (by rw [q3]; exact fun h => by cases h) h5 rfl rfl d h6
theorem VgetI {idx t k a : Nat} (C : Cx z g cc nL own ret D mc ms) (d : decode cc pc = .ok (.getfield idx, 3)) (hf : GF own idx t k) (ht : lt_t w a = t) (hk : fk t k = 0) (kk : V z g nL (pc + 3) lv (.int (gI u a k) :: st) w u kc ks Q) : V z g nL pc lv (.ref a :: st) w u kc ks Q :=
  Vget C d hf ht (by simp [fv, hk, trv]) kk
theorem VgetP {idx t k a b : Nat} (C : Cx z g cc nL own ret D mc ms) (d : decode cc pc = .ok (.getfield idx, 3)) (hf : GF own idx t k) (ht : lt_t w a = t) (hk : fk t k = 1) (hp : lt_p w a k = b) (kk : V z g nL (pc + 3) lv (.ref b :: st) w u kc ks Q) : V z g nL pc lv (.ref a :: st) w u kc ks Q :=
  Vget C d hf ht (by simp [fv, hk, trv, hp]) kk
theorem VgetK {idx t k a : Nat} (C : Cx z g cc nL own ret D mc ms) (d : decode cc pc = .ok (.getfield idx, 3)) (hf : GF own idx t k) (ht : lt_t w a = t) (hk : fk t k = 2) (kk : V z g nL (pc + 3) lv (.ref (gK u a k) :: st) w u kc ks Q) : V z g nL pc lv (.ref a :: st) w u kc ks Q :=
  Vget C d hf ht (by simp [fv, hk, trv]) kk
theorem Vput {idx t k a : Nat} {v : Value} (C : Cx z g cc nL own ret D mc ms) (d : decode cc pc = .ok (.putfield idx, 3)) (hf : GF own idx t k) (ht : lt_t w a = t) (hfin : (cT t k).2.2.2 = false) (hn : narrow (cY t k) (trv g v) = trv g v) (hfit : fits (cY t k) (trv g v) = true) (hU : Upd w u w' u' a) (hv : ∀ j, j < cN t → fv g w' u' t a j = updV (fv g w u t a) k (trv g v) j) (kk : V z g nL (pc + 3) lv st w' u' kc ks Q) : V z g nL pc lv (v :: .ref a :: st) w u kc ks Q := by
  obtain ⟨p, l, e, R, s, m, args, below, meth, c⟩ := z
  intro H locs ls hR hS hl
  obtain ⟨hx, hb, -, hown, hts, -, -, hsc, -⟩ := C
  have hK := hsc.1
  obtain ⟨ht13, hk, hlk⟩ := hf
  have hap := va_apart (own := own) hts (cl_ws t ht13) (cY t) (cl_ty t ht13) (cl_nm t ht13) hK (cl_at t ht13)
  obtain ⟨cell, q1, q2, q3, q4⟩ := hR.obj ht ht13
  obtain ⟨hSl, hfc, kC, hkC, hkind⟩ := hK.1 t _ (cl_at t ht13)
  obtain ⟨cf, kf, fi, f, hi, hsl⟩ := hSl k hk
  have hlay := hts _ (cl_ws t ht13 _ (u_in_lay hk))
  unfold u_lay at hlay
  rw [if_neg (by rw [hfin]; decide)] at hlay
  have hst := (u_facts hfc hkC (u_lays hts (cl_ws t ht13) hk) hi).1
  have h6 := u_store hfc hkC hkind hlay hi (cl_ty t ht13 k hk) hn hfit
  show W p l e R s m args below meth c H locs kc ks _ (F0 m pc ls (trv g v :: trv g (.ref a) :: st.map (trv g)))
  rw [hR.val (a := a) (by omega)]
  have fin : ∀ H' : Heap, H'[adr g a]? = some (cell.setSlot f.slot (trv g v)) → H'.size = H.size → (∀ q, q ≠ adr g a → H'[q]? = H[q]?) → W p l e R s m args below meth c H' (locs ++ [⟨adr g a, f.slot⟩]) kc ks (MQ below (QQ g Q) args s R.cells R.slots (fr g)) (F0 m (pc + 3) ls (st.map (trv g))) := by
    intro H' e1 e2 e3
    rw [hsl] at e1 ⊢
    refine kk H' _ ls (hR.put hU (by omega) e2 e3 ?_) (hS.put e2 e3 (hR.fr (by omega))) hl
    have ht' : lt_t w' a = t := (hU.2.1 a).trans ht
    refine ⟨fun _ => ?_, fun q => absurd q (by omega)⟩
    rw [ht']
    exact t_OB.to (V := updV (fv g w u t a) k (trv g v)) ⟨_, e1, q2, q3, t_set q4 hap hk (trv g v)⟩ (fun j hj => (hv j hj).symm)
  rcases hlk with h | ⟨host, h⟩
  · exact W.putK hx hb (f := f) ⟨hown, hts _ h, ⟨_, _, _, hi⟩, hst⟩ (by rw [q2]; exact h6) q1 q3 (by rw [hsl]; exact k2_hasslot (q4 k hk)) rfl rfl d fin
  · exact va_WputK hx hb (f := f) hown (hsc.nest h args) hi hst (by rw [q2]; exact h6) q1 q3 (by rw [hsl]; exact k2_hasslot (q4 k hk)) rfl rfl d fin
theorem VputF {idx t k a : Nat} {v : Value} (C : Cx z g cc nL own ret D mc ms) (hcn : Cn z) (d : decode cc pc = .ok (.putfield idx, 3)) (hf : t < 13 ∧ k < cN t ∧ Cond.fieldLink own idx (cT t k).1 (cT t k).2.1 (cT t k).2.2.1 ∈ WT) (ht : lt_t w a = t) (hfin : (cT t k).2.2.2 = true) (hdecl : (cT t k).1 = own) (hn : narrow (cY t k) (trv g v) = trv g v) (hfit : fits (cY t k) (trv g v) = true) (hU : Upd w u w' u' a) (hv : ∀ j, j < cN t → fv g w' u' t a j = updV (fv g w u t a) k (trv g v) j) (kk : V z g nL (pc + 3) lv st w' u' kc ks Q) : V z g nL pc lv (v :: .ref a :: st) w u kc ks Q := by
  obtain ⟨p, l, e, R, s, m, args, below, meth, c⟩ := z
  intro H locs ls hR hS hl
  obtain ⟨hx, hb, -, hown, hts, -, -, hsc, -⟩ := C
  have hK := hsc.1
  obtain ⟨ht13, hk, hlk⟩ := hf
  have hap := va_apart (own := own) hts (cl_ws t ht13) (cY t) (cl_ty t ht13) (cl_nm t ht13) hK (cl_at t ht13)
  obtain ⟨cell, q1, q2, q3, q4⟩ := hR.obj ht ht13
  obtain ⟨hSl, hfc, kC, hkC, hkind⟩ := hK.1 t _ (cl_at t ht13)
  obtain ⟨cf, kf, fi, f, hi, hsl⟩ := hSl k hk
  have hlay := hts _ (cl_ws t ht13 _ (u_in_lay hk))
  unfold u_lay at hlay
  rw [if_pos hfin] at hlay
  have hst := (u_facts hfc hkC (u_lays hts (cl_ws t ht13) hk) hi).1
  have hcf : m.cls = cf := by
    obtain ⟨_, _, c', _, _, _, -, -, hf', -, -, -, hown2, -⟩ := Cond.laysFinal_spec hlay
    have e1 : c' = cf := by have := hi.symm.trans hf'; simp at this; exact this.1.symm
    rw [hdecl] at hown2
    rw [← e1]; exact Option.some.inj (hown.symm.trans hown2)
  have h6 := u_fits hfc hkC hkind (Or.inr hlay) hi (cl_ty t ht13 k hk) hn hfit
  show W p l e R s m args below meth c H locs kc ks _ (F0 m pc ls (trv g v :: trv g (.ref a) :: st.map (trv g)))
  rw [hR.val (a := a) (by omega)]
  refine W.putFinK hx hb hown (hts _ hlk) hi hst hcf hcn (by rw [q2]; exact h6) q1 q3 (by rw [hsl]; exact k2_hasslot (q4 k hk)) rfl rfl d fun H' e1 e2 e3 => ?_
  rw [hsl] at e1 ⊢
  refine kk H' _ ls (hR.put hU (by omega) e2 e3 ?_) (hS.put e2 e3 (hR.fr (by omega))) hl
  have ht' : lt_t w' a = t := (hU.2.1 a).trans ht
  refine ⟨fun _ => ?_, fun q => absurd q (by omega)⟩
  rw [ht']
  exact t_OB.to (V := updV (fv g w u t a) k (trv g v)) ⟨_, e1, q2, q3, t_set q4 hap hk (trv g v)⟩ (fun j hj => (hv j hj).symm)
theorem fv_sI (g : GT) (w : LT) (u : MT) {t a k : Nat} (x : Int32) (hk : fk t k = 0) (j : Nat) : fv g w (sI u a k x) t a j = updV (fv g w u t a) k (trv g (.int x)) j := by
  by_cases hj : j = k
  · subst hj
    simp [fv, hk, updV, trv, gI, sI, up2]
  · simp [fv, updV, hj, gI, gK, sI, up2]
theorem fv_sK (g : GT) (w : LT) (u : MT) {t a k : Nat} (x : Nat) (hk : fk t k = 2) (j : Nat) : fv g w (sK u a k x) t a j = updV (fv g w u t a) k (trv g (.ref x)) j := by
  by_cases hj : j = k
  · subst hj
    simp [fv, hk, updV, trv, gK, sK, up2]
  · simp [fv, updV, hj, gI, gK, sK, up2]
theorem fv_sP (g : GT) (w : LT) (u : MT) {t a k : Nat} (x : Nat) (hk : fk t k = 1) (j : Nat) : fv g (sP w a k x) u t a j = updV (fv g w u t a) k (trv g (.ref x)) j := by
  by_cases hj : j = k
  · subst hj
    simp [fv, hk, updV, trv, lt_p, sP, up2]
  · simp [fv, updV, hj, gI, gK, lt_p, sP, up2]
theorem fit_ref (g : GT) (x : Nat) {ty : FieldType} (h : ty.isReference = true) : narrow ty (trv g (.ref x)) = trv g (.ref x) ∧ fits ty (trv g (.ref x)) = true := by
  rw [tr_rf]
  cases ty <;> first | (simp [FieldType.isReference] at h; done) | (split <;> exact ⟨rfl, rfl⟩)
theorem VputI {idx t k a : Nat} {x : Int32} (C : Cx z g cc nL own ret D mc ms) (d : decode cc pc = .ok (.putfield idx, 3)) (hf : GF own idx t k) (ht : lt_t w a = t) (hfin : (cT t k).2.2.2 = false) (hk : fk t k = 0) (hn : narrow (cY t k) (.int x) = .int x) (hfit : fits (cY t k) (.int x) = true) (kk : V z g nL (pc + 3) lv st w (sI u a k x) kc ks Q) : V z g nL pc lv (.int x :: .ref a :: st) w u kc ks Q :=
  Vput C d hf ht hfin hn hfit (Upd.i w u a k x) (fun j _ => fv_sI g w u x hk j) kk
theorem VputK {idx t k a x : Nat} (C : Cx z g cc nL own ret D mc ms) (d : decode cc pc = .ok (.putfield idx, 3)) (hf : GF own idx t k) (ht : lt_t w a = t) (hfin : (cT t k).2.2.2 = false) (hk : fk t k = 2) (hy : (cY t k).isReference = true) (kk : V z g nL (pc + 3) lv st w (sK u a k x) kc ks Q) : V z g nL pc lv (.ref x :: .ref a :: st) w u kc ks Q :=
  Vput C d hf ht hfin (fit_ref g x hy).1 (fit_ref g x hy).2 (Upd.k w u a k x) (fun j _ => fv_sK g w u x hk j) kk
theorem VputP {idx t k a x : Nat} (C : Cx z g cc nL own ret D mc ms) (d : decode cc pc = .ok (.putfield idx, 3)) (hf : GF own idx t k) (ht : lt_t w a = t) (hfin : (cT t k).2.2.2 = false) (hk : fk t k = 1) (hy : (cY t k).isReference = true) (kk : V z g nL (pc + 3) lv st (sP w a k x) u kc ks Q) : V z g nL pc lv (.ref x :: .ref a :: st) w u kc ks Q :=
  Vput C d hf ht hfin (fit_ref g x hy).1 (fit_ref g x hy).2 (Upd.p w u a k x) (fun j _ => fv_sP g w u x hk j) kk
theorem VputIF {idx t k a : Nat} {x : Int32} (C : Cx z g cc nL own ret D mc ms) (hcn : Cn z) (d : decode cc pc = .ok (.putfield idx, 3)) (hf : t < 13 ∧ k < cN t ∧ Cond.fieldLink own idx (cT t k).1 (cT t k).2.1 (cT t k).2.2.1 ∈ WT) (ht : lt_t w a = t) (hfin : (cT t k).2.2.2 = true) (hdecl : (cT t k).1 = own) (hk : fk t k = 0) (hn : narrow (cY t k) (.int x) = .int x) (hfit : fits (cY t k) (.int x) = true) (kk : V z g nL (pc + 3) lv st w (sI u a k x) kc ks Q) : V z g nL pc lv (.int x :: .ref a :: st) w u kc ks Q :=
  VputF C hcn d hf ht hfin hdecl hn hfit (Upd.i w u a k x) (fun j _ => fv_sI g w u x hk j) kk
theorem VputPF {idx t k a x : Nat} (C : Cx z g cc nL own ret D mc ms) (hcn : Cn z) (d : decode cc pc = .ok (.putfield idx, 3)) (hf : t < 13 ∧ k < cN t ∧ Cond.fieldLink own idx (cT t k).1 (cT t k).2.1 (cT t k).2.2.1 ∈ WT) (ht : lt_t w a = t) (hfin : (cT t k).2.2.2 = true) (hdecl : (cT t k).1 = own) (hk : fk t k = 1) (hy : (cY t k).isReference = true) (kk : V z g nL (pc + 3) lv st (sP w a k x) u kc ks Q) : V z g nL pc lv (.ref x :: .ref a :: st) w u kc ks Q :=
  VputF C hcn d hf ht hfin hdecl (fit_ref g x hy).1 (fit_ref g x hy).2 (Upd.p w u a k x) (fun j _ => fv_sP g w u x hk j) kk
/-! arrays -/
theorem Stc.arr {g : GT} {s : State} (h : Stc g s) {t : Nat} (h1 : 20 ≤ t) (h2 : t < 27) : ArrOfT s (gA g t) (aTy t) ∧ va_RA s (gA g t) (aTy t) := by
  have h3 := h.1.2
  match t, h1, h2 with
  | 20, _, _ => exact h3 0 _ rfl
  | 21, _, _ => exact h3 1 _ rfl
  | 22, _, _ => exact h3 2 _ rfl
  | 23, _, _ => exact h3 3 _ rfl
  | 24, _, _ => exact h3 4 _ rfl
  | 25, _, _ => exact h3 5 _ rfl
  | 26, _, _ => exact h3 6 _ rfl
  | n + 27, _, h => omega
theorem Viald {a n : Nat} {i : Int32} (C : Cx z g cc nL own ret D mc ms) (d : decode cc pc = .ok (.iaload, 1)) (ht : lt_t w a = 20) (hn : lt_l w a = n) (hin : vp_in i n) (kk : V z g nL (pc + 1) lv (.int (gI u a i.toNatClampNeg) :: st) w u kc ks Q) : V z g nL pc lv (.int i :: .ref a :: st) w u kc ks Q := by
  obtain ⟨p, l, e, R, s, m, args, below, meth, c⟩ := z
  intro H locs ls hR hS hl
  have hlt : i.toNatClampNeg < lt_l w a := by rw [hn]; exact Nat.not_le.mp fun q => hin (Or.inr q)
  show W p l e R s m args below meth c H locs kc ks _ (F0 m pc ls (.int i :: trv g (.ref a) :: st.map (trv g)))
  rw [hR.val (a := a) (by omega)]
  exact W.iald (v := .int (gI u a i.toNatClampNeg)) C.1 C.2.1 (hR.arr ht (by omega) (by omega)) ((C.2.2.2.2.2.2.2.1.arr (t := 20) (by omega) (by omega)).1 _ _) (fun q => by cases q) (by rw [arrV_size, hn]; exact hin) (by rw [arrV_read _ _ hlt]; rfl) rfl rfl d (kk H locs ls hR hS hl)
theorem Vlald {a n : Nat} {i : Int32} (C : Cx z g cc nL own ret D mc ms) (d : decode cc pc = .ok (.laload, 1)) (ht : lt_t w a = 21) (hn : lt_l w a = n) (hin : vp_in i n) (kk : V z g nL (pc + 1) lv (.long (gL u a i.toNatClampNeg) :: st) w u kc ks Q) : V z g nL pc lv (.int i :: .ref a :: st) w u kc ks Q := by
  obtain ⟨p, l, e, R, s, m, args, below, meth, c⟩ := z
  intro H locs ls hR hS hl
  have hlt : i.toNatClampNeg < lt_l w a := by rw [hn]; exact Nat.not_le.mp fun q => hin (Or.inr q)
  show W p l e R s m args below meth c H locs kc ks _ (F0 m pc ls (.int i :: trv g (.ref a) :: st.map (trv g)))
  rw [hR.val (a := a) (by omega)]
  exact W.lald (v := .long (gL u a i.toNatClampNeg)) C.1 C.2.1 (hR.arr ht (by omega) (by omega)) ((C.2.2.2.2.2.2.2.1.arr (t := 21) (by omega) (by omega)).1 _ _) (fun q => by cases q) (by rw [arrV_size, hn]; exact hin) (by rw [arrV_read _ _ hlt]; rfl) rfl rfl d (kk H locs ls hR hS hl)
theorem Vcald {a n : Nat} {i : Int32} (C : Cx z g cc nL own ret D mc ms) (d : decode cc pc = .ok (.caload, 1)) (ht : lt_t w a = 23) (hn : lt_l w a = n) (hin : vp_in i n) (kk : V z g nL (pc + 1) lv (.int (gI u a i.toNatClampNeg) :: st) w u kc ks Q) : V z g nL pc lv (.int i :: .ref a :: st) w u kc ks Q := by
  obtain ⟨p, l, e, R, s, m, args, below, meth, c⟩ := z
  intro H locs ls hR hS hl
  have hlt : i.toNatClampNeg < lt_l w a := by rw [hn]; exact Nat.not_le.mp fun q => hin (Or.inr q)
  show W p l e R s m args below meth c H locs kc ks _ (F0 m pc ls (.int i :: trv g (.ref a) :: st.map (trv g)))
  rw [hR.val (a := a) (by omega)]
  exact W.cald (v := .int (gI u a i.toNatClampNeg)) C.1 C.2.1 (hR.arr ht (by omega) (by omega)) ((C.2.2.2.2.2.2.2.1.arr (t := 23) (by omega) (by omega)).1 _ _) (fun q => by cases q) (by rw [arrV_size, hn]; exact hin) (by rw [arrV_read _ _ hlt]; rfl) rfl rfl d (kk H locs ls hR hS hl)
theorem Vzald {a n : Nat} {i : Int32} (C : Cx z g cc nL own ret D mc ms) (d : decode cc pc = .ok (.baload, 1)) (ht : lt_t w a = 22) (hn : lt_l w a = n) (hin : vp_in i n) (kk : V z g nL (pc + 1) lv (.int (gI u a i.toNatClampNeg) :: st) w u kc ks Q) : V z g nL pc lv (.int i :: .ref a :: st) w u kc ks Q := by
  obtain ⟨p, l, e, R, s, m, args, below, meth, c⟩ := z
  intro H locs ls hR hS hl
  have hlt : i.toNatClampNeg < lt_l w a := by rw [hn]; exact Nat.not_le.mp fun q => hin (Or.inr q)
  show W p l e R s m args below meth c H locs kc ks _ (F0 m pc ls (.int i :: trv g (.ref a) :: st.map (trv g)))
  rw [hR.val (a := a) (by omega)]
  exact W.zald (v := .int (gI u a i.toNatClampNeg)) C.1 C.2.1 (hR.arr ht (by omega) (by omega)) ((C.2.2.2.2.2.2.2.1.arr (t := 22) (by omega) (by omega)).1 _ _) (fun q => by cases q) (by rw [arrV_size, hn]; exact hin) (by rw [arrV_read _ _ hlt]; rfl) rfl rfl d (kk H locs ls hR hS hl)
theorem Vaald {a n t b : Nat} {i : Int32} (C : Cx z g cc nL own ret D mc ms) (d : decode cc pc = .ok (.aaload, 1)) (h24 : 24 ≤ t) (h27 : t < 27) (ht : lt_t w a = t) (hn : lt_l w a = n) (hin : vp_in i n) (hv : av g w u t a i.toNatClampNeg = trv g (.ref b)) (kk : V z g nL (pc + 1) lv (.ref b :: st) w u kc ks Q) : V z g nL pc lv (.int i :: .ref a :: st) w u kc ks Q := by
  obtain ⟨p, l, e, R, s, m, args, below, meth, c⟩ := z
  intro H locs ls hR hS hl
  have hlt : i.toNatClampNeg < lt_l w a := by rw [hn]; exact Nat.not_le.mp fun q => hin (Or.inr q)
  show W p l e R s m args below meth c H locs kc ks _ (F0 m pc ls (.int i :: trv g (.ref a) :: st.map (trv g)))
  rw [hR.val (a := a) (by omega)]
  refine W.aald (v := trv g (.ref b)) (ty := aTy t) C.1 C.2.1 (hR.arr ht (by omega) (by omega)) ((C.2.2.2.2.2.2.2.1.arr (t := t) (by omega) (by omega)).1 _ _) ?_ (fun q => by cases q) (by rw [arrV_size, hn]; exact hin) (by rw [arrV_read _ _ hlt, hv]) rfl rfl d (kk H locs ls hR hS hl)
  match t, h24, h27 with
  | 24, _, _ => rfl
  | 25, _, _ => rfl
  | 26, _, _ => rfl
  | n + 27, _, h => omega
theorem VaaldK {a n : Nat} {i : Int32} (C : Cx z g cc nL own ret D mc ms) (d : decode cc pc = .ok (.aaload, 1)) (ht : lt_t w a = 24) (hn : lt_l w a = n) (hin : vp_in i n) (kk : V z g nL (pc + 1) lv (.ref (gK u a i.toNatClampNeg) :: st) w u kc ks Q) : V z g nL pc lv (.int i :: .ref a :: st) w u kc ks Q :=
  Vaald C d (by omega) (by omega) ht hn hin rfl kk
theorem VaaldP {a n t b : Nat} {i : Int32} (C : Cx z g cc nL own ret D mc ms) (d : decode cc pc = .ok (.aaload, 1)) (h25 : t = 25 ∨ t = 26) (ht : lt_t w a = t) (hn : lt_l w a = n) (hin : vp_in i n) (hb : lt_p w a i.toNatClampNeg = b) (kk : V z g nL (pc + 1) lv (.ref b :: st) w u kc ks Q) : V z g nL pc lv (.int i :: .ref a :: st) w u kc ks Q :=
  Vaald C d (by omega) (by omega) ht hn hin (by rcases h25 with rfl | rfl <;> simp [av, trv, hb]) kk
theorem Valen {a n t : Nat} (C : Cx z g cc nL own ret D mc ms) (d : decode cc pc = .ok (.arraylength, 1)) (h20 : 20 ≤ t) (h27 : t < 27) (ht : lt_t w a = t) (hn : lt_l w a = n) (kk : V z g nL (pc + 1) lv (.int (Int32.ofNat n) :: st) w u kc ks Q) : V z g nL pc lv (.ref a :: st) w u kc ks Q := by
  obtain ⟨p, l, e, R, s, m, args, below, meth, c⟩ := z
  intro H locs ls hR hS hl
  show W p l e R s m args below meth c H locs kc ks _ (F0 m pc ls (trv g (.ref a) :: st.map (trv g)))
  rw [hR.val (a := a) (by omega)]
  exact W.alen (n := Int32.ofNat n) C.1 C.2.1 (hR.arr ht (by omega) (by omega)) ((C.2.2.2.2.2.2.2.1.arr (t := t) (by omega) (by omega)).1 _ _) (by rw [arrV_size, hn]; done) rfl rfl d (kk H locs ls hR hS hl)
theorem Rep.ast {H H' : Heap} {a t i : Nat} {v : Value} (hR : Rep g w u H) (hU : Upd w u w' u' a) (ht : lt_t w a = t) (h1 : 20 ≤ t) (h2 : t < 27) (z0 : H'.size = H.size) (oq : ∀ q : Nat, q ≠ adr g a → H'[q]? = H[q]?) (hc : H'[adr g a]? = some ((arrV (gA g t) (lt_l w a) (av g w u t a)).setSlot i v)) (hv : ∀ j, av g w' u' t a j = updV (av g w u t a) i v j) : Rep g w' u' H' := by
  refine hR.put hU (by omega) z0 oq ⟨fun q => absurd q (by rw [hU.2.1 a, ht]; omega), fun _ _ => ?_⟩
  rw [hU.2.1 a, hU.2.2.1 a, ht, hc, arrV_store]
  congr 2
  funext j
  exact (hv j).symm
theorem Viast {a n : Nat} {i x : Int32} (C : Cx z g cc nL own ret D mc ms) (d : decode cc pc = .ok (.iastore, 1)) (ht : lt_t w a = 20) (hn : lt_l w a = n) (hin : vp_in i n) (kk : V z g nL (pc + 1) lv st w (sI u a i.toNatClampNeg x) kc ks Q) : V z g nL pc lv (.int x :: .int i :: .ref a :: st) w u kc ks Q := by
  obtain ⟨p, l, e, R, s, m, args, below, meth, c⟩ := z
  intro H locs ls hR hS hl
  show W p l e R s m args below meth c H locs kc ks _ (F0 m pc ls (.int x :: .int i :: trv g (.ref a) :: st.map (trv g)))
  rw [hR.val (a := a) (by omega)]
  refine W.iast C.1 C.2.1 (hR.arr ht (by omega) (by omega)) ((C.2.2.2.2.2.2.2.1.arr (t := 20) (by omega) (by omega)).1 _ _) (fun q => by cases q) (by rw [arrV_size, hn]; exact hin) rfl rfl d fun H1 e1 z1 oq => ?_
  refine kk H1 _ ls (hR.ast (Upd.i w u a _ x) ht (by omega) (by omega) z1 oq e1 (fun j => ?_)) (hS.put z1 oq (hR.fr (by omega))) hl
  by_cases hj : j = i.toNatClampNeg <;> simp [av, updV, gI, sI, up2, hj]
theorem Vlast {a n : Nat} {i : Int32} {x : Int64} (C : Cx z g cc nL own ret D mc ms) (d : decode cc pc = .ok (.lastore, 1)) (ht : lt_t w a = 21) (hn : lt_l w a = n) (hin : vp_in i n) (kk : V z g nL (pc + 1) lv st w (sL u a i.toNatClampNeg x) kc ks Q) : V z g nL pc lv (.long x :: .int i :: .ref a :: st) w u kc ks Q := by
  obtain ⟨p, l, e, R, s, m, args, below, meth, c⟩ := z
  intro H locs ls hR hS hl
  show W p l e R s m args below meth c H locs kc ks _ (F0 m pc ls (.long x :: .int i :: trv g (.ref a) :: st.map (trv g)))
  rw [hR.val (a := a) (by omega)]
  refine W.last C.1 C.2.1 (hR.arr ht (by omega) (by omega)) ((C.2.2.2.2.2.2.2.1.arr (t := 21) (by omega) (by omega)).1 _ _) (fun q => by cases q) (by rw [arrV_size, hn]; exact hin) rfl rfl d fun H1 e1 z1 oq => ?_
  refine kk H1 _ ls (hR.ast (Upd.l w u a _ x) ht (by omega) (by omega) z1 oq e1 (fun j => ?_)) (hS.put z1 oq (hR.fr (by omega))) hl
  by_cases hj : j = i.toNatClampNeg <;> simp [av, updV, gL, sL, up2, hj]
theorem Vzast {a n : Nat} {i x : Int32} (C : Cx z g cc nL own ret D mc ms) (d : decode cc pc = .ok (.bastore, 1)) (ht : lt_t w a = 22) (hn : lt_l w a = n) (hin : vp_in i n) (kk : V z g nL (pc + 1) lv st w (sI u a i.toNatClampNeg (vp_nar .boolean x)) kc ks Q) : V z g nL pc lv (.int x :: .int i :: .ref a :: st) w u kc ks Q := by
  obtain ⟨p, l, e, R, s, m, args, below, meth, c⟩ := z
  intro H locs ls hR hS hl
  show W p l e R s m args below meth c H locs kc ks _ (F0 m pc ls (.int x :: .int i :: trv g (.ref a) :: st.map (trv g)))
  rw [hR.val (a := a) (by omega)]
  refine W.zast C.1 C.2.1 (hR.arr ht (by omega) (by omega)) ((C.2.2.2.2.2.2.2.1.arr (t := 22) (by omega) (by omega)).1 _ _) (fun q => by cases q) (by rw [arrV_size, hn]; exact hin) rfl rfl d fun H1 e1 z1 oq => ?_
  refine kk H1 _ ls (hR.ast (Upd.i w u a _ _) ht (by omega) (by omega) z1 oq e1 (fun j => ?_)) (hS.put z1 oq (hR.fr (by omega))) hl
  by_cases hj : j = i.toNatClampNeg
  · simp [av, updV, gI, sI, up2, hj]
    rfl
  · simp [av, updV, gI, sI, up2, hj]
theorem Vcast {a n : Nat} {i x : Int32} (C : Cx z g cc nL own ret D mc ms) (d : decode cc pc = .ok (.castore, 1)) (ht : lt_t w a = 23) (hn : lt_l w a = n) (hin : vp_in i n) (kk : V z g nL (pc + 1) lv st w (sI u a i.toNatClampNeg (vp_nar .char x)) kc ks Q) : V z g nL pc lv (.int x :: .int i :: .ref a :: st) w u kc ks Q := by
  obtain ⟨p, l, e, R, s, m, args, below, meth, c⟩ := z
  intro H locs ls hR hS hl
  show W p l e R s m args below meth c H locs kc ks _ (F0 m pc ls (.int x :: .int i :: trv g (.ref a) :: st.map (trv g)))
  rw [hR.val (a := a) (by omega)]
  refine W.cast C.1 C.2.1 (hR.arr ht (by omega) (by omega)) ((C.2.2.2.2.2.2.2.1.arr (t := 23) (by omega) (by omega)).1 _ _) (fun q => by cases q) (by rw [arrV_size, hn]; exact hin) rfl rfl d fun H1 e1 z1 oq => ?_
  refine kk H1 _ ls (hR.ast (Upd.i w u a _ _) ht (by omega) (by omega) z1 oq e1 (fun j => ?_)) (hS.put z1 oq (hR.fr (by omega))) hl
  by_cases hj : j = i.toNatClampNeg
  · simp [av, updV, gI, sI, up2, hj]
    rfl
  · simp [av, updV, gI, sI, up2, hj]
end VHEAP
end
section
/-! ===== NEW CELLS, STATICS, CALLS, RETURNS ===== -/
/-- a new cell of a kind and a length, all of it 0 -/
def nwL (w : LT) (t n : Nat) : LT := (w.1 + 1, (fun b => if b = w.1 then t else w.2.1 b), (fun b => if b = w.1 then n else w.2.2.1 b), fun b => if b = w.1 then (fun _ => 0) else w.2.2.2 b)
def nwM (w : LT) (u : MT) : MT := ((fun b => if b = w.1 then (fun _ => 0) else u.1 b), (fun b => if b = w.1 then (fun _ => 0) else u.2.1 b), fun b => if b = w.1 then (fun _ => 0) else u.2.2 b)
theorem Rep.new {g : GT} {w : LT} {u : MT} {H H' : Heap} {t n : Nat} (hR : Rep g w u H) (z : H'.size = H.size + 1) (oq : ∀ q : Nat, q < H.size → H'[q]? = H[q]?) (hc : cellOk g (nwL w t n) (nwM w u) w.1 H') : Rep g (nwL w t n) (nwM w u) H' := by
  obtain ⟨h1, h2, h3, h4⟩ := hR
  have e1 : lt_n (nwL w t n) = lt_n w + 1 := rfl
  refine ⟨by rw [z, h1, e1]; omega, by rw [e1]; omega, fun b hb => ?_, fun b hb1 hb2 => ?_⟩
  · rw [e1] at hb
    have hne : b ≠ w.1 := by have : lt_n w = w.1 := rfl; omega
    show (if b = w.1 then t else w.2.1 b) = 99
    rw [if_neg hne]
    exact h3 b (by omega)
  · by_cases hba : b = w.1
    · rw [hba]; exact hc
    · have hlt : b < lt_n w := by have : lt_n w = w.1 := rfl; rw [e1] at hb2; omega
      refine (h4 b hb1 hlt).go (if_neg hba) (if_neg hba) (if_neg hba) (if_neg hba) (if_neg hba) (if_neg hba) (oq _ ?_)
      rw [adr_dyn g hb1, h1]
      have : lt_n w = w.1 := rfl
      omega
theorem nw_adr {g : GT} {w : LT} {u : MT} {H : Heap} (hR : Rep g w u H) : adr g w.1 = H.size := by
  have h2 : 100 ≤ w.1 := hR.2.1
  rw [adr_dyn g h2, hR.1]
theorem va_S_new {g : GT} {H0 H H' : Heap} {locs : List Loc} (hS : va_S (fr g) H0 H locs) (z : H'.size = H.size + 1) (oq : ∀ q : Nat, q < H.size → H'[q]? = H[q]?) : va_S (fr g) H0 H' locs :=
  ⟨Nat.le_trans hS.1 (by omega), fun x h1 h2 => (oq x (Nat.lt_of_lt_of_le h1 hS.1)).trans (hS.2.1 x h1 h2), hS.2.2⟩
/-- a method's contract over the memory -/
def Mt (g : GT) (y : MethodName) (mb : ByteArray) (ml : Nat) (mr : Option FieldType) (dp mc ms : Nat) (as : List Value) (w : LT) (u : MT) (Q : Option Value → LT → MT → Prop) : Prop :=
  ∀ l : Launch, Met l y (.code y mb ml mr :: WT) (rmD dp mc ms) (va_Pc (as.map (trv g)) (fun U => Stc g U ∧ Rep g w u U.heap)) (QQ g Q) mc ms (fr g)
/-- what a call's constant says -/
def YB (own : String) (idx : Nat) (y : MethodName) (mb : ByteArray) (ml : Nat) (mr : Option FieldType) (n : Nat) : Prop :=
  (Cond.methodLink own idx y ∈ WT ∨ ∃ host, Cond.methodLinkNest own idx y host ∈ NWs) ∧ Cond.code y mb ml mr ∈ WT ∧ Cond.initialized y.cls ∈ WT ∧ (y.cls ≠ "java/lang/invoke/MethodHandle" ∧ y.cls ≠ "java/lang/invoke/VarHandle" ∧ (parseMethodDescriptor y.desc).map (fun d => d.parameters.length) = some n)
def YV (own : String) (idx : Nat) (y : MethodName) (mb : ByteArray) (ml : Nat) (mr : Option FieldType) (n t : Nat) : Prop := YB own idx y mb ml mr n ∧ Cond.instanceMethod y ∈ WT ∧ Cond.selects (cS t) y y ∈ WT ∧ t < 13
theorem good_cons {y : MethodName} {mb : ByteArray} {ml : Nat} {mr : Option FieldType} (h : Cond.code y mb ml mr ∈ WT) : GoodIn WT (.code y mb ml mr :: WT) := fun w hw => (List.mem_cons.mp hw).elim (fun e => by rw [e]; exact WT_good _ h) (fun h2 => WT_good w h2)
section VCALL
variable {z : ZT} {g : GT} {cc : ByteArray} {nL : Nat} {own : String} {ret : Option FieldType} {D mc ms : Nat} {pc : Nat} {lv lv' : List (Nat × Value)} {st : List Value} {w w' : LT} {u u' : MT} {kc ks : Nat} {Q : Option Value → LT → MT → Prop}
theorem Vwiden {k2 s2 : Nat} (h1 : kc ≤ k2) (h2 : ks ≤ s2) (k : V z g nL pc lv st w u k2 s2 Q) : V z g nL pc lv st w u kc ks Q := by
  obtain ⟨p, l, e, R, s, m, args, below, meth, c⟩ := z
  intro H locs ls hR hS hl
  exact W.widen h1 h2 (k H locs ls hR hS hl)
theorem Vnew {idx t : Nat} (C : Cx z g cc nL own ret D mc ms) (d : decode cc pc = .ok (.new idx, 3)) (ht : t < 13) (h1 : Cond.classLink own idx (cS t) ∈ WT) (h2 : Cond.instantiable (cS t) (cN t) ∈ WT) (h3 : Cond.initialized (cS t) ∈ WT) (hc : kc + 1 ≤ mc) (hs : ks + cN t ≤ ms) (k : V z g nL (pc + 3) lv (.ref w.1 :: st) (nwL w t 0) (nwM w u) (kc + 1) (ks + cN t) Q) : V z g nL pc lv st w u kc ks Q := by
  obtain ⟨p, l, e, R, s, m, args, below, meth, c⟩ := z
  intro H locs ls hR hS hl
  obtain ⟨hx, hb, -, hown, hts, -, -, hsc, hRm⟩ := C
  have hK := hsc.1
  have hKn := hK.1 t _ (cl_at t ht)
  refine W.newcK hx hb hown (hts _ h1) (hts _ h2) (hts _ h3) rfl d (by rw [hRm]; exact hc) (by rw [hRm]; exact hs) hKn.2.1 rfl fun H1 kC hkC e1 z1 o1 => ?_
  have h5 := k H1 locs ls (hR.new z1 o1 ?_) (va_S_new hS z1 o1) hl
  · rw [← nw_adr hR]
    rw [← tr_dyn g (show 100 ≤ w.1 from hR.2.1)]
    exact h5
  · have ht2 : lt_t (nwL w t 0) w.1 = t := if_pos rfl
    refine ⟨fun _ => ?_, fun q => absurd q (by rw [ht2]; omega)⟩
    rw [ht2, nw_adr hR]
    refine (u_born (cY t) hts (cl_ws t ht) hKn hkC e1 (cl_ty t ht)).to (fun j hj => ?_)
    have hok := fk_ok t ht j hj
    unfold fkOk at hok
    have g1 : gI (nwM w u) w.1 j = 0 := by simp [gI, nwM]
    have g2 : gK (nwM w u) w.1 j = 0 := by simp [gK, nwM]
    have g3 : lt_p (nwL w t 0) w.1 j = 0 := by simp [lt_p, nwL]
    unfold fv
    rw [g1, g2, g3]
    split at hok
    · rename_i h9; rw [h9]; simp at hok; simp [hok]; rfl
    · rename_i h9; rw [h9]; simp at hok; simp [hok]; rfl
    · rename_i h9
      rw [h9]
      split at hok
      · simp at hok; simp [hok, tr]; rfl
      · simp at hok; simp [hok, tr]; rfl
    · rename_i h9; rw [h9]; simp at hok; simp [hok, tr]; rfl
    · simp at hok
theorem Vnewa {at_ : ArrayType} {t n : Nat} {x : Int32} (C : Cx z g cc nL own ret D mc ms) (d : decode cc pc = .ok (.newarray at_, 2)) (ht1 : 20 ≤ t) (ht2 : t < 24) (hty : newarray.typeOf at_ = aTy t) (hw : Cond.arrayClass (newarray.typeOf at_) ∈ WT) (hx0 : ¬ x < 0) (hxn : x.toNatClampNeg = n) (hn : n * 8 ≤ 536870912) (hc : kc + 1 ≤ mc) (hs : ks + n ≤ ms) (k : V z g nL (pc + 2) lv (.ref w.1 :: st) (nwL w t n) (nwM w u) (kc + 1) (ks + n) Q) : V z g nL pc lv (.int x :: st) w u kc ks Q := by
  obtain ⟨p, l, e, R, s, m, args, below, meth, c⟩ := z
  intro H locs ls hR hS hl
  obtain ⟨hx, hb, -, hown, hts, -, -, hst, hRm⟩ := C
  have hby : n * componentBytes (newarray.typeOf at_) ≤ 536870912 := by
    rw [hty]
    have h4 : t = 20 ∨ t = 21 ∨ t = 22 ∨ t = 23 := by omega
    rcases h4 with h | h | h | h <;> rw [h] <;> exact Nat.le_trans (Nat.mul_le_mul_left n (by decide)) hn
  refine va_newaK hx hb (hts _ hw) rfl d rfl hx0 hxn hby (by rw [hRm]; exact hc) (by rw [hRm]; exact hs) rfl fun H1 cA e1 z1 o1 hAr hNm => ?_
  have hcA : cA = gA g t := by
    have h2 := va_RA_name (hst.arr (t := t) (by omega) (by omega)).2
    rw [hty] at hNm
    exact Option.some.inj (hNm.symm.trans h2)
  subst hcA
  have h5 := k H1 locs ls (hR.new z1 o1 ?_) (va_S_new hS z1 o1) hl
  · rw [← nw_adr hR]
    rw [← tr_dyn g (show 100 ≤ w.1 from hR.2.1)]
    exact h5
  · have h6 : lt_t (nwL w t n) w.1 = t := if_pos rfl
    have h7 : lt_l (nwL w t n) w.1 = n := if_pos rfl
    refine ⟨fun q => absurd q (by rw [h6]; omega), fun _ _ => ?_⟩
    rw [h6, h7, nw_adr hR, e1, hty]
    have h4 : t = 20 ∨ t = 21 ∨ t = 22 ∨ t = 23 := by omega
    congr 2
    funext j
    rcases h4 with h | h | h | h <;> rw [h]
    · simp [av, gI, nwM]; rfl
    · simp [av, gL, nwM]; rfl
    · simp [av, gI, nwM]; rfl
    · simp [av, gI, nwM]; rfl
theorem Vanew {idx t n : Nat} {x : Int32} (C : Cx z g cc nL own ret D mc ms) (d : decode cc pc = .ok (.anewarray idx, 3)) (ht1 : 24 ≤ t) (ht2 : t < 27) {E : String} (hE : aTy t = .object E) (h1 : Cond.classLink own idx E ∈ WT) (hx0 : ¬ x < 0) (hxn : x.toNatClampNeg = n) (hn : n * 8 ≤ 536870912) (hc : kc + 1 ≤ mc) (hs : ks + n ≤ ms) (k : V z g nL (pc + 3) lv (.ref w.1 :: st) (nwL w t n) (nwM w u) (kc + 1) (ks + n) Q) : V z g nL pc lv (.int x :: st) w u kc ks Q := by
  obtain ⟨p, l, e, R, s, m, args, below, meth, c⟩ := z
  intro H locs ls hR hS hl
  obtain ⟨hx, hb, -, hown, hts, -, -, hst, hRm⟩ := C
  subst hxn
  have hov : va_AO E s := by
    have h4 : t = 24 ∨ t = 25 ∨ t = 26 := by omega
    rcases h4 with h | h | h <;> subst h <;> cases hE
    · exact hst.2.2.2.2.2.1
    · exact hst.2.2.2.2.2.2.1
    · exact hst.2.2.2.2.2.2.2
  refine W.anew hx hb hown (hts _ h1) (va_AO.use hov) rfl d rfl hx0 (by omega) (by rw [hRm]; exact hc) (by rw [hRm]; exact hs) fun cA kA comp f1 f2 f3 f4 => ?_
  generalize hH1 : H.push ({ cls := cA, slots := Array.replicate x.toNatClampNeg .null, vm := .none } : Cell) = H1
  have z1 : H1.size = H.size + 1 := by rw [← hH1, Array.size_push]
  have e1 : H1[H.size]? = some (arrV cA x.toNatClampNeg (fun _ => .null)) := by rw [← hH1, Array.getElem?_push_size, ← arrV_new]
  have o1 : ∀ q : Nat, q < H.size → H1[q]? = H[q]? := fun q hq => by rw [← hH1, Array.getElem?_push, if_neg (Nat.ne_of_lt hq)]
  have hcA : cA = gA g t := by
    have h2 := (hst.arr (t := t) (by omega) (by omega)).2
    rw [hE] at h2
    obtain ⟨kA', comp', _, _, _, h9⟩ := h2
    exact Option.some.inj (f1.symm.trans h9)
  subst hcA
  have h5 := k H1 locs ls (hR.new z1 o1 ?_) (va_S_new hS z1 o1) hl
  · rw [← nw_adr hR]
    rw [← tr_dyn g (show 100 ≤ w.1 from hR.2.1)]
    exact h5
  · have h6 : lt_t (nwL w t x.toNatClampNeg) w.1 = t := if_pos rfl
    have h7 : lt_l (nwL w t x.toNatClampNeg) w.1 = x.toNatClampNeg := if_pos rfl
    refine ⟨fun q => absurd q (by rw [h6]; omega), fun _ _ => ?_⟩
    rw [h6, h7, nw_adr hR, e1]
    have h4 : t = 24 ∨ t = 25 ∨ t = 26 := by omega
    congr 2
    funext j
    rcases h4 with h | h | h <;> rw [h]
    · simp [av, gK, nwM, tr]
    · simp [av, lt_p, nwL, tr]
    · simp [av, lt_p, nwL, tr]
/-- a reference to a cell that is there goes into an array of its kind -/
theorem VaastP {a n t b tb : Nat} {i : Int32} (C : Cx z g cc nL own ret D mc ms) (d : decode cc pc = .ok (.aastore, 1)) (h25 : (t = 25 ∧ tb = 5) ∨ (t = 26 ∧ tb = 7)) (ht : lt_t w a = t) (hn : lt_l w a = n) (htb : lt_t w b = tb) (hin : vp_in i n) (kk : V z g nL (pc + 1) lv st (sP w a i.toNatClampNeg b) u kc ks Q) : V z g nL pc lv (.ref b :: .int i :: .ref a :: st) w u kc ks Q := by
  obtain ⟨p, l, e, R, s, m, args, below, meth, c⟩ := z
  intro H locs ls hR hS hl
  have hb13 : tb < 13 := by omega
  show W p l e R s m args below meth c H locs kc ks _ (F0 m pc ls (trv g (.ref b) :: .int i :: trv g (.ref a) :: st.map (trv g)))
  rw [hR.val (a := a) (by omega), hR.val (a := b) (by omega)]
  obtain ⟨cellV, g1, g2, g3, -⟩ := hR.obj htb hb13
  have hst := C.2.2.2.2.2.2.2.1
  have hcls := (hst.1.1 tb _ (cl_at tb hb13)).2
  have hra := (hst.arr (t := t) (by omega) (by omega)).2
  have hE : aTy t = .object (cS tb) := by rcases h25 with ⟨rfl, rfl⟩ | ⟨rfl, rfl⟩ <;> rfl
  rw [hE] at hra
  obtain ⟨kA, comp, k1, k2, k3, -⟩ := hra
  have hcomp : comp = gC g tb := Option.some.inj (k3.symm.trans hcls.1)
  subst hcomp
  obtain ⟨kC, hkC, -⟩ := hcls.2
  have hlt : i.toNatClampNeg < lt_l w a := by rw [hn]; exact Nat.not_le.mp fun q => hin (Or.inr q)
  refine W.aast C.1 C.2.1 (hR.arr ht (by omega) (by omega)) (fun q h => by cases h) (fun h => by cases h) k1 k2 rfl hkC ⟨fun q => hin (Or.inl q), by rw [arrV_size]; exact hlt⟩ g1 (fun q h => by rw [g3] at h; cases h) (by rw [g2]; exact hkC) (by rw [g2]; exact va_assign hcls) rfl rfl d fun H1 e1 z1 oq => ?_
  refine kk H1 _ ls (hR.ast (Upd.p w u a _ b) ht (by omega) (by omega) z1 oq e1 (fun j => ?_)) (hS.put z1 oq (hR.fr (by omega))) hl
  have hvb : tr g b = .ref (adr g b) := tr_dyn g (hR.dyn (a := b) (by omega)).1
  by_cases hj : j = i.toNatClampNeg
  · rcases h25 with ⟨rfl, -⟩ | ⟨rfl, -⟩ <;> simp [av, updV, lt_p, sP, up2, hj, hvb]
  · rcases h25 with ⟨rfl, -⟩ | ⟨rfl, -⟩ <;> simp [av, updV, lt_p, sP, up2, hj]
/-- a token goes into an array of tokens -/
theorem VaastK {a n x : Nat} {i : Int32} (C : Cx z g cc nL own ret D mc ms) (d : decode cc pc = .ok (.aastore, 1)) (ht : lt_t w a = 24) (hn : lt_l w a = n) (hx1 : 1 ≤ x) (hx2 : x ≤ 34) (hin : vp_in i n) (kk : V z g nL (pc + 1) lv st w (sK u a i.toNatClampNeg x) kc ks Q) : V z g nL pc lv (.ref x :: .int i :: .ref a :: st) w u kc ks Q := by
  obtain ⟨p, l, e, R, s, m, args, below, meth, c⟩ := z
  intro H locs ls hR hS hl
  have hst := C.2.2.2.2.2.2.2.1
  have hvb : tr g x = .ref (gad g (x - 1)) := by simp [tr, adr, show ¬ x = 0 by omega, hx2]
  show W p l e R s m args below meth c H locs kc ks _ (F0 m pc ls (tr g x :: .int i :: trv g (.ref a) :: st.map (trv g)))
  rw [hR.val (a := a) (by omega), hvb]
  obtain ⟨cellV, g1, g2, g3⟩ := va_recvE hst.2.1 (i := x - 1) (by show x - 1 < 34; omega) hS
  have hcls := (hst.1.1 9 _ (cl_at 9 (by omega))).2
  obtain ⟨kA, comp, k1, k2, k3, -⟩ := (hst.arr (t := 24) (by omega) (by omega)).2
  have hcomp : comp = gC g 9 := Option.some.inj (k3.symm.trans hcls.1)
  subst hcomp
  have hcv : cellV.cls = gC g 9 := Option.some.inj (g3.symm.trans hcls.1)
  obtain ⟨kC, hkC, -⟩ := hcls.2
  have hlt : i.toNatClampNeg < lt_l w a := by rw [hn]; exact Nat.not_le.mp fun q => hin (Or.inr q)
  refine W.aast C.1 C.2.1 (hR.arr ht (by omega) (by omega)) (fun q h => by cases h) (fun h => by cases h) k1 k2 rfl hkC ⟨fun q => hin (Or.inl q), by rw [arrV_size]; exact hlt⟩ g1 (fun q h => by rw [h] at g2; cases g2) (by rw [hcv]; exact hkC) (by rw [hcv]; exact va_assign hcls) rfl rfl d fun H1 e1 z1 oq => ?_
  refine kk H1 _ ls (hR.ast (Upd.k w u a _ x) ht (by omega) (by omega) z1 oq e1 (fun j => ?_)) (hS.put z1 oq (hR.fr (by omega))) hl
  by_cases hj : j = i.toNatClampNeg
  · simp [av, updV, gK, sK, up2, hj, hvb]
  · simp [av, updV, gK, sK, up2, hj]
/-- a token's name -/
theorem Vtok {idx i x : Nat} {n : String} (C : Cx z g cc nL own ret D mc ms) (d : decode cc pc = .ok (.getstatic idx, 3)) (hw : Cond.fieldLink own idx "SunVillage$Token" n "LSunVillage$Token;" ∈ WT) (hi : i < 34) (hn : tkN.getD i "" = n) (hx : x = i + 1) (kk : V z g nL (pc + 3) lv (.ref x :: st) w u kc ks Q) : V z g nL pc lv st w u kc ks Q := by
  obtain ⟨p, l, e, R, s, m, args, below, meth, c⟩ := z
  intro H locs ls hR hS hl
  have hst := C.2.2.2.2.2.2.2.1
  have h1 := (hst.2.1.1 i hi).1
  rw [hn] at h1
  subst hx
  have h2 := kk H locs ls hR hS hl
  have hv : trv g (.ref (i + 1)) = .ref (gad g i) := by simp [trv, tr, adr, show i + 1 ≤ 34 by omega]
  rw [List.map_cons, hv] at h2
  exact va_gets C.1 C.2.1 h1 hS C.2.2.2.1 (C.2.2.2.2.1 _ hw) (fun _ h => h) d h2
/-- a token's code -/
theorem Vtokc {idx x : Nat} (C : Cx z g cc nL own ret D mc ms) (d : decode cc pc = .ok (.getfield idx, 3)) (hw : Cond.fieldLink own idx "SunVillage$Token" "code" "I" ∈ WT ∨ ∃ host, Cond.fieldLinkNest own idx "SunVillage$Token" "code" "I" host ∈ NWs) (hx1 : 1 ≤ x) (hx2 : x ≤ 34) (kk : V z g nL (pc + 3) lv (.int (tkC.getD (x - 1) 0) :: st) w u kc ks Q) : V z g nL pc lv (.ref x :: st) w u kc ks Q := by
  obtain ⟨p, l, e, R, s, m, args, below, meth, c⟩ := z
  intro H locs ls hR hS hl
  have hst := C.2.2.2.2.2.2.2.1
  have hv : trv g (.ref x) = .ref (gad g (x - 1)) := by simp [trv, tr, adr, hx2, show ¬ x = 0 by omega]
  have h2 := kk H locs ls hR hS hl
  rw [List.map_cons, hv]
  obtain ⟨cf, k, fi, f, cell, h1, h3, h4, h5, h6, h7⟩ := ((hst.2.1.1 (x - 1) (by show x - 1 < 34; omega)).2.2 _ (List.mem_cons_self)).kept hS.2.1
  rcases hw with hw | ⟨host, hw⟩
  · exact W.getf C.1 C.2.1 C.2.2.2.1 (C.2.2.2.2.1 _ hw) h1 h3 h4 h5 h6 rfl rfl d h2
  · exact va_Wgetf C.1 C.2.1 C.2.2.2.1 (hst.nest hw args) h1 h3 h4 h5 h6 rfl rfl d h2
/-! returns -/
theorem Vret_end {v : Option Value} {H : Heap} {s t : State} {locs : List Loc} (hR : Rep g w u H) (hS : va_S (fr g) s.heap H locs) (hq : Q v w u) (ht : t.heap = H) (args : Array Value) : QQ g Q args s (.returned (v.map (trv g))) t :=
  ⟨⟨v, w, u, rfl, hq, by rw [ht]; exact hR⟩, hS.F ht⟩
theorem Viret {x : Int32} (C : Cx z g cc nL own (some .int) D mc ms) (d : decode cc pc = .ok (.ireturn, 1)) (h1 : kc ≤ mc) (h2 : ks ≤ ms) (hq : Q (some (.int x)) w u) : V z g nL pc lv [.int x] w u kc ks Q := by
  obtain ⟨p, l, e, R, s, m, args, below, meth, c⟩ := z
  intro H locs ls hR hS hl
  obtain ⟨hx, hb, -, hown, hts, hr, hlk, -, hRm⟩ := C
  subst hRm
  exact W.widen h1 h2 (W.iret hx hb hr (fun t ht _ => Vret_end (v := some (.int x)) hR hS hq ht args) hS.2.2 d)
theorem Vzret {x : Int32} (C : Cx z g cc nL own (some .boolean) D mc ms) (d : decode cc pc = .ok (.ireturn, 1)) (hn : narrow .boolean (.int x) = .int x) (h1 : kc ≤ mc) (h2 : ks ≤ ms) (hq : Q (some (.int x)) w u) : V z g nL pc lv [.int x] w u kc ks Q := by
  obtain ⟨p, l, e, R, s, m, args, below, meth, c⟩ := z
  intro H locs ls hR hS hl
  obtain ⟨hx, hb, -, hown, hts, hr, hlk, -, hRm⟩ := C
  subst hRm
  exact W.widen h1 h2 (W.zret hx hb hr hn (fun t ht _ => Vret_end (v := some (.int x)) hR hS hq ht args) hS.2.2 d)
theorem Vlret {x : Int64} (C : Cx z g cc nL own (some .long) D mc ms) (d : decode cc pc = .ok (.lreturn, 1)) (h1 : kc ≤ mc) (h2 : ks ≤ ms) (hq : Q (some (.long x)) w u) : V z g nL pc lv [.long x] w u kc ks Q := by
  obtain ⟨p, l, e, R, s, m, args, below, meth, c⟩ := z
  intro H locs ls hR hS hl
  obtain ⟨hx, hb, -, hown, hts, hr, hlk, -, hRm⟩ := C
  subst hRm
  exact W.widen h1 h2 (W.lret hx hb hr (fun t ht _ => Vret_end (v := some (.long x)) hR hS hq ht args) hS.2.2 d)
theorem Vvret (C : Cx z g cc nL own none D mc ms) (d : decode cc pc = .ok (.return_, 1)) (h1 : kc ≤ mc) (h2 : ks ≤ ms) (hq : Q none w u) : V z g nL pc lv [] w u kc ks Q := by
  obtain ⟨p, l, e, R, s, m, args, below, meth, c⟩ := z
  intro H locs ls hR hS hl
  obtain ⟨hx, hb, -, hown, hts, hr, hlk, -, hRm⟩ := C
  subst hRm
  exact W.widen h1 h2 (W.vret hx hb hr (fun t ht _ => Vret_end (v := none) hR hS hq ht args) hS.2.2 d)
theorem Varet {x : Nat} {E : String} (C : Cx z g cc nL own (some (.object E)) D mc ms) (d : decode cc pc = .ok (.areturn, 1)) (h1 : kc ≤ mc) (h2 : ks ≤ ms) (hq : Q (some (.ref x)) w u) : V z g nL pc lv [.ref x] w u kc ks Q := by
  obtain ⟨p, l, e, R, s, m, args, below, meth, c⟩ := z
  intro H locs ls hR hS hl
  obtain ⟨hx, hb, -, hown, hts, hr, hlk, -, hRm⟩ := C
  subst hRm
  exact W.widen h1 h2 (W.aret hx hb hr (Or.inl ⟨_, rfl⟩) (tr_or g x) (fun t ht _ => Vret_end (v := some (.ref x)) hR hS hq ht args) hS.2.2 d)
/-! calls -/
theorem Pc_blind (g : GT) (as : List Value) (w : LT) (u : MT) : FrameBlind (va_Pc (as.map (trv g)) (fun U => Stc g U ∧ Rep g w u U.heap)) := by
  intro a U f mk ⟨h1, h2, h3⟩
  exact ⟨h1, h2.go (s := U) (U := U.calling f mk a) (State.WarmedH.refl U) (Nat.le_refl _) (fun _ _ _ => rfl), h3⟩
theorem Stc.now {s U : State} {H : Heap} {locs : List Loc} (h : Stc g s) (hS : va_S (fr g) s.heap H locs) (hU : U.heap = H) (hW : s.WarmedH U.vm) : Stc g U :=
  h.go hW (by rw [hU]; exact hS.1) (fun a h1 h2 => by rw [hU]; exact hS.2.1 a h1 h2)
/-- the callee's cells: what a receiver must be -/
def Rcv (w : LT) (a t : Nat) : Prop := (lt_t w a = t ∧ t < 13) ∨ (t = 9 ∧ 1 ≤ a ∧ a ≤ 34)
theorem Rcv.get {a t : Nat} {s : State} {H : Heap} {locs : List Loc} (h : Rcv w a t) (hst : Stc g s) (hR : Rep g w u H) (hS : va_S (fr g) s.heap H locs) : trv g (.ref a) = .ref (adr g a) ∧ ∃ cell : Cell, H[adr g a]? = some cell ∧ cell.vm.isStatics = false ∧ s.vm.findClass (cS t) = some cell.cls := by
  rcases h with ⟨h1, h2⟩ | ⟨rfl, h1, h2⟩
  · obtain ⟨cell, q1, q2, q3, q4⟩ := hR.obj h1 h2
    exact ⟨hR.val (by omega), cell, q1, by rw [q3]; rfl, by rw [q2]; exact (hst.1.1 t _ (cl_at t h2)).2.1⟩
  · obtain ⟨cell, g1, g2, g3⟩ := va_recvE hst.2.1 (i := a - 1) (by show a - 1 < 34; omega) hS
    have he : adr g a = gad g (a - 1) := by simp [adr, h2]
    exact ⟨by simp [trv, tr, show ¬ a = 0 by omega], cell, by rw [he]; exact g1, g2, g3⟩
theorem Vrun_go {Qa : Option Value → LT → MT → Prop} {p : Program} {l : Launch} {e : Env} {R : Room} {s : State} {m : MethodId} {args a : Array Value} {below : List Frame} {meth : Method} {c : Code} {H : Heap} {locs : List Loc} {c2 s2 : Nat} {ls : Array Slot} {st0 rest : List Value} {P : State → Prop}
    (hr : va_Run p l e R s m args below meth c H locs kc ks c2 s2 (F0 m pc ls st0) rest (QQ g Qa a) (fr g)) (hS : va_S (fr g) s.heap H locs)
    (kk : ∀ (v : Option Value) (w1 : LT) (u1 : MT) (H1 : Heap) (locs1 : List Loc), Qa v w1 u1 → Rep g w1 u1 H1 → va_S (fr g) s.heap H1 locs1 → W p l e R s m args below meth c H1 locs1 (kc + c2) (ks + s2) P (F0 m (pc + 3) ls ((v.map (trv g)).toList ++ rest))) : W p l e R s m args below meth c H locs kc ks P (F0 m pc ls st0) := by
  intro T hT X
  obtain ⟨v, st₀, t, T', L, h0, X', hL, e1, e2, ⟨⟨v1, w1, u1, hv, hp, hb⟩, hz, hk⟩, sto⟩ := hr T hT X
  cases hv
  rw [h0] at hz hk
  obtain ⟨t2, a1, b1⟩ := kk v1 w1 u1 T'.heap (locs ++ L) hp (by rw [e1]; exact hb)
    ⟨Nat.le_trans hS.1 (by rw [e1]; exact hz), fun q h1 h2 => by rw [e1, hk q (Nat.lt_of_lt_of_le h1 hS.1) h2]; exact hS.2.1 q h1 h2, fun q hq => by
      rcases List.mem_append.mp hq with h | h
      · exact hS.2.2 q h
      · exact hL q h⟩ T' rfl X'
  exact ⟨t2, sto t2 a1, b1⟩
theorem map_rev (g : GT) (as rest : List Value) : (as.reverse ++ rest).map (trv g) = (as.map (trv g)).reverse ++ rest.map (trv g) := by simp
theorem lv_roomT {m : MethodId} {ls : Array Slot} {st0 rest : List Value} (h : (rest.map fun v => v.category).sum ≤ 8) : 2 * (F0 m pc ls st0).monitorRoom + (((rest.map (trv g))).map fun v => v.category).sum ≤ 8 := by
  rw [trm_sum]
  exact lv_room h
theorem VcallV {idx t n a c2 s2 dp ml : Nat} {y : MethodName} {mb : ByteArray} {mr : Option FieldType} {as rest : List Value} {Qa : Option Value → LT → MT → Prop} (C : Cx z g cc nL own ret D mc ms) (d : decode cc pc = .ok (.invokevirtual idx, 3)) (hM : Mt g y mb ml mr dp c2 s2 (.ref a :: as) w u Qa) (hy : YV own idx y mb ml mr n t) (hrv : Rcv w a t) (hst : st = as.reverse ++ .ref a :: rest) (hn : as.length = n) (hrm : (rest.map fun v => v.category).sum ≤ 8) (hml : ml ≤ 45) (hdp : dp + 1 ≤ D) (hc : kc + c2 ≤ mc) (hs : ks + s2 ≤ ms)
    (kk : ∀ v w1 u1, Qa v w1 u1 → V z g nL (pc + 3) lv (v.toList ++ rest) w1 u1 (kc + c2) (ks + s2) Q) : V z g nL pc lv st w u kc ks Q := by
  obtain ⟨p, l, e, R, s, m, args, below, meth, c⟩ := z
  intro H locs ls hR hS hl
  obtain ⟨hx, hb, hmL, hown, hts, -, -, hsc, hRm⟩ := C
  obtain ⟨⟨hlk, hcd, hin, hd1, hd2, hd3⟩, hi1, hi2, ht13⟩ := hy
  obtain ⟨hva, hcell⟩ := hrv.get hsc hR hS
  subst hst
  have hstk : (as.reverse ++ .ref a :: rest).map (trv g) = (as.map (trv g)).reverse ++ .ref (adr g a) :: rest.map (trv g) := by
    rw [map_rev, List.map_cons, hva]
  have hpre : PreV s H (cS t) (adr g a) (va_Pc ((Value.ref a :: as).map (trv g)) (fun U => Stc g U ∧ Rep g w u U.heap)) (as.map (trv g)) :=
    ⟨Pc_blind g _ w u, hcell, fun U hU hW => ⟨by rw [List.map_cons, hva], hsc.now hS hU hW, by rw [hU]; exact hR⟩⟩
  have hR1 : (rmD dp c2 s2).frames + 1 ≤ R.frames ∧ 8 + (ml + 11) + (rmD dp c2 s2).locals ≤ R.locals := by
    rw [hRm]
    show dp + 1 ≤ D ∧ 8 + (ml + 11) + 64 * dp ≤ 64 * D
    omega
  have hlen : (as.map (trv g)).length = n := by rw [List.length_map]; exact hn
  have hfit : kc + c2 ≤ R.cells ∧ ks + s2 ≤ R.slots := by rw [hRm]; exact ⟨hc, hs⟩
  rw [hstk]
  have fin : ∀ (v : Option Value) (w1 : LT) (u1 : MT) (H1 : Heap) (locs1 : List Loc), Qa v w1 u1 → Rep g w1 u1 H1 → va_S (fr g) s.heap H1 locs1 → W p l e R s m args below meth c H1 locs1 (kc + c2) (ks + s2) (MQ below (QQ g Q) args s R.cells R.slots (fr g)) (F0 m (pc + 3) ls ((v.map (trv g)).toList ++ rest.map (trv g))) := by
    intro v w1 u1 H1 locs1 q1 q2 q3
    have h9 := kk v w1 u1 q1 H1 locs1 ls q2 q3 hl
    cases v <;> exact h9
  rcases hlk with h | ⟨host, h⟩
  · exact Vrun_go (va_runV ⟨hx, hb, hmL, hown, hts⟩ (hM l) ⟨callB_of n hts (good_cons hcd) rfl rfl rfl (hts _ hin) (hts _ h) ⟨hd1, hd2, hd3⟩ hR1, hts _ hi1, hts _ hi2⟩ hpre rfl hlen hl.1 rfl (lv_roomT hrm) d hfit) hS fin
  · exact Vrun_go (va_runVN ⟨hx, hb, hmL, hown, hts⟩ (hM l) ⟨va_cnB n hts (good_cons hcd) rfl rfl rfl (hsc.2.2.2.2.1 _ h) (hts _ hin) ⟨hd1, hd2, hd3⟩ hR1, hts _ hi1, hts _ hi2⟩ hpre rfl hlen hl.1 rfl (lv_roomT hrm) d hfit) hS fin
end VCALL
end
section
/-! ===== STATIC CALLS, CONSTRUCTORS, Math, A METHOD'S CONTRACT OUT OF ITS BODY ===== -/
theorem lv_args_map (g : GT) : ∀ (as : List Value) (i : Nat), lv_args i (as.map (trv g)) = (lv_args i as).map fun q => (q.1, trv g q.2)
  | [], _ => rfl
  | v :: as, i => by
    show (i, trv g v) :: lv_args (if (trv g v).category = 2 then i + 2 else i + 1) (as.map (trv g)) = (i, trv g v) :: (lv_args (if v.category = 2 then i + 2 else i + 1) as).map _
    rw [trv_cat, lv_args_map g as]
theorem lg_sl_map (g : GT) (as : List Value) : (lg_sl (as.map (trv g))).length = (lg_sl as).length := by
  induction as with
  | nil => rfl
  | cons v as ih =>
    have h1 : ∀ (x : Value) (xs : List Value), (lg_sl (x :: xs)).length = (if x.category = 2 then 2 else 1) + (lg_sl xs).length := by
      intro x xs
      simp only [lg_sl, List.flatMap_cons, List.length_append]
      split <;> rfl
    rw [List.map_cons, h1, h1, trv_cat, ih]
theorem Mt_of {g : GT} {y : MethodName} {mb : ByteArray} {ml : Nat} {mr : Option FieldType} {D mc ms : Nat} {as : List Value} {w : LT} {u : MT} {Q : Option Value → LT → MT → Prop} {own : String} (hy : plainName y.cls = true) (hown : y.cls = own) (hlen : (lg_sl as).length ≤ ml)
    (body : ∀ z : ZT, Cx z g mb ml own mr D mc ms → (y.name = "<init>" → Cn z) → V z g ml 0 (lv_args 0 as) [] w u 0 0 Q) : Mt g y mb ml mr D mc ms as w u Q := by
  intro l
  refine Met.ofW (cc := mb) (maxL := ml) (ret := mr) hy rfl ?_
  intro p e s m args below meth c s₁ B hml hv
  obtain ⟨rfl, hst, hR⟩ := hv
  have hts := atoms_spec (ws := .code y mb ml mr :: WT) B.pre
  have ho : s.vm.findClass own = some m.cls := by rw [← hown]; exact findClass_of_methodNamed B.named
  have hl := lv_entry (as.map (trv g)) (n := ml) (by rw [lg_sl_map]; exact hlen)
  rw [lg_entry_eq]
  rw [lv_args_map] at hl
  exact body (p, l, e, rmD D mc ms, s, m, _, below, meth, c) ⟨B.exec, B.bytes, hml, ho, fun w hw => hts w (List.mem_cons_of_mem _ hw), B.returns, B.notSynchronized, hst, rfl⟩ (fun h => (name_of_methodNamed B.named B.method).1.trans h) s.heap [] _ hR va_S.rf hl
section VCALL2
variable {z : ZT} {g : GT} {cc : ByteArray} {nL : Nat} {own : String} {ret : Option FieldType} {D mc ms : Nat} {pc : Nat} {lv lv' : List (Nat × Value)} {st : List Value} {w w' : LT} {u u' : MT} {kc ks : Nat} {Q : Option Value → LT → MT → Prop}
theorem VcallS {idx n c2 s2 dp ml : Nat} {y : MethodName} {mb : ByteArray} {mr : Option FieldType} {as rest : List Value} {Qa : Option Value → LT → MT → Prop} (C : Cx z g cc nL own ret D mc ms) (d : decode cc pc = .ok (.invokestatic idx, 3)) (hM : Mt g y mb ml mr dp c2 s2 as w u Qa) (hy : YB own idx y mb ml mr n) (hsta : Cond.static y ∈ WT) (hst : st = as.reverse ++ rest) (hn : as.length = n) (hrm : (rest.map fun v => v.category).sum ≤ 8) (hml : ml ≤ 45) (hdp : dp + 1 ≤ D) (hc : kc + c2 ≤ mc) (hs : ks + s2 ≤ ms)
    (kk : ∀ v w1 u1, Qa v w1 u1 → V z g nL (pc + 3) lv (v.toList ++ rest) w1 u1 (kc + c2) (ks + s2) Q) : V z g nL pc lv st w u kc ks Q := by
  obtain ⟨p, l, e, R, s, m, args, below, meth, c⟩ := z
  intro H locs ls hR hS hl
  obtain ⟨hx, hb, hmL, hown, hts, -, -, hsc, hRm⟩ := C
  obtain ⟨hlk, hcd, hin, hd1, hd2, hd3⟩ := hy
  subst hst
  have hstk : (as.reverse ++ rest).map (trv g) = (as.map (trv g)).reverse ++ rest.map (trv g) := map_rev g as rest
  have hpre : PreS s H (va_Pc (as.map (trv g)) (fun U => Stc g U ∧ Rep g w u U.heap)) (as.map (trv g)) :=
    ⟨Pc_blind g _ w u, fun U hU hW => ⟨rfl, hsc.now hS hU hW, by rw [hU]; exact hR⟩⟩
  have hR1 : (rmD dp c2 s2).frames + 1 ≤ R.frames ∧ 8 + (ml + 11) + (rmD dp c2 s2).locals ≤ R.locals := by
    rw [hRm]
    show dp + 1 ≤ D ∧ 8 + (ml + 11) + 64 * dp ≤ 64 * D
    omega
  have hlen : (as.map (trv g)).length = n := by rw [List.length_map]; exact hn
  have hfit : kc + c2 ≤ R.cells ∧ ks + s2 ≤ R.slots := by rw [hRm]; exact ⟨hc, hs⟩
  rw [hstk]
  have fin : ∀ (v : Option Value) (w1 : LT) (u1 : MT) (H1 : Heap) (locs1 : List Loc), Qa v w1 u1 → Rep g w1 u1 H1 → va_S (fr g) s.heap H1 locs1 → W p l e R s m args below meth c H1 locs1 (kc + c2) (ks + s2) (MQ below (QQ g Q) args s R.cells R.slots (fr g)) (F0 m (pc + 3) ls ((v.map (trv g)).toList ++ rest.map (trv g))) := by
    intro v w1 u1 H1 locs1 q1 q2 q3
    have h9 := kk v w1 u1 q1 H1 locs1 ls q2 q3 hl
    cases v <;> exact h9
  rcases hlk with h | ⟨host, h⟩
  · exact Vrun_go (va_runS ⟨hx, hb, hmL, hown, hts⟩ (hM l) ⟨callB_of n hts (good_cons hcd) rfl rfl rfl (hts _ hin) (hts _ h) ⟨hd1, hd2, hd3⟩ hR1, hts _ hsta⟩ hpre rfl hlen hl.1 rfl (lv_roomT hrm) d hfit) hS fin
  · exact Vrun_go (va_runSN ⟨hx, hb, hmL, hown, hts⟩ (hM l) ⟨va_cnB n hts (good_cons hcd) rfl rfl rfl (hsc.2.2.2.2.1 _ h) (hts _ hin) ⟨hd1, hd2, hd3⟩ hR1, hts _ hsta, trivial⟩ hpre rfl hlen hl.1 rfl (lv_roomT hrm) d hfit) hS fin
theorem VcallI {idx t n a c2 s2 dp ml : Nat} {y : MethodName} {mb : ByteArray} {as rest : List Value} {Qa : Option Value → LT → MT → Prop} (C : Cx z g cc nL own ret D mc ms) (d : decode cc pc = .ok (.invokespecial idx, 3)) (hM : Mt g y mb ml none dp c2 s2 (.ref a :: as) w u Qa) (hy : YB own idx y mb ml none n) (hi1 : Cond.instanceMethod y ∈ WT) (hin1 : y.name = "<init>") (hta : lt_t w a = t) (ht13 : t < 13) (hst : st = as.reverse ++ .ref a :: rest) (hn : as.length = n) (hrm : (rest.map fun v => v.category).sum ≤ 8) (hml : ml ≤ 45) (hdp : dp + 1 ≤ D) (hc : kc + c2 ≤ mc) (hs : ks + s2 ≤ ms)
    (kk : ∀ v w1 u1, Qa v w1 u1 → V z g nL (pc + 3) lv (v.toList ++ rest) w1 u1 (kc + c2) (ks + s2) Q) : V z g nL pc lv st w u kc ks Q := by
  obtain ⟨p, l, e, R, s, m, args, below, meth, c⟩ := z
  intro H locs ls hR hS hl
  obtain ⟨hx, hb, hmL, hown, hts, -, -, hsc, hRm⟩ := C
  obtain ⟨hlk, hcd, hin, hd1, hd2, hd3⟩ := hy
  have hva := hR.val (a := a) (by omega)
  subst hst
  have hstk : (as.reverse ++ .ref a :: rest).map (trv g) = (as.map (trv g)).reverse ++ .ref (adr g a) :: rest.map (trv g) := by
    rw [map_rev, List.map_cons, hva]
  have hpre : PreS s H (va_Pc ((Value.ref a :: as).map (trv g)) (fun U => Stc g U ∧ Rep g w u U.heap)) (.ref (adr g a) :: as.map (trv g)) :=
    ⟨Pc_blind g _ w u, fun U hU hW => ⟨by rw [List.map_cons, hva], hsc.now hS hU hW, by rw [hU]; exact hR⟩⟩
  have hR1 : (rmD dp c2 s2).frames + 1 ≤ R.frames ∧ 8 + (ml + 11) + (rmD dp c2 s2).locals ≤ R.locals := by
    rw [hRm]
    show dp + 1 ≤ D ∧ 8 + (ml + 11) + 64 * dp ≤ 64 * D
    omega
  have hlen : (as.map (trv g)).length = n := by rw [List.length_map]; exact hn
  have hfit : kc + c2 ≤ R.cells ∧ ks + s2 ≤ R.slots := by rw [hRm]; exact ⟨hc, hs⟩
  rw [hstk]
  have fin : ∀ (v : Option Value) (w1 : LT) (u1 : MT) (H1 : Heap) (locs1 : List Loc), Qa v w1 u1 → Rep g w1 u1 H1 → va_S (fr g) s.heap H1 locs1 → W p l e R s m args below meth c H1 locs1 (kc + c2) (ks + s2) (MQ below (QQ g Q) args s R.cells R.slots (fr g)) (F0 m (pc + 3) ls ((v.map (trv g)).toList ++ rest.map (trv g))) := by
    intro v w1 u1 H1 locs1 q1 q2 q3
    have h9 := kk v w1 u1 q1 H1 locs1 ls q2 q3 hl
    cases v <;> exact h9
  rcases hlk with h | ⟨host, h⟩
  · exact Vrun_go (va_runI ⟨hx, hb, hmL, hown, hts⟩ (hM l) ⟨callB_of n hts (good_cons hcd) rfl rfl rfl (hts _ hin) (hts _ h) ⟨hd1, hd2, hd3⟩ hR1, hin1, hts _ hi1⟩ hpre rfl hlen hl.1 rfl (lv_roomT hrm) d hfit) hS fin
  · exact Vrun_go (va_runIN ⟨hx, hb, hmL, hown, hts⟩ (hM l) ⟨va_cnB n hts (good_cons hcd) rfl rfl rfl (hsc.2.2.2.2.1 _ h) (hts _ hin) ⟨hd1, hd2, hd3⟩ hR1, hin1, hts _ hi1⟩ hpre rfl hlen hl.1 rfl (lv_roomT hrm) d hfit) hS fin
/-! calls of methods whose answer is known -/
abbrev Qi (x : Int32) (w : LT) (u : MT) : Option Value → LT → MT → Prop := fun v w1 u1 => v = some (.int x) ∧ w1 = w ∧ u1 = u
abbrev Ql (x : Int64) (w : LT) (u : MT) : Option Value → LT → MT → Prop := fun v w1 u1 => v = some (.long x) ∧ w1 = w ∧ u1 = u
abbrev Qr (x : Nat) (w : LT) (u : MT) : Option Value → LT → MT → Prop := fun v w1 u1 => v = some (.ref x) ∧ w1 = w ∧ u1 = u
abbrev Qv (w : LT) (u : MT) : Option Value → LT → MT → Prop := fun v w1 u1 => v = none ∧ w1 = w ∧ u1 = u
theorem Kint {x : Int32} {w1 : LT} {u1 : MT} {k2 s2 : Nat} {rest : List Value} (k : V z g nL pc lv (.int x :: rest) w1 u1 k2 s2 Q) : ∀ v w2 u2, Qi x w1 u1 v w2 u2 → V z g nL pc lv (v.toList ++ rest) w2 u2 k2 s2 Q := by
  rintro v w2 u2 ⟨rfl, rfl, rfl⟩
  exact k
theorem Klong {x : Int64} {w1 : LT} {u1 : MT} {k2 s2 : Nat} {rest : List Value} (k : V z g nL pc lv (.long x :: rest) w1 u1 k2 s2 Q) : ∀ v w2 u2, Ql x w1 u1 v w2 u2 → V z g nL pc lv (v.toList ++ rest) w2 u2 k2 s2 Q := by
  rintro v w2 u2 ⟨rfl, rfl, rfl⟩
  exact k
theorem Kref {x : Nat} {w1 : LT} {u1 : MT} {k2 s2 : Nat} {rest : List Value} (k : V z g nL pc lv (.ref x :: rest) w1 u1 k2 s2 Q) : ∀ v w2 u2, Qr x w1 u1 v w2 u2 → V z g nL pc lv (v.toList ++ rest) w2 u2 k2 s2 Q := by
  rintro v w2 u2 ⟨rfl, rfl, rfl⟩
  exact k
theorem Kvoid {w1 : LT} {u1 : MT} {k2 s2 : Nat} {rest : List Value} (k : V z g nL pc lv rest w1 u1 k2 s2 Q) : ∀ v w2 u2, Qv w1 u1 v w2 u2 → V z g nL pc lv (v.toList ++ rest) w2 u2 k2 s2 Q := by
  rintro v w2 u2 ⟨rfl, rfl, rfl⟩
  exact k
theorem Vmin {idx : Nat} {x y : Int32} (C : Cx z g cc nL own ret D mc ms) (d : decode cc pc = .ok (.invokestatic idx, 3)) (h1 : Cond.methodLink own idx Lib.Math.min.name ∈ WT) (h2 : Cond.static Lib.Math.min.name ∈ WT) (h3 : Cond.initialized "java/lang/Math" ∈ WT) (h4 : Cond.code Lib.Math.min.name Lib.Math.min.code 2 (some .int) ∈ WT) (hrm : (st.map fun v => v.category).sum ≤ 8) (hD : 1 ≤ D) (hc : kc ≤ mc) (hs : ks ≤ ms) (k : V z g nL (pc + 3) lv (.int (if y < x then y else x) :: st) w u kc ks Q) : V z g nL pc lv (.int y :: .int x :: st) w u kc ks Q := by
  obtain ⟨p, l, e, R, s, m, args, below, meth, c⟩ := z
  intro H locs ls hR hS hl
  obtain ⟨hx, hb, hmL, hown, hts, -, -, hsc, hRm⟩ := C
  refine va_mmin hx hb (by rw [hmL]; exact hl.1.symm) hown (hts _ h1) (hts _ h2) (hts _ h3) (hts _ h4) (by rw [hRm]; exact hD) ?_ (by rw [hRm]; exact hc) (by rw [hRm]; exact hs) d (k H locs ls hR hS hl)
  rw [trm_sum, hRm]
  show _ ≤ 64 * D
  omega
theorem Vmax {idx : Nat} {x y : Int32} (C : Cx z g cc nL own ret D mc ms) (d : decode cc pc = .ok (.invokestatic idx, 3)) (h1 : Cond.methodLink own idx Lib.Math.max.name ∈ WT) (h2 : Cond.static Lib.Math.max.name ∈ WT) (h3 : Cond.initialized "java/lang/Math" ∈ WT) (h4 : Cond.code Lib.Math.max.name Lib.Math.max.code 2 (some .int) ∈ WT) (hrm : (st.map fun v => v.category).sum ≤ 8) (hD : 1 ≤ D) (hc : kc ≤ mc) (hs : ks ≤ ms) (k : V z g nL (pc + 3) lv (.int (if x < y then y else x) :: st) w u kc ks Q) : V z g nL pc lv (.int y :: .int x :: st) w u kc ks Q := by
  obtain ⟨p, l, e, R, s, m, args, below, meth, c⟩ := z
  intro H locs ls hR hS hl
  obtain ⟨hx, hb, hmL, hown, hts, -, -, hsc, hRm⟩ := C
  refine va_mmax hx hb (by rw [hmL]; exact hl.1.symm) hown (hts _ h1) (hts _ h2) (hts _ h3) (hts _ h4) (by rw [hRm]; exact hD) ?_ (by rw [hRm]; exact hc) (by rw [hRm]; exact hs) d (k H locs ls hR hS hl)
  rw [trm_sum, hRm]
  show _ ≤ 64 * D
  omega
theorem VminL {idx : Nat} {x y : Int64} (C : Cx z g cc nL own ret D mc ms) (d : decode cc pc = .ok (.invokestatic idx, 3)) (h1 : Cond.methodLink own idx Lib.MathLoose.min_long.x ∈ WT) (h2 : Cond.static Lib.MathLoose.min_long.x ∈ WT) (h3 : Cond.initialized "java/lang/Math" ∈ WT) (h4 : Cond.code Lib.MathLoose.min_long.x Lib.MathLoose.min_long.code 4 (some .long) ∈ WT) (hrm : (st.map fun v => v.category).sum ≤ 8) (hD : 1 ≤ D) (hc : kc ≤ mc) (hs : ks ≤ ms) (k : V z g nL (pc + 3) lv (.long (if y < x then y else x) :: st) w u kc ks Q) : V z g nL pc lv (.long y :: .long x :: st) w u kc ks Q := by
  obtain ⟨p, l, e, R, s, m, args, below, meth, c⟩ := z
  intro H locs ls hR hS hl
  obtain ⟨hx, hb, hmL, hown, hts, -, -, hsc, hRm⟩ := C
  refine va_mmin_long hx hb (by rw [hmL]; exact hl.1.symm) hown (hts _ h1) (hts _ h2) (hts _ h3) (hts _ h4) (by rw [hRm]; exact hD) ?_ (by rw [hRm]; exact hc) (by rw [hRm]; exact hs) d (k H locs ls hR hS hl)
  rw [trm_sum, hRm]
  show _ ≤ 64 * D
  omega
theorem Vobj {idx a : Nat} (C : Cx z g cc nL own ret D mc ms) (d : decode cc pc = .ok (.invokespecial idx, 3)) (h1 : Cond.methodLink own idx Lib.objectInit ∈ WT) (h2 : Cond.instanceMethod Lib.objectInit ∈ WT) (h3 : Cond.code Lib.objectInit ⟨#[0xb1]⟩ 1 none ∈ WT) (ha : lt_t w a ≠ 99) (hrm : (st.map fun v => v.category).sum ≤ 8) (hD : 1 ≤ D) (k : V z g nL (pc + 3) lv st w u kc ks Q) : V z g nL pc lv (.ref a :: st) w u kc ks Q := by
  obtain ⟨p, l, e, R, s, m, args, below, meth, c⟩ := z
  intro H locs ls hR hS hl
  obtain ⟨hx, hb, hmL, hown, hts, -, -, hsc, hRm⟩ := C
  rw [List.map_cons, hR.val ha]
  refine W.objInit hx hb hown (hts _ h1) (hts _ h2) (hts _ h3) rfl (by rw [hmL]; exact hl.1) rfl d (by rw [hRm]; exact hD) ?_ (k H locs ls hR hS hl)
  have h5 := lv_roomT (g := g) (pc := pc) (m := m) (ls := ls) (st0 := .ref (adr g a) :: st.map (trv g)) hrm
  rw [hRm]
  show _ ≤ 64 * D
  omega
end VCALL2
/-! reading a method's decoded rows -/
theorem dAt {b : ByteArray} {L : List (Nat × Instr × Nat)} (h : ∀ q ∈ L, decode b q.1 = .ok q.2) (i : Nat) {pc : Nat} {r : Instr × Nat} (hi : L[i]? = some (pc, r)) : decode b pc = .ok r := h (pc, r) (List.mem_of_getElem? hi)
/-! checks of the functions -/
theorem ok_if {α : Type} {c : Prop} [Decidable c] {x : Option α} {r : α} (h : (if c then x else none) = some r) : c ∧ x = some r := by
  by_cases hc : c
  · rw [if_pos hc] at h; exact ⟨hc, h⟩
  · rw [if_neg hc] at h; cases h
theorem ok_t {α : Type} {c : Prop} [Decidable c] {x y : Option α} {r : α} (hc : c) (h : (if c then x else y) = some r) : x = some r := by rw [if_pos hc] at h; exact h
theorem ok_f {α : Type} {c : Prop} [Decidable c] {x y : Option α} {r : α} (hc : ¬ c) (h : (if c then x else y) = some r) : y = some r := by rw [if_neg hc] at h; exact h
theorem ok_b {α β : Type} {x : Option α} {f : α → Option β} {r : β} (h : x.bind f = some r) : ∃ a, x = some a ∧ f a = some r := by
  cases x with
  | none => cases h
  | some a => exact ⟨a, rfl, h⟩
end
section
/-! ===== MORE ROWS, THE LAYOUT ===== -/
abbrev ixo (i : Int32) (n : Nat) : Prop := 0 ≤ i.toInt ∧ i.toInt < (n : Int)
def ck {α : Type} (c : Prop) [Decidable c] (x : Option α) : Option α := if c then x else none
theorem ok_ck {α : Type} {c : Prop} [Decidable c] {x : Option α} {r : α} (h : ck c x = some r) : c ∧ x = some r := ok_if h
theorem ck_t {α : Type} {c : Prop} [Decidable c] {x : Option α} (hc : c) : ck c x = x := if_pos hc
theorem nz01 {x : Int32} (h : x = 0 ∨ x = 1) : narrow .boolean (.int x) = .int x := by rcases h with rfl | rfl <;> rfl
section VMORE
variable {z : ZT} {g : GT} {cc : ByteArray} {nL : Nat} {own : String} {ret : Option FieldType} {D mc ms : Nat} {pc : Nat} {lv lv' : List (Nat × Value)} {st : List Value} {w w' : LT} {u u' : MT} {kc ks : Nat} {Q : Option Value → LT → MT → Prop}
theorem Vsub (is : List Nat) (h : lv_pick lv is = lv') (k : V z g nL pc lv' st w u kc ks Q) : V z g nL pc lv st w u kc ks Q := by
  obtain ⟨p, l, e, R, s, m, args, below, meth, c⟩ := z
  intro H locs ls hR hS hl
  refine k H locs ls hR hS (lv_sub hl is ?_)
  rw [← h]
  unfold lv_pick
  rw [List.map_filterMap]
  congr 1
  funext i
  rw [List.getElem?_map]
theorem Vstk {st' : List Value} (h : st = st') (k : V z g nL pc lv st' w u kc ks Q) : V z g nL pc lv st w u kc ks Q := h ▸ k
theorem VialdC {a n : Nat} {i : Int32} (j : Nat) (C : Cx z g cc nL own ret D mc ms) (d : decode cc pc = .ok (.iaload, 1)) (ht : lt_t w a = 20) (hn : lt_l w a = n) (hin : ixo i n) (hj : i.toNatClampNeg = j) (kk : V z g nL (pc + 1) lv (.int (gI u a j) :: st) w u kc ks Q) : V z g nL pc lv (.int i :: .ref a :: st) w u kc ks Q := by
  subst hj
  exact Viald C d ht hn (vp_in_iff.mpr hin) kk
theorem VlaldC {a n : Nat} {i : Int32} (j : Nat) (C : Cx z g cc nL own ret D mc ms) (d : decode cc pc = .ok (.laload, 1)) (ht : lt_t w a = 21) (hn : lt_l w a = n) (hin : ixo i n) (hj : i.toNatClampNeg = j) (kk : V z g nL (pc + 1) lv (.long (gL u a j) :: st) w u kc ks Q) : V z g nL pc lv (.int i :: .ref a :: st) w u kc ks Q := by
  subst hj
  exact Vlald C d ht hn (vp_in_iff.mpr hin) kk
theorem VcaldC {a n : Nat} {i : Int32} (j : Nat) (C : Cx z g cc nL own ret D mc ms) (d : decode cc pc = .ok (.caload, 1)) (ht : lt_t w a = 23) (hn : lt_l w a = n) (hin : ixo i n) (hj : i.toNatClampNeg = j) (kk : V z g nL (pc + 1) lv (.int (gI u a j) :: st) w u kc ks Q) : V z g nL pc lv (.int i :: .ref a :: st) w u kc ks Q := by
  subst hj
  exact Vcald C d ht hn (vp_in_iff.mpr hin) kk
theorem VzaldC {a n : Nat} {i : Int32} (j : Nat) (C : Cx z g cc nL own ret D mc ms) (d : decode cc pc = .ok (.baload, 1)) (ht : lt_t w a = 22) (hn : lt_l w a = n) (hin : ixo i n) (hj : i.toNatClampNeg = j) (kk : V z g nL (pc + 1) lv (.int (gI u a j) :: st) w u kc ks Q) : V z g nL pc lv (.int i :: .ref a :: st) w u kc ks Q := by
  subst hj
  exact Vzald C d ht hn (vp_in_iff.mpr hin) kk
theorem ViastC {a n : Nat} {i : Int32} {x : Int32} (j : Nat) (C : Cx z g cc nL own ret D mc ms) (d : decode cc pc = .ok (.iastore, 1)) (ht : lt_t w a = 20) (hn : lt_l w a = n) (hin : ixo i n) (hj : i.toNatClampNeg = j) (kk : V z g nL (pc + 1) lv st w (sI u a j x) kc ks Q) : V z g nL pc lv (.int x :: .int i :: .ref a :: st) w u kc ks Q := by
  subst hj
  exact Viast C d ht hn (vp_in_iff.mpr hin) kk
theorem VlastC {a n : Nat} {i : Int32} {x : Int64} (j : Nat) (C : Cx z g cc nL own ret D mc ms) (d : decode cc pc = .ok (.lastore, 1)) (ht : lt_t w a = 21) (hn : lt_l w a = n) (hin : ixo i n) (hj : i.toNatClampNeg = j) (kk : V z g nL (pc + 1) lv st w (sL u a j x) kc ks Q) : V z g nL pc lv (.long x :: .int i :: .ref a :: st) w u kc ks Q := by
  subst hj
  exact Vlast C d ht hn (vp_in_iff.mpr hin) kk
theorem VzastC {a n : Nat} {i : Int32} {x : Int32} (j : Nat) (C : Cx z g cc nL own ret D mc ms) (d : decode cc pc = .ok (.bastore, 1)) (ht : lt_t w a = 22) (hn : lt_l w a = n) (hin : ixo i n) (hj : i.toNatClampNeg = j) (kk : V z g nL (pc + 1) lv st w (sI u a j (vp_nar .boolean x)) kc ks Q) : V z g nL pc lv (.int x :: .int i :: .ref a :: st) w u kc ks Q := by
  subst hj
  exact Vzast C d ht hn (vp_in_iff.mpr hin) kk
theorem VcastC {a n : Nat} {i : Int32} {x : Int32} (j : Nat) (C : Cx z g cc nL own ret D mc ms) (d : decode cc pc = .ok (.castore, 1)) (ht : lt_t w a = 23) (hn : lt_l w a = n) (hin : ixo i n) (hj : i.toNatClampNeg = j) (kk : V z g nL (pc + 1) lv st w (sI u a j (vp_nar .char x)) kc ks Q) : V z g nL pc lv (.int x :: .int i :: .ref a :: st) w u kc ks Q := by
  subst hj
  exact Vcast C d ht hn (vp_in_iff.mpr hin) kk
end VMORE
/-- the cells that are made first: number, kind, length -/
def tabT : List (Nat × Nat × Nat) := [(100, 11, 0), (101, 2, 0), (102, 20, 12), (103, 20, 12), (104, 4, 0), (105, 20, 400), (106, 20, 400), (107, 20, 400), (108, 20, 400), (109, 20, 400), (110, 6, 0), (111, 23, 1200), (112, 3, 0), (113, 24, 1201), (114, 20, 1201), (115, 20, 1201), (116, 10, 0), (117, 20, 12), (118, 20, 12), (119, 20, 12), (120, 20, 12), (121, 20, 12), (122, 20, 12), (123, 22, 12), (124, 20, 12), (125, 20, 14), (126, 20, 12), (127, 20, 14), (128, 8, 0), (129, 26, 6), (130, 1, 0), (131, 20, 2880), (132, 20, 2880), (133, 20, 2880), (134, 20, 2880), (135, 20, 3360), (136, 0, 0), (137, 20, 140), (138, 8, 0), (139, 26, 6), (167, 12, 0), (168, 20, 1200), (169, 20, 1202), (170, 20, 1202), (171, 21, 1202), (172, 21, 24), (173, 20, 8), (174, 20, 8), (175, 20, 192), (176, 20, 192), (177, 20, 192), (178, 20, 192), (179, 20, 192), (180, 20, 192), (181, 20, 192), (182, 20, 10400), (183, 20, 10400), (184, 20, 8), (185, 20, 6), (186, 20, 6), (187, 20, 8), (188, 20, 8), (189, 20, 12), (190, 20, 12), (191, 20, 400), (192, 20, 400), (193, 20, 400), (194, 20, 400), (195, 20, 400), (196, 20, 4), (197, 20, 12), (198, 20, 12), (199, 20, 12), (200, 20, 12), (201, 20, 12), (202, 20, 12), (203, 20, 12), (204, 20, 12), (205, 20, 12), (206, 20, 12), (207, 20, 12), (208, 20, 12), (209, 20, 312), (210, 20, 14), (211, 20, 700), (212, 22, 12), (213, 20, 12), (214, 20, 12), (215, 20, 140)]
/-- their references that stay -/
def tabP : List (Nat × Nat × Nat) := [(100, 0, 101), (100, 1, 104), (100, 2, 110), (100, 3, 112), (100, 4, 116), (100, 5, 128), (100, 6, 130), (100, 7, 136), (100, 8, 138), (101, 0, 102), (101, 1, 103), (104, 0, 105), (104, 1, 106), (104, 2, 107), (104, 3, 108), (104, 4, 109), (110, 0, 111), (112, 0, 113), (112, 1, 114), (112, 2, 115), (116, 0, 101), (116, 6, 117), (116, 7, 118), (116, 8, 119), (116, 9, 120), (116, 10, 121), (116, 11, 122), (116, 13, 123), (116, 14, 124), (116, 15, 125), (116, 18, 126), (116, 19, 127), (128, 0, 129), (130, 0, 101), (130, 1, 104), (130, 2, 128), (130, 3, 116), (130, 6, 131), (130, 7, 132), (130, 8, 133), (130, 9, 134), (130, 10, 135), (136, 0, 137), (138, 0, 139), (167, 1, 168), (167, 4, 169), (167, 5, 170), (167, 6, 171), (167, 9, 172), (167, 10, 173), (167, 11, 174), (167, 12, 175), (167, 13, 176), (167, 14, 177), (167, 15, 178), (167, 16, 179), (167, 17, 180), (167, 18, 181), (167, 19, 182), (167, 20, 183), (167, 21, 184), (167, 23, 185), (167, 24, 186), (167, 27, 187), (167, 28, 188), (167, 32, 189), (167, 33, 190), (167, 35, 191), (167, 36, 192), (167, 37, 193), (167, 38, 194), (167, 39, 195), (167, 47, 196), (167, 48, 197), (167, 49, 198), (167, 50, 199), (167, 51, 200), (167, 52, 201), (167, 53, 202), (167, 54, 203), (167, 55, 204), (167, 56, 205), (167, 57, 206), (167, 58, 207), (167, 59, 208), (167, 67, 209), (167, 68, 210), (167, 69, 211), (167, 70, 212), (167, 71, 213), (167, 72, 214), (167, 74, 215)]
/-- a text and its cells -/
def isTx (w : LT) (t : Nat) : Prop := lt_t w t = 7 ∧ lt_p w t 0 = t + 1 ∧ lt_t w (t + 1) = 25 ∧ lt_l w (t + 1) = 24 ∧ lt_p w t 3 = t + 2 ∧ lt_t w (t + 2) = 20 ∧ lt_l w (t + 2) = 1200 ∧ ∀ i, i < 24 → lt_p w (t + 1) i = t + 3 + i ∧ lt_t w (t + 3 + i) = 5
/-- some texts -/
def isTs (w : LT) (a : Nat) : Prop := lt_t w a = 8 ∧ lt_p w a 0 = a + 1 ∧ lt_t w (a + 1) = 26 ∧ lt_l w (a + 1) = 6
/-- a book and its cells -/
def isBk (w : LT) (b ts : Nat) : Prop := lt_t w b = 1 ∧ lt_p w b 0 = 101 ∧ lt_p w b 1 = 104 ∧ lt_p w b 2 = ts ∧ lt_p w b 3 = 116 ∧ (lt_p w b 6 = b + 1 ∧ lt_t w (b + 1) = 20 ∧ lt_l w (b + 1) = 2880) ∧ (lt_p w b 7 = b + 2 ∧ lt_t w (b + 2) = 20 ∧ lt_l w (b + 2) = 2880) ∧ (lt_p w b 8 = b + 3 ∧ lt_t w (b + 3) = 20 ∧ lt_l w (b + 3) = 2880) ∧ (lt_p w b 9 = b + 4 ∧ lt_t w (b + 4) = 20 ∧ lt_l w (b + 4) = 2880) ∧ (lt_p w b 10 = b + 5 ∧ lt_t w (b + 5) = 20 ∧ lt_l w (b + 5) = 3360) ∧ isTs w ts
/-- the layout of the whole run -/
def Lay (w : LT) : Prop := (∀ q ∈ tabT, lt_t w q.1 = q.2.1 ∧ lt_l w q.1 = q.2.2) ∧ (∀ q ∈ tabP, lt_p w q.1 q.2.1 = q.2.2) ∧ ∀ t, lt_t w t = 7 → isTx w t
theorem kt_100 {w : LT} (h : Lay w) : lt_t w 100 = 11 := (h.1 (100, 11, 0) (by decide)).1
theorem kt_101 {w : LT} (h : Lay w) : lt_t w 101 = 2 := (h.1 (101, 2, 0) (by decide)).1
theorem kt_102 {w : LT} (h : Lay w) : lt_t w 102 = 20 := (h.1 (102, 20, 12) (by decide)).1
theorem kl_102 {w : LT} (h : Lay w) : lt_l w 102 = 12 := (h.1 (102, 20, 12) (by decide)).2
theorem kt_103 {w : LT} (h : Lay w) : lt_t w 103 = 20 := (h.1 (103, 20, 12) (by decide)).1
theorem kl_103 {w : LT} (h : Lay w) : lt_l w 103 = 12 := (h.1 (103, 20, 12) (by decide)).2
theorem kt_104 {w : LT} (h : Lay w) : lt_t w 104 = 4 := (h.1 (104, 4, 0) (by decide)).1
theorem kt_105 {w : LT} (h : Lay w) : lt_t w 105 = 20 := (h.1 (105, 20, 400) (by decide)).1
theorem kl_105 {w : LT} (h : Lay w) : lt_l w 105 = 400 := (h.1 (105, 20, 400) (by decide)).2
theorem kt_106 {w : LT} (h : Lay w) : lt_t w 106 = 20 := (h.1 (106, 20, 400) (by decide)).1
theorem kl_106 {w : LT} (h : Lay w) : lt_l w 106 = 400 := (h.1 (106, 20, 400) (by decide)).2
theorem kt_107 {w : LT} (h : Lay w) : lt_t w 107 = 20 := (h.1 (107, 20, 400) (by decide)).1
theorem kl_107 {w : LT} (h : Lay w) : lt_l w 107 = 400 := (h.1 (107, 20, 400) (by decide)).2
theorem kt_108 {w : LT} (h : Lay w) : lt_t w 108 = 20 := (h.1 (108, 20, 400) (by decide)).1
theorem kl_108 {w : LT} (h : Lay w) : lt_l w 108 = 400 := (h.1 (108, 20, 400) (by decide)).2
theorem kt_109 {w : LT} (h : Lay w) : lt_t w 109 = 20 := (h.1 (109, 20, 400) (by decide)).1
theorem kl_109 {w : LT} (h : Lay w) : lt_l w 109 = 400 := (h.1 (109, 20, 400) (by decide)).2
theorem kt_110 {w : LT} (h : Lay w) : lt_t w 110 = 6 := (h.1 (110, 6, 0) (by decide)).1
theorem kt_111 {w : LT} (h : Lay w) : lt_t w 111 = 23 := (h.1 (111, 23, 1200) (by decide)).1
theorem kl_111 {w : LT} (h : Lay w) : lt_l w 111 = 1200 := (h.1 (111, 23, 1200) (by decide)).2
theorem kt_112 {w : LT} (h : Lay w) : lt_t w 112 = 3 := (h.1 (112, 3, 0) (by decide)).1
theorem kt_113 {w : LT} (h : Lay w) : lt_t w 113 = 24 := (h.1 (113, 24, 1201) (by decide)).1
theorem kl_113 {w : LT} (h : Lay w) : lt_l w 113 = 1201 := (h.1 (113, 24, 1201) (by decide)).2
theorem kt_114 {w : LT} (h : Lay w) : lt_t w 114 = 20 := (h.1 (114, 20, 1201) (by decide)).1
theorem kl_114 {w : LT} (h : Lay w) : lt_l w 114 = 1201 := (h.1 (114, 20, 1201) (by decide)).2
theorem kt_115 {w : LT} (h : Lay w) : lt_t w 115 = 20 := (h.1 (115, 20, 1201) (by decide)).1
theorem kl_115 {w : LT} (h : Lay w) : lt_l w 115 = 1201 := (h.1 (115, 20, 1201) (by decide)).2
theorem kt_116 {w : LT} (h : Lay w) : lt_t w 116 = 10 := (h.1 (116, 10, 0) (by decide)).1
theorem kt_117 {w : LT} (h : Lay w) : lt_t w 117 = 20 := (h.1 (117, 20, 12) (by decide)).1
theorem kl_117 {w : LT} (h : Lay w) : lt_l w 117 = 12 := (h.1 (117, 20, 12) (by decide)).2
theorem kt_118 {w : LT} (h : Lay w) : lt_t w 118 = 20 := (h.1 (118, 20, 12) (by decide)).1
theorem kl_118 {w : LT} (h : Lay w) : lt_l w 118 = 12 := (h.1 (118, 20, 12) (by decide)).2
theorem kt_119 {w : LT} (h : Lay w) : lt_t w 119 = 20 := (h.1 (119, 20, 12) (by decide)).1
theorem kl_119 {w : LT} (h : Lay w) : lt_l w 119 = 12 := (h.1 (119, 20, 12) (by decide)).2
theorem kt_120 {w : LT} (h : Lay w) : lt_t w 120 = 20 := (h.1 (120, 20, 12) (by decide)).1
theorem kl_120 {w : LT} (h : Lay w) : lt_l w 120 = 12 := (h.1 (120, 20, 12) (by decide)).2
theorem kt_121 {w : LT} (h : Lay w) : lt_t w 121 = 20 := (h.1 (121, 20, 12) (by decide)).1
theorem kl_121 {w : LT} (h : Lay w) : lt_l w 121 = 12 := (h.1 (121, 20, 12) (by decide)).2
theorem kt_122 {w : LT} (h : Lay w) : lt_t w 122 = 20 := (h.1 (122, 20, 12) (by decide)).1
theorem kl_122 {w : LT} (h : Lay w) : lt_l w 122 = 12 := (h.1 (122, 20, 12) (by decide)).2
theorem kt_123 {w : LT} (h : Lay w) : lt_t w 123 = 22 := (h.1 (123, 22, 12) (by decide)).1
theorem kl_123 {w : LT} (h : Lay w) : lt_l w 123 = 12 := (h.1 (123, 22, 12) (by decide)).2
theorem kt_124 {w : LT} (h : Lay w) : lt_t w 124 = 20 := (h.1 (124, 20, 12) (by decide)).1
theorem kl_124 {w : LT} (h : Lay w) : lt_l w 124 = 12 := (h.1 (124, 20, 12) (by decide)).2
theorem kt_125 {w : LT} (h : Lay w) : lt_t w 125 = 20 := (h.1 (125, 20, 14) (by decide)).1
theorem kl_125 {w : LT} (h : Lay w) : lt_l w 125 = 14 := (h.1 (125, 20, 14) (by decide)).2
theorem kt_126 {w : LT} (h : Lay w) : lt_t w 126 = 20 := (h.1 (126, 20, 12) (by decide)).1
theorem kl_126 {w : LT} (h : Lay w) : lt_l w 126 = 12 := (h.1 (126, 20, 12) (by decide)).2
theorem kt_127 {w : LT} (h : Lay w) : lt_t w 127 = 20 := (h.1 (127, 20, 14) (by decide)).1
theorem kl_127 {w : LT} (h : Lay w) : lt_l w 127 = 14 := (h.1 (127, 20, 14) (by decide)).2
theorem kt_128 {w : LT} (h : Lay w) : lt_t w 128 = 8 := (h.1 (128, 8, 0) (by decide)).1
theorem kt_129 {w : LT} (h : Lay w) : lt_t w 129 = 26 := (h.1 (129, 26, 6) (by decide)).1
theorem kl_129 {w : LT} (h : Lay w) : lt_l w 129 = 6 := (h.1 (129, 26, 6) (by decide)).2
theorem kt_130 {w : LT} (h : Lay w) : lt_t w 130 = 1 := (h.1 (130, 1, 0) (by decide)).1
theorem kt_131 {w : LT} (h : Lay w) : lt_t w 131 = 20 := (h.1 (131, 20, 2880) (by decide)).1
theorem kl_131 {w : LT} (h : Lay w) : lt_l w 131 = 2880 := (h.1 (131, 20, 2880) (by decide)).2
theorem kt_132 {w : LT} (h : Lay w) : lt_t w 132 = 20 := (h.1 (132, 20, 2880) (by decide)).1
theorem kl_132 {w : LT} (h : Lay w) : lt_l w 132 = 2880 := (h.1 (132, 20, 2880) (by decide)).2
theorem kt_133 {w : LT} (h : Lay w) : lt_t w 133 = 20 := (h.1 (133, 20, 2880) (by decide)).1
theorem kl_133 {w : LT} (h : Lay w) : lt_l w 133 = 2880 := (h.1 (133, 20, 2880) (by decide)).2
theorem kt_134 {w : LT} (h : Lay w) : lt_t w 134 = 20 := (h.1 (134, 20, 2880) (by decide)).1
theorem kl_134 {w : LT} (h : Lay w) : lt_l w 134 = 2880 := (h.1 (134, 20, 2880) (by decide)).2
theorem kt_135 {w : LT} (h : Lay w) : lt_t w 135 = 20 := (h.1 (135, 20, 3360) (by decide)).1
theorem kl_135 {w : LT} (h : Lay w) : lt_l w 135 = 3360 := (h.1 (135, 20, 3360) (by decide)).2
theorem kt_136 {w : LT} (h : Lay w) : lt_t w 136 = 0 := (h.1 (136, 0, 0) (by decide)).1
theorem kt_137 {w : LT} (h : Lay w) : lt_t w 137 = 20 := (h.1 (137, 20, 140) (by decide)).1
theorem kl_137 {w : LT} (h : Lay w) : lt_l w 137 = 140 := (h.1 (137, 20, 140) (by decide)).2
theorem kt_138 {w : LT} (h : Lay w) : lt_t w 138 = 8 := (h.1 (138, 8, 0) (by decide)).1
theorem kt_139 {w : LT} (h : Lay w) : lt_t w 139 = 26 := (h.1 (139, 26, 6) (by decide)).1
theorem kl_139 {w : LT} (h : Lay w) : lt_l w 139 = 6 := (h.1 (139, 26, 6) (by decide)).2
theorem kt_167 {w : LT} (h : Lay w) : lt_t w 167 = 12 := (h.1 (167, 12, 0) (by decide)).1
theorem kt_168 {w : LT} (h : Lay w) : lt_t w 168 = 20 := (h.1 (168, 20, 1200) (by decide)).1
theorem kl_168 {w : LT} (h : Lay w) : lt_l w 168 = 1200 := (h.1 (168, 20, 1200) (by decide)).2
theorem kt_169 {w : LT} (h : Lay w) : lt_t w 169 = 20 := (h.1 (169, 20, 1202) (by decide)).1
theorem kl_169 {w : LT} (h : Lay w) : lt_l w 169 = 1202 := (h.1 (169, 20, 1202) (by decide)).2
theorem kt_170 {w : LT} (h : Lay w) : lt_t w 170 = 20 := (h.1 (170, 20, 1202) (by decide)).1
theorem kl_170 {w : LT} (h : Lay w) : lt_l w 170 = 1202 := (h.1 (170, 20, 1202) (by decide)).2
theorem kt_171 {w : LT} (h : Lay w) : lt_t w 171 = 21 := (h.1 (171, 21, 1202) (by decide)).1
theorem kl_171 {w : LT} (h : Lay w) : lt_l w 171 = 1202 := (h.1 (171, 21, 1202) (by decide)).2
theorem kt_172 {w : LT} (h : Lay w) : lt_t w 172 = 21 := (h.1 (172, 21, 24) (by decide)).1
theorem kl_172 {w : LT} (h : Lay w) : lt_l w 172 = 24 := (h.1 (172, 21, 24) (by decide)).2
theorem kt_173 {w : LT} (h : Lay w) : lt_t w 173 = 20 := (h.1 (173, 20, 8) (by decide)).1
theorem kl_173 {w : LT} (h : Lay w) : lt_l w 173 = 8 := (h.1 (173, 20, 8) (by decide)).2
theorem kt_174 {w : LT} (h : Lay w) : lt_t w 174 = 20 := (h.1 (174, 20, 8) (by decide)).1
theorem kl_174 {w : LT} (h : Lay w) : lt_l w 174 = 8 := (h.1 (174, 20, 8) (by decide)).2
theorem kt_175 {w : LT} (h : Lay w) : lt_t w 175 = 20 := (h.1 (175, 20, 192) (by decide)).1
theorem kl_175 {w : LT} (h : Lay w) : lt_l w 175 = 192 := (h.1 (175, 20, 192) (by decide)).2
theorem kt_176 {w : LT} (h : Lay w) : lt_t w 176 = 20 := (h.1 (176, 20, 192) (by decide)).1
theorem kl_176 {w : LT} (h : Lay w) : lt_l w 176 = 192 := (h.1 (176, 20, 192) (by decide)).2
theorem kt_177 {w : LT} (h : Lay w) : lt_t w 177 = 20 := (h.1 (177, 20, 192) (by decide)).1
theorem kl_177 {w : LT} (h : Lay w) : lt_l w 177 = 192 := (h.1 (177, 20, 192) (by decide)).2
theorem kt_178 {w : LT} (h : Lay w) : lt_t w 178 = 20 := (h.1 (178, 20, 192) (by decide)).1
theorem kl_178 {w : LT} (h : Lay w) : lt_l w 178 = 192 := (h.1 (178, 20, 192) (by decide)).2
theorem kt_179 {w : LT} (h : Lay w) : lt_t w 179 = 20 := (h.1 (179, 20, 192) (by decide)).1
theorem kl_179 {w : LT} (h : Lay w) : lt_l w 179 = 192 := (h.1 (179, 20, 192) (by decide)).2
theorem kt_180 {w : LT} (h : Lay w) : lt_t w 180 = 20 := (h.1 (180, 20, 192) (by decide)).1
theorem kl_180 {w : LT} (h : Lay w) : lt_l w 180 = 192 := (h.1 (180, 20, 192) (by decide)).2
theorem kt_181 {w : LT} (h : Lay w) : lt_t w 181 = 20 := (h.1 (181, 20, 192) (by decide)).1
theorem kl_181 {w : LT} (h : Lay w) : lt_l w 181 = 192 := (h.1 (181, 20, 192) (by decide)).2
theorem kt_182 {w : LT} (h : Lay w) : lt_t w 182 = 20 := (h.1 (182, 20, 10400) (by decide)).1
theorem kl_182 {w : LT} (h : Lay w) : lt_l w 182 = 10400 := (h.1 (182, 20, 10400) (by decide)).2
theorem kt_183 {w : LT} (h : Lay w) : lt_t w 183 = 20 := (h.1 (183, 20, 10400) (by decide)).1
theorem kl_183 {w : LT} (h : Lay w) : lt_l w 183 = 10400 := (h.1 (183, 20, 10400) (by decide)).2
theorem kt_184 {w : LT} (h : Lay w) : lt_t w 184 = 20 := (h.1 (184, 20, 8) (by decide)).1
theorem kl_184 {w : LT} (h : Lay w) : lt_l w 184 = 8 := (h.1 (184, 20, 8) (by decide)).2
theorem kt_185 {w : LT} (h : Lay w) : lt_t w 185 = 20 := (h.1 (185, 20, 6) (by decide)).1
theorem kl_185 {w : LT} (h : Lay w) : lt_l w 185 = 6 := (h.1 (185, 20, 6) (by decide)).2
theorem kt_186 {w : LT} (h : Lay w) : lt_t w 186 = 20 := (h.1 (186, 20, 6) (by decide)).1
theorem kl_186 {w : LT} (h : Lay w) : lt_l w 186 = 6 := (h.1 (186, 20, 6) (by decide)).2
theorem kt_187 {w : LT} (h : Lay w) : lt_t w 187 = 20 := (h.1 (187, 20, 8) (by decide)).1
theorem kl_187 {w : LT} (h : Lay w) : lt_l w 187 = 8 := (h.1 (187, 20, 8) (by decide)).2
theorem kt_188 {w : LT} (h : Lay w) : lt_t w 188 = 20 := (h.1 (188, 20, 8) (by decide)).1
theorem kl_188 {w : LT} (h : Lay w) : lt_l w 188 = 8 := (h.1 (188, 20, 8) (by decide)).2
theorem kt_189 {w : LT} (h : Lay w) : lt_t w 189 = 20 := (h.1 (189, 20, 12) (by decide)).1
theorem kl_189 {w : LT} (h : Lay w) : lt_l w 189 = 12 := (h.1 (189, 20, 12) (by decide)).2
theorem kt_190 {w : LT} (h : Lay w) : lt_t w 190 = 20 := (h.1 (190, 20, 12) (by decide)).1
theorem kl_190 {w : LT} (h : Lay w) : lt_l w 190 = 12 := (h.1 (190, 20, 12) (by decide)).2
theorem kt_191 {w : LT} (h : Lay w) : lt_t w 191 = 20 := (h.1 (191, 20, 400) (by decide)).1
theorem kl_191 {w : LT} (h : Lay w) : lt_l w 191 = 400 := (h.1 (191, 20, 400) (by decide)).2
theorem kt_192 {w : LT} (h : Lay w) : lt_t w 192 = 20 := (h.1 (192, 20, 400) (by decide)).1
theorem kl_192 {w : LT} (h : Lay w) : lt_l w 192 = 400 := (h.1 (192, 20, 400) (by decide)).2
theorem kt_193 {w : LT} (h : Lay w) : lt_t w 193 = 20 := (h.1 (193, 20, 400) (by decide)).1
theorem kl_193 {w : LT} (h : Lay w) : lt_l w 193 = 400 := (h.1 (193, 20, 400) (by decide)).2
theorem kt_194 {w : LT} (h : Lay w) : lt_t w 194 = 20 := (h.1 (194, 20, 400) (by decide)).1
theorem kl_194 {w : LT} (h : Lay w) : lt_l w 194 = 400 := (h.1 (194, 20, 400) (by decide)).2
theorem kt_195 {w : LT} (h : Lay w) : lt_t w 195 = 20 := (h.1 (195, 20, 400) (by decide)).1
theorem kl_195 {w : LT} (h : Lay w) : lt_l w 195 = 400 := (h.1 (195, 20, 400) (by decide)).2
theorem kt_196 {w : LT} (h : Lay w) : lt_t w 196 = 20 := (h.1 (196, 20, 4) (by decide)).1
theorem kl_196 {w : LT} (h : Lay w) : lt_l w 196 = 4 := (h.1 (196, 20, 4) (by decide)).2
theorem kt_197 {w : LT} (h : Lay w) : lt_t w 197 = 20 := (h.1 (197, 20, 12) (by decide)).1
theorem kl_197 {w : LT} (h : Lay w) : lt_l w 197 = 12 := (h.1 (197, 20, 12) (by decide)).2
theorem kt_198 {w : LT} (h : Lay w) : lt_t w 198 = 20 := (h.1 (198, 20, 12) (by decide)).1
theorem kl_198 {w : LT} (h : Lay w) : lt_l w 198 = 12 := (h.1 (198, 20, 12) (by decide)).2
theorem kt_199 {w : LT} (h : Lay w) : lt_t w 199 = 20 := (h.1 (199, 20, 12) (by decide)).1
theorem kl_199 {w : LT} (h : Lay w) : lt_l w 199 = 12 := (h.1 (199, 20, 12) (by decide)).2
theorem kt_200 {w : LT} (h : Lay w) : lt_t w 200 = 20 := (h.1 (200, 20, 12) (by decide)).1
theorem kl_200 {w : LT} (h : Lay w) : lt_l w 200 = 12 := (h.1 (200, 20, 12) (by decide)).2
theorem kt_201 {w : LT} (h : Lay w) : lt_t w 201 = 20 := (h.1 (201, 20, 12) (by decide)).1
theorem kl_201 {w : LT} (h : Lay w) : lt_l w 201 = 12 := (h.1 (201, 20, 12) (by decide)).2
theorem kt_202 {w : LT} (h : Lay w) : lt_t w 202 = 20 := (h.1 (202, 20, 12) (by decide)).1
theorem kl_202 {w : LT} (h : Lay w) : lt_l w 202 = 12 := (h.1 (202, 20, 12) (by decide)).2
theorem kt_203 {w : LT} (h : Lay w) : lt_t w 203 = 20 := (h.1 (203, 20, 12) (by decide)).1
theorem kl_203 {w : LT} (h : Lay w) : lt_l w 203 = 12 := (h.1 (203, 20, 12) (by decide)).2
theorem kt_204 {w : LT} (h : Lay w) : lt_t w 204 = 20 := (h.1 (204, 20, 12) (by decide)).1
theorem kl_204 {w : LT} (h : Lay w) : lt_l w 204 = 12 := (h.1 (204, 20, 12) (by decide)).2
theorem kt_205 {w : LT} (h : Lay w) : lt_t w 205 = 20 := (h.1 (205, 20, 12) (by decide)).1
theorem kl_205 {w : LT} (h : Lay w) : lt_l w 205 = 12 := (h.1 (205, 20, 12) (by decide)).2
theorem kt_206 {w : LT} (h : Lay w) : lt_t w 206 = 20 := (h.1 (206, 20, 12) (by decide)).1
theorem kl_206 {w : LT} (h : Lay w) : lt_l w 206 = 12 := (h.1 (206, 20, 12) (by decide)).2
theorem kt_207 {w : LT} (h : Lay w) : lt_t w 207 = 20 := (h.1 (207, 20, 12) (by decide)).1
theorem kl_207 {w : LT} (h : Lay w) : lt_l w 207 = 12 := (h.1 (207, 20, 12) (by decide)).2
theorem kt_208 {w : LT} (h : Lay w) : lt_t w 208 = 20 := (h.1 (208, 20, 12) (by decide)).1
theorem kl_208 {w : LT} (h : Lay w) : lt_l w 208 = 12 := (h.1 (208, 20, 12) (by decide)).2
theorem kt_209 {w : LT} (h : Lay w) : lt_t w 209 = 20 := (h.1 (209, 20, 312) (by decide)).1
theorem kl_209 {w : LT} (h : Lay w) : lt_l w 209 = 312 := (h.1 (209, 20, 312) (by decide)).2
theorem kt_210 {w : LT} (h : Lay w) : lt_t w 210 = 20 := (h.1 (210, 20, 14) (by decide)).1
theorem kl_210 {w : LT} (h : Lay w) : lt_l w 210 = 14 := (h.1 (210, 20, 14) (by decide)).2
theorem kt_211 {w : LT} (h : Lay w) : lt_t w 211 = 20 := (h.1 (211, 20, 700) (by decide)).1
theorem kl_211 {w : LT} (h : Lay w) : lt_l w 211 = 700 := (h.1 (211, 20, 700) (by decide)).2
theorem kt_212 {w : LT} (h : Lay w) : lt_t w 212 = 22 := (h.1 (212, 22, 12) (by decide)).1
theorem kl_212 {w : LT} (h : Lay w) : lt_l w 212 = 12 := (h.1 (212, 22, 12) (by decide)).2
theorem kt_213 {w : LT} (h : Lay w) : lt_t w 213 = 20 := (h.1 (213, 20, 12) (by decide)).1
theorem kl_213 {w : LT} (h : Lay w) : lt_l w 213 = 12 := (h.1 (213, 20, 12) (by decide)).2
theorem kt_214 {w : LT} (h : Lay w) : lt_t w 214 = 20 := (h.1 (214, 20, 12) (by decide)).1
theorem kl_214 {w : LT} (h : Lay w) : lt_l w 214 = 12 := (h.1 (214, 20, 12) (by decide)).2
theorem kt_215 {w : LT} (h : Lay w) : lt_t w 215 = 20 := (h.1 (215, 20, 140) (by decide)).1
theorem kl_215 {w : LT} (h : Lay w) : lt_l w 215 = 140 := (h.1 (215, 20, 140) (by decide)).2
theorem kp_100_0 {w : LT} (h : Lay w) : lt_p w 100 0 = 101 := h.2.1 (100, 0, 101) (by decide)
theorem kp_100_1 {w : LT} (h : Lay w) : lt_p w 100 1 = 104 := h.2.1 (100, 1, 104) (by decide)
theorem kp_100_2 {w : LT} (h : Lay w) : lt_p w 100 2 = 110 := h.2.1 (100, 2, 110) (by decide)
theorem kp_100_3 {w : LT} (h : Lay w) : lt_p w 100 3 = 112 := h.2.1 (100, 3, 112) (by decide)
theorem kp_100_4 {w : LT} (h : Lay w) : lt_p w 100 4 = 116 := h.2.1 (100, 4, 116) (by decide)
theorem kp_100_5 {w : LT} (h : Lay w) : lt_p w 100 5 = 128 := h.2.1 (100, 5, 128) (by decide)
theorem kp_100_6 {w : LT} (h : Lay w) : lt_p w 100 6 = 130 := h.2.1 (100, 6, 130) (by decide)
theorem kp_100_7 {w : LT} (h : Lay w) : lt_p w 100 7 = 136 := h.2.1 (100, 7, 136) (by decide)
theorem kp_100_8 {w : LT} (h : Lay w) : lt_p w 100 8 = 138 := h.2.1 (100, 8, 138) (by decide)
theorem kp_101_0 {w : LT} (h : Lay w) : lt_p w 101 0 = 102 := h.2.1 (101, 0, 102) (by decide)
theorem kp_101_1 {w : LT} (h : Lay w) : lt_p w 101 1 = 103 := h.2.1 (101, 1, 103) (by decide)
theorem kp_104_0 {w : LT} (h : Lay w) : lt_p w 104 0 = 105 := h.2.1 (104, 0, 105) (by decide)
theorem kp_104_1 {w : LT} (h : Lay w) : lt_p w 104 1 = 106 := h.2.1 (104, 1, 106) (by decide)
theorem kp_104_2 {w : LT} (h : Lay w) : lt_p w 104 2 = 107 := h.2.1 (104, 2, 107) (by decide)
theorem kp_104_3 {w : LT} (h : Lay w) : lt_p w 104 3 = 108 := h.2.1 (104, 3, 108) (by decide)
theorem kp_104_4 {w : LT} (h : Lay w) : lt_p w 104 4 = 109 := h.2.1 (104, 4, 109) (by decide)
theorem kp_110_0 {w : LT} (h : Lay w) : lt_p w 110 0 = 111 := h.2.1 (110, 0, 111) (by decide)
theorem kp_112_0 {w : LT} (h : Lay w) : lt_p w 112 0 = 113 := h.2.1 (112, 0, 113) (by decide)
theorem kp_112_1 {w : LT} (h : Lay w) : lt_p w 112 1 = 114 := h.2.1 (112, 1, 114) (by decide)
theorem kp_112_2 {w : LT} (h : Lay w) : lt_p w 112 2 = 115 := h.2.1 (112, 2, 115) (by decide)
theorem kp_116_0 {w : LT} (h : Lay w) : lt_p w 116 0 = 101 := h.2.1 (116, 0, 101) (by decide)
theorem kp_116_6 {w : LT} (h : Lay w) : lt_p w 116 6 = 117 := h.2.1 (116, 6, 117) (by decide)
theorem kp_116_7 {w : LT} (h : Lay w) : lt_p w 116 7 = 118 := h.2.1 (116, 7, 118) (by decide)
theorem kp_116_8 {w : LT} (h : Lay w) : lt_p w 116 8 = 119 := h.2.1 (116, 8, 119) (by decide)
theorem kp_116_9 {w : LT} (h : Lay w) : lt_p w 116 9 = 120 := h.2.1 (116, 9, 120) (by decide)
theorem kp_116_10 {w : LT} (h : Lay w) : lt_p w 116 10 = 121 := h.2.1 (116, 10, 121) (by decide)
theorem kp_116_11 {w : LT} (h : Lay w) : lt_p w 116 11 = 122 := h.2.1 (116, 11, 122) (by decide)
theorem kp_116_13 {w : LT} (h : Lay w) : lt_p w 116 13 = 123 := h.2.1 (116, 13, 123) (by decide)
theorem kp_116_14 {w : LT} (h : Lay w) : lt_p w 116 14 = 124 := h.2.1 (116, 14, 124) (by decide)
theorem kp_116_15 {w : LT} (h : Lay w) : lt_p w 116 15 = 125 := h.2.1 (116, 15, 125) (by decide)
theorem kp_116_18 {w : LT} (h : Lay w) : lt_p w 116 18 = 126 := h.2.1 (116, 18, 126) (by decide)
theorem kp_116_19 {w : LT} (h : Lay w) : lt_p w 116 19 = 127 := h.2.1 (116, 19, 127) (by decide)
theorem kp_128_0 {w : LT} (h : Lay w) : lt_p w 128 0 = 129 := h.2.1 (128, 0, 129) (by decide)
theorem kp_130_0 {w : LT} (h : Lay w) : lt_p w 130 0 = 101 := h.2.1 (130, 0, 101) (by decide)
theorem kp_130_1 {w : LT} (h : Lay w) : lt_p w 130 1 = 104 := h.2.1 (130, 1, 104) (by decide)
theorem kp_130_2 {w : LT} (h : Lay w) : lt_p w 130 2 = 128 := h.2.1 (130, 2, 128) (by decide)
theorem kp_130_3 {w : LT} (h : Lay w) : lt_p w 130 3 = 116 := h.2.1 (130, 3, 116) (by decide)
theorem kp_130_6 {w : LT} (h : Lay w) : lt_p w 130 6 = 131 := h.2.1 (130, 6, 131) (by decide)
theorem kp_130_7 {w : LT} (h : Lay w) : lt_p w 130 7 = 132 := h.2.1 (130, 7, 132) (by decide)
theorem kp_130_8 {w : LT} (h : Lay w) : lt_p w 130 8 = 133 := h.2.1 (130, 8, 133) (by decide)
theorem kp_130_9 {w : LT} (h : Lay w) : lt_p w 130 9 = 134 := h.2.1 (130, 9, 134) (by decide)
theorem kp_130_10 {w : LT} (h : Lay w) : lt_p w 130 10 = 135 := h.2.1 (130, 10, 135) (by decide)
theorem kp_136_0 {w : LT} (h : Lay w) : lt_p w 136 0 = 137 := h.2.1 (136, 0, 137) (by decide)
theorem kp_138_0 {w : LT} (h : Lay w) : lt_p w 138 0 = 139 := h.2.1 (138, 0, 139) (by decide)
theorem kp_167_1 {w : LT} (h : Lay w) : lt_p w 167 1 = 168 := h.2.1 (167, 1, 168) (by decide)
theorem kp_167_4 {w : LT} (h : Lay w) : lt_p w 167 4 = 169 := h.2.1 (167, 4, 169) (by decide)
theorem kp_167_5 {w : LT} (h : Lay w) : lt_p w 167 5 = 170 := h.2.1 (167, 5, 170) (by decide)
theorem kp_167_6 {w : LT} (h : Lay w) : lt_p w 167 6 = 171 := h.2.1 (167, 6, 171) (by decide)
theorem kp_167_9 {w : LT} (h : Lay w) : lt_p w 167 9 = 172 := h.2.1 (167, 9, 172) (by decide)
theorem kp_167_10 {w : LT} (h : Lay w) : lt_p w 167 10 = 173 := h.2.1 (167, 10, 173) (by decide)
theorem kp_167_11 {w : LT} (h : Lay w) : lt_p w 167 11 = 174 := h.2.1 (167, 11, 174) (by decide)
theorem kp_167_12 {w : LT} (h : Lay w) : lt_p w 167 12 = 175 := h.2.1 (167, 12, 175) (by decide)
theorem kp_167_13 {w : LT} (h : Lay w) : lt_p w 167 13 = 176 := h.2.1 (167, 13, 176) (by decide)
theorem kp_167_14 {w : LT} (h : Lay w) : lt_p w 167 14 = 177 := h.2.1 (167, 14, 177) (by decide)
theorem kp_167_15 {w : LT} (h : Lay w) : lt_p w 167 15 = 178 := h.2.1 (167, 15, 178) (by decide)
theorem kp_167_16 {w : LT} (h : Lay w) : lt_p w 167 16 = 179 := h.2.1 (167, 16, 179) (by decide)
theorem kp_167_17 {w : LT} (h : Lay w) : lt_p w 167 17 = 180 := h.2.1 (167, 17, 180) (by decide)
theorem kp_167_18 {w : LT} (h : Lay w) : lt_p w 167 18 = 181 := h.2.1 (167, 18, 181) (by decide)
theorem kp_167_19 {w : LT} (h : Lay w) : lt_p w 167 19 = 182 := h.2.1 (167, 19, 182) (by decide)
theorem kp_167_20 {w : LT} (h : Lay w) : lt_p w 167 20 = 183 := h.2.1 (167, 20, 183) (by decide)
theorem kp_167_21 {w : LT} (h : Lay w) : lt_p w 167 21 = 184 := h.2.1 (167, 21, 184) (by decide)
theorem kp_167_23 {w : LT} (h : Lay w) : lt_p w 167 23 = 185 := h.2.1 (167, 23, 185) (by decide)
theorem kp_167_24 {w : LT} (h : Lay w) : lt_p w 167 24 = 186 := h.2.1 (167, 24, 186) (by decide)
theorem kp_167_27 {w : LT} (h : Lay w) : lt_p w 167 27 = 187 := h.2.1 (167, 27, 187) (by decide)
theorem kp_167_28 {w : LT} (h : Lay w) : lt_p w 167 28 = 188 := h.2.1 (167, 28, 188) (by decide)
theorem kp_167_32 {w : LT} (h : Lay w) : lt_p w 167 32 = 189 := h.2.1 (167, 32, 189) (by decide)
theorem kp_167_33 {w : LT} (h : Lay w) : lt_p w 167 33 = 190 := h.2.1 (167, 33, 190) (by decide)
theorem kp_167_35 {w : LT} (h : Lay w) : lt_p w 167 35 = 191 := h.2.1 (167, 35, 191) (by decide)
theorem kp_167_36 {w : LT} (h : Lay w) : lt_p w 167 36 = 192 := h.2.1 (167, 36, 192) (by decide)
theorem kp_167_37 {w : LT} (h : Lay w) : lt_p w 167 37 = 193 := h.2.1 (167, 37, 193) (by decide)
theorem kp_167_38 {w : LT} (h : Lay w) : lt_p w 167 38 = 194 := h.2.1 (167, 38, 194) (by decide)
theorem kp_167_39 {w : LT} (h : Lay w) : lt_p w 167 39 = 195 := h.2.1 (167, 39, 195) (by decide)
theorem kp_167_47 {w : LT} (h : Lay w) : lt_p w 167 47 = 196 := h.2.1 (167, 47, 196) (by decide)
theorem kp_167_48 {w : LT} (h : Lay w) : lt_p w 167 48 = 197 := h.2.1 (167, 48, 197) (by decide)
theorem kp_167_49 {w : LT} (h : Lay w) : lt_p w 167 49 = 198 := h.2.1 (167, 49, 198) (by decide)
theorem kp_167_50 {w : LT} (h : Lay w) : lt_p w 167 50 = 199 := h.2.1 (167, 50, 199) (by decide)
theorem kp_167_51 {w : LT} (h : Lay w) : lt_p w 167 51 = 200 := h.2.1 (167, 51, 200) (by decide)
theorem kp_167_52 {w : LT} (h : Lay w) : lt_p w 167 52 = 201 := h.2.1 (167, 52, 201) (by decide)
theorem kp_167_53 {w : LT} (h : Lay w) : lt_p w 167 53 = 202 := h.2.1 (167, 53, 202) (by decide)
theorem kp_167_54 {w : LT} (h : Lay w) : lt_p w 167 54 = 203 := h.2.1 (167, 54, 203) (by decide)
theorem kp_167_55 {w : LT} (h : Lay w) : lt_p w 167 55 = 204 := h.2.1 (167, 55, 204) (by decide)
theorem kp_167_56 {w : LT} (h : Lay w) : lt_p w 167 56 = 205 := h.2.1 (167, 56, 205) (by decide)
theorem kp_167_57 {w : LT} (h : Lay w) : lt_p w 167 57 = 206 := h.2.1 (167, 57, 206) (by decide)
theorem kp_167_58 {w : LT} (h : Lay w) : lt_p w 167 58 = 207 := h.2.1 (167, 58, 207) (by decide)
theorem kp_167_59 {w : LT} (h : Lay w) : lt_p w 167 59 = 208 := h.2.1 (167, 59, 208) (by decide)
theorem kp_167_67 {w : LT} (h : Lay w) : lt_p w 167 67 = 209 := h.2.1 (167, 67, 209) (by decide)
theorem kp_167_68 {w : LT} (h : Lay w) : lt_p w 167 68 = 210 := h.2.1 (167, 68, 210) (by decide)
theorem kp_167_69 {w : LT} (h : Lay w) : lt_p w 167 69 = 211 := h.2.1 (167, 69, 211) (by decide)
theorem kp_167_70 {w : LT} (h : Lay w) : lt_p w 167 70 = 212 := h.2.1 (167, 70, 212) (by decide)
theorem kp_167_71 {w : LT} (h : Lay w) : lt_p w 167 71 = 213 := h.2.1 (167, 71, 213) (by decide)
theorem kp_167_72 {w : LT} (h : Lay w) : lt_p w 167 72 = 214 := h.2.1 (167, 72, 214) (by decide)
theorem kp_167_74 {w : LT} (h : Lay w) : lt_p w 167 74 = 215 := h.2.1 (167, 74, 215) (by decide)
end
section
/-! ===== LINKS OF THE CONSTANTS ===== -/
theorem yb_L_19 : YB RL 19 yX11_bill cX11_bill 3 (some .int) 2 := ⟨Or.inl (WT_c5 68 rfl rfl), WT_c5 71 rfl rfl, WT_c1 1 rfl rfl, by decide +kernel, by decide +kernel, by decide +kernel⟩
theorem yi_L_19 : Cond.instanceMethod yX11_bill ∈ WT := WT_c5 69 rfl rfl
theorem yv_L_19 : YV RL 19 yX11_bill cX11_bill 3 (some .int) 2 11 := ⟨yb_L_19, yi_L_19, WT_c5 70 rfl rfl, by decide⟩
theorem yb_L_7 : YB RL 7 yX11_had cX11_had 4 (some .int) 3 := ⟨Or.inl (WT_c4 224 rfl rfl), WT_c4 227 rfl rfl, WT_c1 1 rfl rfl, by decide +kernel, by decide +kernel, by decide +kernel⟩
theorem yi_L_7 : Cond.instanceMethod yX11_had ∈ WT := WT_c4 225 rfl rfl
theorem yv_L_7 : YV RL 7 yX11_had cX11_had 4 (some .int) 3 11 := ⟨yb_L_7, yi_L_7, WT_c4 226 rfl rfl, by decide⟩
theorem gc_L_8 : Cond.classLink RL 8 "SunVillage" ∈ WT := WT_c1 25 rfl rfl
theorem yb_L_22 : YB RL 22 yL_cell cL_cell 2 (some .int) 2 := ⟨Or.inl (WT_c4 217 rfl rfl), WT_c4 219 rfl rfl, WT_c1 0 rfl rfl, by decide +kernel, by decide +kernel, by decide +kernel⟩
theorem ys_L_22 : Cond.static yL_cell ∈ WT := WT_c4 218 rfl rfl
theorem yb_L_28 : YB RL 28 yX11_init cX11_init 3 none 2 := ⟨Or.inl (WT_c1 27 rfl rfl), WT_c1 29 rfl rfl, WT_c1 1 rfl rfl, by decide +kernel, by decide +kernel, by decide +kernel⟩
theorem yi_L_28 : Cond.instanceMethod yX11_init ∈ WT := WT_c1 28 rfl rfl
theorem gc_L_31 : Cond.classLink RL 31 "SunVillageModel" ∈ WT := WT_c5 86 rfl rfl
theorem yb_L_33 : YB RL 33 yX12_init cX12_init 3 none 2 := ⟨Or.inl (WT_c5 87 rfl rfl), WT_c5 89 rfl rfl, WT_c1 12 rfl rfl, by decide +kernel, by decide +kernel, by decide +kernel⟩
theorem yi_L_33 : Cond.instanceMethod yX12_init ∈ WT := WT_c5 88 rfl rfl
theorem yb_L_34 : YB RL 34 yX11_house cX11_house 5 (some .int) 2 := ⟨Or.inl (WT_c2 173 rfl rfl), WT_c2 176 rfl rfl, WT_c1 1 rfl rfl, by decide +kernel, by decide +kernel, by decide +kernel⟩
theorem yi_L_34 : Cond.instanceMethod yX11_house ∈ WT := WT_c2 174 rfl rfl
theorem yv_L_34 : YV RL 34 yX11_house cX11_house 5 (some .int) 2 11 := ⟨yb_L_34, yi_L_34, WT_c2 175 rfl rfl, by decide⟩
theorem yb_L_37 : YB RL 37 yX12_house cX12_house 3 (some .int) 2 := ⟨Or.inl (WT_c6 218 rfl rfl), WT_c6 221 rfl rfl, WT_c1 12 rfl rfl, by decide +kernel, by decide +kernel, by decide +kernel⟩
theorem yi_L_37 : Cond.instanceMethod yX12_house ∈ WT := WT_c6 219 rfl rfl
theorem yv_L_37 : YV RL 37 yX12_house cX12_house 3 (some .int) 2 12 := ⟨yb_L_37, yi_L_37, WT_c6 220 rfl rfl, by decide⟩
theorem yb_L_38 : YB RL 38 yX11_read cX11_read 7 (some .boolean) 4 := ⟨Or.inl (WT_c2 181 rfl rfl), WT_c2 184 rfl rfl, WT_c1 1 rfl rfl, by decide +kernel, by decide +kernel, by decide +kernel⟩
theorem yi_L_38 : Cond.instanceMethod yX11_read ∈ WT := WT_c2 182 rfl rfl
theorem yv_L_38 : YV RL 38 yX11_read cX11_read 7 (some .boolean) 4 11 := ⟨yb_L_38, yi_L_38, WT_c2 183 rfl rfl, by decide⟩
theorem yb_L_42 : YB RL 42 yX12_read cX12_read 5 (some .boolean) 4 := ⟨Or.inl (WT_c6 222 rfl rfl), WT_c6 225 rfl rfl, WT_c1 12 rfl rfl, by decide +kernel, by decide +kernel, by decide +kernel⟩
theorem yi_L_42 : Cond.instanceMethod yX12_read ∈ WT := WT_c6 223 rfl rfl
theorem yv_L_42 : YV RL 42 yX12_read cX12_read 5 (some .boolean) 4 12 := ⟨yb_L_42, yi_L_42, WT_c6 224 rfl rfl, by decide⟩
theorem yb_L_43 : YB RL 43 yX11_days cX11_days 2 (some .int) 1 := ⟨Or.inl (WT_c2 204 rfl rfl), WT_c2 207 rfl rfl, WT_c1 1 rfl rfl, by decide +kernel, by decide +kernel, by decide +kernel⟩
theorem yi_L_43 : Cond.instanceMethod yX11_days ∈ WT := WT_c2 205 rfl rfl
theorem yv_L_43 : YV RL 43 yX11_days cX11_days 2 (some .int) 1 11 := ⟨yb_L_43, yi_L_43, WT_c2 206 rfl rfl, by decide⟩
theorem yb_L_47 : YB RL 47 yX12_days cX12_days 2 (some .int) 1 := ⟨Or.inl (WT_c6 226 rfl rfl), WT_c6 229 rfl rfl, WT_c1 12 rfl rfl, by decide +kernel, by decide +kernel, by decide +kernel⟩
theorem yi_L_47 : Cond.instanceMethod yX12_days ∈ WT := WT_c6 227 rfl rfl
theorem yv_L_47 : YV RL 47 yX12_days cX12_days 2 (some .int) 1 12 := ⟨yb_L_47, yi_L_47, WT_c6 228 rfl rfl, by decide⟩
theorem gl_L_48 : Cond.constantLong RL 48 (4294967295) ∈ WT := WT_c7 78 rfl rfl
theorem yb_L_50 : YB RL 50 yX11_feed cX11_feed 7 (some .int) 3 := ⟨Or.inl (WT_c2 208 rfl rfl), WT_c2 211 rfl rfl, WT_c1 1 rfl rfl, by decide +kernel, by decide +kernel, by decide +kernel⟩
theorem yi_L_50 : Cond.instanceMethod yX11_feed ∈ WT := WT_c2 209 rfl rfl
theorem yv_L_50 : YV RL 50 yX11_feed cX11_feed 7 (some .int) 3 11 := ⟨yb_L_50, yi_L_50, WT_c2 210 rfl rfl, by decide⟩
theorem yb_L_54 : YB RL 54 yX12_feed cX12_feed 7 (some .int) 3 := ⟨Or.inl (WT_c5 77 rfl rfl), WT_c5 80 rfl rfl, WT_c1 12 rfl rfl, by decide +kernel, by decide +kernel, by decide +kernel⟩
theorem yi_L_54 : Cond.instanceMethod yX12_feed ∈ WT := WT_c5 78 rfl rfl
theorem yv_L_54 : YV RL 54 yX12_feed cX12_feed 7 (some .int) 3 12 := ⟨yb_L_54, yi_L_54, WT_c5 79 rfl rfl, by decide⟩
theorem yb_L_55 : YB RL 55 yX11_text cX11_text 3 (some .int) 1 := ⟨Or.inl (WT_c2 217 rfl rfl), WT_c2 220 rfl rfl, WT_c1 1 rfl rfl, by decide +kernel, by decide +kernel, by decide +kernel⟩
theorem yi_L_55 : Cond.instanceMethod yX11_text ∈ WT := WT_c2 218 rfl rfl
theorem yv_L_55 : YV RL 55 yX11_text cX11_text 3 (some .int) 1 11 := ⟨yb_L_55, yi_L_55, WT_c2 219 rfl rfl, by decide⟩
theorem yb_L_58 : YB RL 58 yX12_text cX12_text 2 (some .int) 1 := ⟨Or.inl (WT_c6 103 rfl rfl), WT_c6 106 rfl rfl, WT_c1 12 rfl rfl, by decide +kernel, by decide +kernel, by decide +kernel⟩
theorem yi_L_58 : Cond.instanceMethod yX12_text ∈ WT := WT_c6 104 rfl rfl
theorem yv_L_58 : YV RL 58 yX12_text cX12_text 2 (some .int) 1 12 := ⟨yb_L_58, yi_L_58, WT_c6 105 rfl rfl, by decide⟩
theorem yb_L_59 : YB RL 59 yX11_other cX11_other 3 (some .int) 0 := ⟨Or.inl (WT_c3 223 rfl rfl), WT_c3 226 rfl rfl, WT_c1 1 rfl rfl, by decide +kernel, by decide +kernel, by decide +kernel⟩
theorem yi_L_59 : Cond.instanceMethod yX11_other ∈ WT := WT_c3 224 rfl rfl
theorem yv_L_59 : YV RL 59 yX11_other cX11_other 3 (some .int) 0 11 := ⟨yb_L_59, yi_L_59, WT_c3 225 rfl rfl, by decide⟩
theorem yb_L_63 : YB RL 63 yX12_other cX12_other 1 (some .int) 0 := ⟨Or.inl (WT_c6 214 rfl rfl), WT_c6 217 rfl rfl, WT_c1 12 rfl rfl, by decide +kernel, by decide +kernel, by decide +kernel⟩
theorem yi_L_63 : Cond.instanceMethod yX12_other ∈ WT := WT_c6 215 rfl rfl
theorem yv_L_63 : YV RL 63 yX12_other cX12_other 1 (some .int) 0 12 := ⟨yb_L_63, yi_L_63, WT_c6 216 rfl rfl, by decide⟩
theorem yb_L_64 : YB RL 64 yX11_known cX11_known 2 (some .boolean) 1 := ⟨Or.inl (WT_c3 232 rfl rfl), WT_c3 235 rfl rfl, WT_c1 1 rfl rfl, by decide +kernel, by decide +kernel, by decide +kernel⟩
theorem yi_L_64 : Cond.instanceMethod yX11_known ∈ WT := WT_c3 233 rfl rfl
theorem yv_L_64 : YV RL 64 yX11_known cX11_known 2 (some .boolean) 1 11 := ⟨yb_L_64, yi_L_64, WT_c3 234 rfl rfl, by decide⟩
theorem yb_L_68 : YB RL 68 yX12_known cX12_known 2 (some .boolean) 1 := ⟨Or.inl (WT_c6 230 rfl rfl), WT_c6 233 rfl rfl, WT_c1 12 rfl rfl, by decide +kernel, by decide +kernel, by decide +kernel⟩
theorem yi_L_68 : Cond.instanceMethod yX12_known ∈ WT := WT_c6 231 rfl rfl
theorem yv_L_68 : YV RL 68 yX12_known cX12_known 2 (some .boolean) 1 12 := ⟨yb_L_68, yi_L_68, WT_c6 232 rfl rfl, by decide⟩
theorem yb_L_72 : YB RL 72 yX12_had cX12_had 4 (some .int) 3 := ⟨Or.inl (WT_c6 234 rfl rfl), WT_c6 237 rfl rfl, WT_c1 12 rfl rfl, by decide +kernel, by decide +kernel, by decide +kernel⟩
theorem yi_L_72 : Cond.instanceMethod yX12_had ∈ WT := WT_c6 235 rfl rfl
theorem yv_L_72 : YV RL 72 yX12_had cX12_had 4 (some .int) 3 12 := ⟨yb_L_72, yi_L_72, WT_c6 236 rfl rfl, by decide⟩
theorem yb_L_73 : YB RL 73 yX12_thrown cX12_thrown 1 (some .int) 0 := ⟨Or.inl (WT_c5 73 rfl rfl), WT_c5 76 rfl rfl, WT_c1 12 rfl rfl, by decide +kernel, by decide +kernel, by decide +kernel⟩
theorem yi_L_73 : Cond.instanceMethod yX12_thrown ∈ WT := WT_c5 74 rfl rfl
theorem yv_L_73 : YV RL 73 yX12_thrown cX12_thrown 1 (some .int) 0 12 := ⟨yb_L_73, yi_L_73, WT_c5 75 rfl rfl, by decide⟩
theorem yb_L_79 : YB RL 79 yX12_quarter cX12_quarter 6 (some .int) 2 := ⟨Or.inl (WT_c7 54 rfl rfl), WT_c7 57 rfl rfl, WT_c1 12 rfl rfl, by decide +kernel, by decide +kernel, by decide +kernel⟩
theorem yi_L_79 : Cond.instanceMethod yX12_quarter ∈ WT := WT_c7 55 rfl rfl
theorem yv_L_79 : YV RL 79 yX12_quarter cX12_quarter 6 (some .int) 2 12 := ⟨yb_L_79, yi_L_79, WT_c7 56 rfl rfl, by decide⟩
theorem yb_L_80 : YB RL 80 yX11_by cX11_by 5 (some .int) 3 := ⟨Or.inl (WT_c3 236 rfl rfl), WT_c3 239 rfl rfl, WT_c1 1 rfl rfl, by decide +kernel, by decide +kernel, by decide +kernel⟩
theorem yi_L_80 : Cond.instanceMethod yX11_by ∈ WT := WT_c3 237 rfl rfl
theorem yv_L_80 : YV RL 80 yX11_by cX11_by 5 (some .int) 3 11 := ⟨yb_L_80, yi_L_80, WT_c3 238 rfl rfl, by decide⟩
theorem yb_L_83 : YB RL 83 yX12_by cX12_by 4 (some .int) 3 := ⟨Or.inl (WT_c7 58 rfl rfl), WT_c7 61 rfl rfl, WT_c1 12 rfl rfl, by decide +kernel, by decide +kernel, by decide +kernel⟩
theorem yi_L_83 : Cond.instanceMethod yX12_by ∈ WT := WT_c7 59 rfl rfl
theorem yv_L_83 : YV RL 83 yX12_by cX12_by 4 (some .int) 3 12 := ⟨yb_L_83, yi_L_83, WT_c7 60 rfl rfl, by decide⟩
theorem yb_L_84 : YB RL 84 yX11_would cX11_would 3 (some .int) 2 := ⟨Or.inl (WT_c4 170 rfl rfl), WT_c4 173 rfl rfl, WT_c1 1 rfl rfl, by decide +kernel, by decide +kernel, by decide +kernel⟩
theorem yi_L_84 : Cond.instanceMethod yX11_would ∈ WT := WT_c4 171 rfl rfl
theorem yv_L_84 : YV RL 84 yX11_would cX11_would 3 (some .int) 2 11 := ⟨yb_L_84, yi_L_84, WT_c4 172 rfl rfl, by decide⟩
theorem yb_L_87 : YB RL 87 yX12_would cX12_would 3 (some .int) 2 := ⟨Or.inl (WT_c7 62 rfl rfl), WT_c7 65 rfl rfl, WT_c1 12 rfl rfl, by decide +kernel, by decide +kernel, by decide +kernel⟩
theorem yi_L_87 : Cond.instanceMethod yX12_would ∈ WT := WT_c7 63 rfl rfl
theorem yv_L_87 : YV RL 87 yX12_would cX12_would 3 (some .int) 2 12 := ⟨yb_L_87, yi_L_87, WT_c7 64 rfl rfl, by decide⟩
theorem yb_L_88 : YB RL 88 yX11_bills cX11_bills 4 (some .int) 0 := ⟨Or.inl (WT_c4 178 rfl rfl), WT_c4 181 rfl rfl, WT_c1 1 rfl rfl, by decide +kernel, by decide +kernel, by decide +kernel⟩
theorem yi_L_88 : Cond.instanceMethod yX11_bills ∈ WT := WT_c4 179 rfl rfl
theorem yv_L_88 : YV RL 88 yX11_bills cX11_bills 4 (some .int) 0 11 := ⟨yb_L_88, yi_L_88, WT_c4 180 rfl rfl, by decide⟩
theorem yb_L_91 : YB RL 91 yX12_bills cX12_bills 4 (some .int) 0 := ⟨Or.inl (WT_c7 66 rfl rfl), WT_c7 69 rfl rfl, WT_c1 12 rfl rfl, by decide +kernel, by decide +kernel, by decide +kernel⟩
theorem yi_L_91 : Cond.instanceMethod yX12_bills ∈ WT := WT_c7 67 rfl rfl
theorem yv_L_91 : YV RL 91 yX12_bills cX12_bills 4 (some .int) 0 12 := ⟨yb_L_91, yi_L_91, WT_c7 68 rfl rfl, by decide⟩
theorem yb_L_94 : YB RL 94 yX12_bill cX12_bill 3 (some .int) 2 := ⟨Or.inl (WT_c7 70 rfl rfl), WT_c7 73 rfl rfl, WT_c1 12 rfl rfl, by decide +kernel, by decide +kernel, by decide +kernel⟩
theorem yi_L_94 : Cond.instanceMethod yX12_bill ∈ WT := WT_c7 71 rfl rfl
theorem yv_L_94 : YV RL 94 yX12_bill cX12_bill 3 (some .int) 2 12 := ⟨yb_L_94, yi_L_94, WT_c7 72 rfl rfl, by decide⟩
theorem yb_L_95 : YB RL 95 yX11_count cX11_count 2 (some .int) 1 := ⟨Or.inl (WT_c4 209 rfl rfl), WT_c4 212 rfl rfl, WT_c1 1 rfl rfl, by decide +kernel, by decide +kernel, by decide +kernel⟩
theorem yi_L_95 : Cond.instanceMethod yX11_count ∈ WT := WT_c4 210 rfl rfl
theorem yv_L_95 : YV RL 95 yX11_count cX11_count 2 (some .int) 1 11 := ⟨yb_L_95, yi_L_95, WT_c4 211 rfl rfl, by decide⟩
theorem yb_L_98 : YB RL 98 yX12_count cX12_count 2 (some .int) 1 := ⟨Or.inl (WT_c7 74 rfl rfl), WT_c7 77 rfl rfl, WT_c1 12 rfl rfl, by decide +kernel, by decide +kernel, by decide +kernel⟩
theorem yi_L_98 : Cond.instanceMethod yX12_count ∈ WT := WT_c7 75 rfl rfl
theorem yv_L_98 : YV RL 98 yX12_count cX12_count 2 (some .int) 1 12 := ⟨yb_L_98, yi_L_98, WT_c7 76 rfl rfl, by decide⟩
theorem yb_L_15 : YB RL 15 yX11_quarter cX11_quarter 3 (some .int) 2 := ⟨Or.inl (WT_c5 60 rfl rfl), WT_c5 63 rfl rfl, WT_c1 1 rfl rfl, by decide +kernel, by decide +kernel, by decide +kernel⟩
theorem yi_L_15 : Cond.instanceMethod yX11_quarter ∈ WT := WT_c5 61 rfl rfl
theorem yv_L_15 : YV RL 15 yX11_quarter cX11_quarter 3 (some .int) 2 11 := ⟨yb_L_15, yi_L_15, WT_c5 62 rfl rfl, by decide⟩
theorem go_X0_3 : Cond.methodLink RX0 3 Lib.objectInit ∈ WT := WT_c2 37 rfl rfl
theorem gf_X0_11 : GF RX0 11 0 0 := ⟨by decide, by decide, Or.inl (WT_c2 38 rfl rfl)⟩
theorem gw_X0_11 : 0 < 13 ∧ 0 < cN 0 ∧ Cond.fieldLink RX0 11 (cT 0 0).1 (cT 0 0).2.1 (cT 0 0).2.2.1 ∈ WT := ⟨by decide, by decide, WT_c2 38 rfl rfl⟩
theorem gf_X0_15 : GF RX0 15 0 1 := ⟨by decide, by decide, Or.inl (WT_c2 40 rfl rfl)⟩
theorem gw_X0_15 : 0 < 13 ∧ 1 < cN 0 ∧ Cond.fieldLink RX0 15 (cT 0 1).1 (cT 0 1).2.1 (cT 0 1).2.2.1 ∈ WT := ⟨by decide, by decide, WT_c2 40 rfl rfl⟩
theorem yb_X0_19 : YB RX0 19 yX0_slot cX0_slot 2 (some .int) 2 := ⟨Or.inl (WT_c4 206 rfl rfl), WT_c4 208 rfl rfl, WT_c1 9 rfl rfl, by decide +kernel, by decide +kernel, by decide +kernel⟩
theorem ys_X0_19 : Cond.static yX0_slot ∈ WT := WT_c4 207 rfl rfl
theorem yb_X1_158 : YB RX1 158 yX1_lacked cX1_lacked 2 (some .int) 1 := ⟨Or.inl (WT_c4 198 rfl rfl), WT_c4 201 rfl rfl, WT_c1 8 rfl rfl, by decide +kernel, by decide +kernel, by decide +kernel⟩
theorem yi_X1_158 : Cond.instanceMethod yX1_lacked ∈ WT := WT_c4 200 rfl rfl
theorem yv_X1_158 : YV RX1 158 yX1_lacked cX1_lacked 2 (some .int) 1 1 := ⟨yb_X1_158, yi_X1_158, WT_sel 41 (by decide +kernel) rfl, by decide⟩
theorem gf_X1_27 : GF RX1 27 1 0 := ⟨by decide, by decide, Or.inl (WT_c1 238 rfl rfl)⟩
theorem gw_X1_27 : 1 < 13 ∧ 0 < cN 1 ∧ Cond.fieldLink RX1 27 (cT 1 0).1 (cT 1 0).2.1 (cT 1 0).2.2.1 ∈ WT := ⟨by decide, by decide, WT_c1 238 rfl rfl⟩
theorem gf_X1_172 : GF RX1 172 2 1 := ⟨by decide, by decide, Or.inr ⟨"SunVillage", NW_c1 43 rfl rfl⟩⟩
theorem gf_X1_15 : GF RX1 15 1 7 := ⟨by decide, by decide, Or.inl (WT_c2 5 rfl rfl)⟩
theorem gw_X1_15 : 1 < 13 ∧ 7 < cN 1 ∧ Cond.fieldLink RX1 15 (cT 1 7).1 (cT 1 7).2.1 (cT 1 7).2.2.1 ∈ WT := ⟨by decide, by decide, WT_c2 5 rfl rfl⟩
theorem gf_X1_18 : GF RX1 18 1 8 := ⟨by decide, by decide, Or.inl (WT_c2 6 rfl rfl)⟩
theorem gw_X1_18 : 1 < 13 ∧ 8 < cN 1 ∧ Cond.fieldLink RX1 18 (cT 1 8).1 (cT 1 8).2.1 (cT 1 8).2.2.1 ∈ WT := ⟨by decide, by decide, WT_c2 6 rfl rfl⟩
theorem gm_X1_47 : Cond.methodLink RX1 47 Lib.Math.min.name ∈ WT := WT_c2 201 rfl rfl
theorem yb_X1_81 : YB RX1 81 yX1_cell cX1_cell 2 (some .int) 2 := ⟨Or.inl (WT_c4 35 rfl rfl), WT_c4 37 rfl rfl, WT_c1 8 rfl rfl, by decide +kernel, by decide +kernel, by decide +kernel⟩
theorem ys_X1_81 : Cond.static yX1_cell ∈ WT := WT_c4 36 rfl rfl
theorem gf_X1_9 : GF RX1 9 1 6 := ⟨by decide, by decide, Or.inl (WT_c2 4 rfl rfl)⟩
theorem gw_X1_9 : 1 < 13 ∧ 6 < cN 1 ∧ Cond.fieldLink RX1 9 (cT 1 6).1 (cT 1 6).2.1 (cT 1 6).2.2.1 ∈ WT := ⟨by decide, by decide, WT_c2 4 rfl rfl⟩
theorem gf_X1_21 : GF RX1 21 1 9 := ⟨by decide, by decide, Or.inl (WT_c2 7 rfl rfl)⟩
theorem gw_X1_21 : 1 < 13 ∧ 9 < cN 1 ∧ Cond.fieldLink RX1 21 (cT 1 9).1 (cT 1 9).2.1 (cT 1 9).2.2.1 ∈ WT := ⟨by decide, by decide, WT_c2 7 rfl rfl⟩
theorem gf_X1_39 : GF RX1 39 1 3 := ⟨by decide, by decide, Or.inl (WT_c2 1 rfl rfl)⟩
theorem gw_X1_39 : 1 < 13 ∧ 3 < cN 1 ∧ Cond.fieldLink RX1 39 (cT 1 3).1 (cT 1 3).2.1 (cT 1 3).2.2.1 ∈ WT := ⟨by decide, by decide, WT_c2 1 rfl rfl⟩
theorem yb_X1_133 : YB RX1 133 yX1_wants cX1_wants 2 (some .int) 1 := ⟨Or.inl (WT_c4 55 rfl rfl), WT_c4 58 rfl rfl, WT_c1 8 rfl rfl, by decide +kernel, by decide +kernel, by decide +kernel⟩
theorem yi_X1_133 : Cond.instanceMethod yX1_wants ∈ WT := WT_c4 57 rfl rfl
theorem yv_X1_133 : YV RX1 133 yX1_wants cX1_wants 2 (some .int) 1 1 := ⟨yb_X1_133, yi_X1_133, WT_sel 20 (by decide +kernel) rfl, by decide⟩
theorem yb_X1_137 : YB RX1 137 yX1_gives cX1_gives 2 (some .int) 1 := ⟨Or.inl (WT_c4 59 rfl rfl), WT_c4 62 rfl rfl, WT_c1 8 rfl rfl, by decide +kernel, by decide +kernel, by decide +kernel⟩
theorem yi_X1_137 : Cond.instanceMethod yX1_gives ∈ WT := WT_c4 61 rfl rfl
theorem yv_X1_137 : YV RX1 137 yX1_gives cX1_gives 2 (some .int) 1 1 := ⟨yb_X1_137, yi_X1_137, WT_sel 21 (by decide +kernel) rfl, by decide⟩
theorem yb_X1_140 : YB RX1 140 yX10_bringIn cX10_bringIn 6 none 4 := ⟨Or.inl (WT_c4 63 rfl rfl), WT_c4 66 rfl rfl, WT_c1 6 rfl rfl, by decide +kernel, by decide +kernel, by decide +kernel⟩
theorem yi_X1_140 : Cond.instanceMethod yX10_bringIn ∈ WT := WT_c4 64 rfl rfl
theorem yv_X1_140 : YV RX1 140 yX10_bringIn cX10_bringIn 6 none 4 10 := ⟨yb_X1_140, yi_X1_140, WT_c4 65 rfl rfl, by decide⟩
theorem yb_X1_152 : YB RX1 152 yX1_own cX1_own 2 (some .int) 1 := ⟨Or.inl (WT_c4 190 rfl rfl), WT_c4 193 rfl rfl, WT_c1 8 rfl rfl, by decide +kernel, by decide +kernel, by decide +kernel⟩
theorem yi_X1_152 : Cond.instanceMethod yX1_own ∈ WT := WT_c4 192 rfl rfl
theorem yv_X1_152 : YV RX1 152 yX1_own cX1_own 2 (some .int) 1 1 := ⟨yb_X1_152, yi_X1_152, WT_sel 39 (by decide +kernel) rfl, by decide⟩
theorem yb_X1_100 : YB RX1 100 yX1_sum cX1_sum 3 (some .int) 2 := ⟨Or.inl (WT_c4 43 rfl rfl), WT_c4 46 rfl rfl, WT_c1 8 rfl rfl, by decide +kernel, by decide +kernel, by decide +kernel⟩
theorem yi_X1_100 : Cond.instanceMethod yX1_sum ∈ WT := WT_c4 44 rfl rfl
theorem yv_X1_100 : YV RX1 100 yX1_sum cX1_sum 3 (some .int) 2 1 := ⟨yb_X1_100, yi_X1_100, WT_c4 45 rfl rfl, by decide⟩
theorem yb_X1_155 : YB RX1 155 yX1_bought cX1_bought 3 (some .int) 2 := ⟨Or.inl (WT_c4 194 rfl rfl), WT_c4 197 rfl rfl, WT_c1 8 rfl rfl, by decide +kernel, by decide +kernel, by decide +kernel⟩
theorem yi_X1_155 : Cond.instanceMethod yX1_bought ∈ WT := WT_c4 196 rfl rfl
theorem yv_X1_155 : YV RX1 155 yX1_bought cX1_bought 3 (some .int) 2 1 := ⟨yb_X1_155, yi_X1_155, WT_sel 40 (by decide +kernel) rfl, by decide⟩
theorem yb_X1_165 : YB RX1 165 yX1_coins cX1_coins 5 (some .int) 2 := ⟨Or.inl (WT_c4 186 rfl rfl), WT_c4 189 rfl rfl, WT_c1 8 rfl rfl, by decide +kernel, by decide +kernel, by decide +kernel⟩
theorem yi_X1_165 : Cond.instanceMethod yX1_coins ∈ WT := WT_c4 188 rfl rfl
theorem yv_X1_165 : YV RX1 165 yX1_coins cX1_coins 5 (some .int) 2 1 := ⟨yb_X1_165, yi_X1_165, WT_sel 38 (by decide +kernel) rfl, by decide⟩
theorem gf_X1_43 : GF RX1 43 1 5 := ⟨by decide, by decide, Or.inl (WT_c2 3 rfl rfl)⟩
theorem gw_X1_43 : 1 < 13 ∧ 5 < cN 1 ∧ Cond.fieldLink RX1 43 (cT 1 5).1 (cT 1 5).2.1 (cT 1 5).2.2.1 ∈ WT := ⟨by decide, by decide, WT_c2 3 rfl rfl⟩
theorem gf_X1_31 : GF RX1 31 1 1 := ⟨by decide, by decide, Or.inl (WT_c1 239 rfl rfl)⟩
theorem gw_X1_31 : 1 < 13 ∧ 1 < cN 1 ∧ Cond.fieldLink RX1 31 (cT 1 1).1 (cT 1 1).2.1 (cT 1 1).2.2.1 ∈ WT := ⟨by decide, by decide, WT_c1 239 rfl rfl⟩
theorem gf_X1_170 : GF RX1 170 4 3 := ⟨by decide, by decide, Or.inr ⟨"SunVillage", NW_c1 69 rfl rfl⟩⟩
theorem go_X1_3 : Cond.methodLink RX1 3 Lib.objectInit ∈ WT := WT_c1 237 rfl rfl
theorem gf_X1_24 : GF RX1 24 1 10 := ⟨by decide, by decide, Or.inl (WT_c2 8 rfl rfl)⟩
theorem gw_X1_24 : 1 < 13 ∧ 10 < cN 1 ∧ Cond.fieldLink RX1 24 (cT 1 10).1 (cT 1 10).2.1 (cT 1 10).2.2.1 ∈ WT := ⟨by decide, by decide, WT_c2 8 rfl rfl⟩
theorem gf_X1_35 : GF RX1 35 1 2 := ⟨by decide, by decide, Or.inl (WT_c2 0 rfl rfl)⟩
theorem gw_X1_35 : 1 < 13 ∧ 2 < cN 1 ∧ Cond.fieldLink RX1 35 (cT 1 2).1 (cT 1 2).2.1 (cT 1 2).2.2.1 ∈ WT := ⟨by decide, by decide, WT_c2 0 rfl rfl⟩
theorem gf_X1_90 : GF RX1 90 4 1 := ⟨by decide, by decide, Or.inr ⟨"SunVillage", NW_c1 65 rfl rfl⟩⟩
theorem yb_X1_161 : YB RX1 161 yX1_isInDoubt cX1_isInDoubt 3 (some .boolean) 2 := ⟨Or.inl (WT_c5 53 rfl rfl), WT_c5 56 rfl rfl, WT_c1 8 rfl rfl, by decide +kernel, by decide +kernel, by decide +kernel⟩
theorem yi_X1_161 : Cond.instanceMethod yX1_isInDoubt ∈ WT := WT_c5 55 rfl rfl
theorem yv_X1_161 : YV RX1 161 yX1_isInDoubt cX1_isInDoubt 3 (some .boolean) 2 1 := ⟨yb_X1_161, yi_X1_161, WT_sel 43 (by decide +kernel) rfl, by decide⟩
theorem gf_X1_84 : GF RX1 84 4 5 := ⟨by decide, by decide, Or.inr ⟨"SunVillage", NW_c1 74 rfl rfl⟩⟩
theorem gf_X1_87 : GF RX1 87 4 4 := ⟨by decide, by decide, Or.inr ⟨"SunVillage", NW_c1 71 rfl rfl⟩⟩
theorem gf_X1_64 : GF RX1 64 1 4 := ⟨by decide, by decide, Or.inl (WT_c2 2 rfl rfl)⟩
theorem gw_X1_64 : 1 < 13 ∧ 4 < cN 1 ∧ Cond.fieldLink RX1 64 (cT 1 4).1 (cT 1 4).2.1 (cT 1 4).2.2.1 ∈ WT := ⟨by decide, by decide, WT_c2 2 rfl rfl⟩
theorem yb_X1_93 : YB RX1 93 yX11_isIn cX11_isIn 3 (some .boolean) 3 := ⟨Or.inr ⟨"SunVillage", NW_c4 38 rfl rfl⟩, WT_c1 143 rfl rfl, WT_c1 1 rfl rfl, by decide +kernel, by decide +kernel, by decide +kernel⟩
theorem ys_X1_93 : Cond.static yX11_isIn ∈ WT := WT_c1 142 rfl rfl
theorem gf_X1_97 : GF RX1 97 4 0 := ⟨by decide, by decide, Or.inr ⟨"SunVillage", NW_c1 63 rfl rfl⟩⟩
theorem gm_X1_67 : Cond.methodLink RX1 67 Lib.Math.max.name ∈ WT := WT_c4 17 rfl rfl
theorem yb_X1_70 : YB RX1 70 yX4_firstTouched cX4_firstTouched 5 (some .int) 2 := ⟨Or.inl (WT_c4 20 rfl rfl), WT_c4 23 rfl rfl, WT_c1 3 rfl rfl, by decide +kernel, by decide +kernel, by decide +kernel⟩
theorem yi_X1_70 : Cond.instanceMethod yX4_firstTouched ∈ WT := WT_c4 21 rfl rfl
theorem yv_X1_70 : YV RX1 70 yX4_firstTouched cX4_firstTouched 5 (some .int) 2 4 := ⟨yb_X1_70, yi_X1_70, WT_c4 22 rfl rfl, by decide⟩
theorem yb_X1_75 : YB RX1 75 yX1_forgetFrom cX1_forgetFrom 2 none 1 := ⟨Or.inl (WT_c4 25 rfl rfl), WT_c2 200 rfl rfl, WT_c1 8 rfl rfl, by decide +kernel, by decide +kernel, by decide +kernel⟩
theorem yi_X1_75 : Cond.instanceMethod yX1_forgetFrom ∈ WT := WT_c2 198 rfl rfl
theorem yv_X1_75 : YV RX1 75 yX1_forgetFrom cX1_forgetFrom 2 none 1 1 := ⟨yb_X1_75, yi_X1_75, WT_c2 199 rfl rfl, by decide⟩
theorem yb_X1_78 : YB RX1 78 yX8_firstTouched cX8_firstTouched 5 (some .int) 2 := ⟨Or.inl (WT_c4 26 rfl rfl), WT_c4 29 rfl rfl, WT_c1 7 rfl rfl, by decide +kernel, by decide +kernel, by decide +kernel⟩
theorem yi_X1_78 : Cond.instanceMethod yX8_firstTouched ∈ WT := WT_c4 27 rfl rfl
theorem yv_X1_78 : YV RX1 78 yX8_firstTouched cX8_firstTouched 5 (some .int) 2 8 := ⟨yb_X1_78, yi_X1_78, WT_c4 28 rfl rfl, by decide⟩
theorem gf_X1_168 : GF RX1 168 4 2 := ⟨by decide, by decide, Or.inr ⟨"SunVillage", NW_c1 67 rfl rfl⟩⟩
theorem yb_X1_103 : YB RX1 103 yX10_begin cX10_begin 5 none 3 := ⟨Or.inl (WT_c4 47 rfl rfl), WT_c4 50 rfl rfl, WT_c1 6 rfl rfl, by decide +kernel, by decide +kernel, by decide +kernel⟩
theorem yi_X1_103 : Cond.instanceMethod yX10_begin ∈ WT := WT_c4 48 rfl rfl
theorem yv_X1_103 : YV RX1 103 yX10_begin cX10_begin 5 none 3 10 := ⟨yb_X1_103, yi_X1_103, WT_c4 49 rfl rfl, by decide⟩
theorem gf_X1_109 : GF RX1 109 10 19 := ⟨by decide, by decide, Or.inr ⟨"SunVillage", NW_c1 173 rfl rfl⟩⟩
theorem gf_X1_110 : GF RX1 110 2 2 := ⟨by decide, by decide, Or.inr ⟨"SunVillage", NW_c1 47 rfl rfl⟩⟩
theorem yb_X1_113 : YB RX1 113 yX1_bringIn cX1_bringIn 5 none 2 := ⟨Or.inl (WT_c4 51 rfl rfl), WT_c4 54 rfl rfl, WT_c1 8 rfl rfl, by decide +kernel, by decide +kernel, by decide +kernel⟩
theorem yi_X1_113 : Cond.instanceMethod yX1_bringIn ∈ WT := WT_c4 53 rfl rfl
theorem yv_X1_113 : YV RX1 113 yX1_bringIn cX1_bringIn 5 none 2 1 := ⟨yb_X1_113, yi_X1_113, WT_sel 19 (by decide +kernel) rfl, by decide⟩
theorem yb_X1_116 : YB RX1 116 yX8_inForce cX8_inForce 5 (some (.object "SunVillage$Text")) 2 := ⟨Or.inl (WT_c4 68 rfl rfl), WT_c4 7 rfl rfl, WT_c1 7 rfl rfl, by decide +kernel, by decide +kernel, by decide +kernel⟩
theorem yi_X1_116 : Cond.instanceMethod yX8_inForce ∈ WT := WT_c4 5 rfl rfl
theorem yv_X1_116 : YV RX1 116 yX8_inForce cX8_inForce 5 (some (.object "SunVillage$Text")) 2 8 := ⟨yb_X1_116, yi_X1_116, WT_c4 6 rfl rfl, by decide⟩
theorem gf_X1_120 : GF RX1 120 7 1 := ⟨by decide, by decide, Or.inr ⟨"SunVillage", NW_c2 108 rfl rfl⟩⟩
theorem yb_X1_123 : YB RX1 123 yX10_apply cX10_apply 4 none 2 := ⟨Or.inl (WT_c4 69 rfl rfl), WT_c4 72 rfl rfl, WT_c1 6 rfl rfl, by decide +kernel, by decide +kernel, by decide +kernel⟩
theorem yi_X1_123 : Cond.instanceMethod yX10_apply ∈ WT := WT_c4 70 rfl rfl
theorem yv_X1_123 : YV RX1 123 yX10_apply cX10_apply 4 none 2 10 := ⟨yb_X1_123, yi_X1_123, WT_c4 71 rfl rfl, by decide⟩
theorem yb_X1_127 : YB RX1 127 yX10_end cX10_end 4 none 0 := ⟨Or.inl (WT_c4 158 rfl rfl), WT_c4 161 rfl rfl, WT_c1 6 rfl rfl, by decide +kernel, by decide +kernel, by decide +kernel⟩
theorem yi_X1_127 : Cond.instanceMethod yX10_end ∈ WT := WT_c4 159 rfl rfl
theorem yv_X1_127 : YV RX1 127 yX10_end cX10_end 4 none 0 10 := ⟨yb_X1_127, yi_X1_127, WT_c4 160 rfl rfl, by decide⟩
theorem yb_X1_130 : YB RX1 130 yX1_write cX1_write 4 none 1 := ⟨Or.inl (WT_c4 162 rfl rfl), WT_c4 165 rfl rfl, WT_c1 8 rfl rfl, by decide +kernel, by decide +kernel, by decide +kernel⟩
theorem yi_X1_130 : Cond.instanceMethod yX1_write ∈ WT := WT_c4 164 rfl rfl
theorem yv_X1_130 : YV RX1 130 yX1_write cX1_write 4 none 1 1 := ⟨yb_X1_130, yi_X1_130, WT_sel 37 (by decide +kernel) rfl, by decide⟩
theorem yb_X1_53 : YB RX1 53 yX1_turnTo cX1_turnTo 4 none 1 := ⟨Or.inl (WT_c4 13 rfl rfl), WT_c4 16 rfl rfl, WT_c1 8 rfl rfl, by decide +kernel, by decide +kernel, by decide +kernel⟩
theorem yi_X1_53 : Cond.instanceMethod yX1_turnTo ∈ WT := WT_c4 15 rfl rfl
theorem yv_X1_53 : YV RX1 53 yX1_turnTo cX1_turnTo 4 none 1 1 := ⟨yb_X1_53, yi_X1_53, WT_sel 17 (by decide +kernel) rfl, by decide⟩
theorem yb_X1_57 : YB RX1 57 yX1_placeReadings cX1_placeReadings 3 none 1 := ⟨Or.inl (WT_c4 31 rfl rfl), WT_c4 34 rfl rfl, WT_c1 8 rfl rfl, by decide +kernel, by decide +kernel, by decide +kernel⟩
theorem yi_X1_57 : Cond.instanceMethod yX1_placeReadings ∈ WT := WT_c4 33 rfl rfl
theorem yv_X1_57 : YV RX1 57 yX1_placeReadings cX1_placeReadings 3 none 1 1 := ⟨yb_X1_57, yi_X1_57, WT_sel 18 (by decide +kernel) rfl, by decide⟩
theorem yb_X1_60 : YB RX1 60 yX1_workAgain cX1_workAgain 6 none 2 := ⟨Or.inl (WT_c4 39 rfl rfl), WT_c4 42 rfl rfl, WT_c1 8 rfl rfl, by decide +kernel, by decide +kernel, by decide +kernel⟩
theorem yi_X1_60 : Cond.instanceMethod yX1_workAgain ∈ WT := WT_c4 40 rfl rfl
theorem yv_X1_60 : YV RX1 60 yX1_workAgain cX1_workAgain 6 none 2 1 := ⟨yb_X1_60, yi_X1_60, WT_c4 41 rfl rfl, by decide⟩
theorem gf_X1_143 : GF RX1 143 10 9 := ⟨by decide, by decide, Or.inr ⟨"SunVillage", NW_c1 159 rfl rfl⟩⟩
theorem gf_X1_144 : GF RX1 144 10 10 := ⟨by decide, by decide, Or.inr ⟨"SunVillage", NW_c1 161 rfl rfl⟩⟩
theorem gf_X1_145 : GF RX1 145 10 8 := ⟨by decide, by decide, Or.inr ⟨"SunVillage", NW_c1 157 rfl rfl⟩⟩
theorem gf_X10_144 : GF RX10 144 5 4 := ⟨by decide, by decide, Or.inr ⟨"SunVillage", NW_c2 69 rfl rfl⟩⟩
theorem gf_X10_147 : GF RX10 147 5 3 := ⟨by decide, by decide, Or.inr ⟨"SunVillage", NW_c2 67 rfl rfl⟩⟩
theorem yb_X10_97 : YB RX10 97 yX10_value cX10_value 7 (some .int) 3 := ⟨Or.inl (WT_c4 73 rfl rfl), WT_c4 76 rfl rfl, WT_c1 6 rfl rfl, by decide +kernel, by decide +kernel, by decide +kernel⟩
theorem yi_X10_97 : Cond.instanceMethod yX10_value ∈ WT := WT_c4 75 rfl rfl
theorem yv_X10_97 : YV RX10 97 yX10_value cX10_value 7 (some .int) 3 10 := ⟨yb_X10_97, yi_X10_97, WT_sel 22 (by decide +kernel) rfl, by decide⟩
theorem gm_X10_72 : Cond.methodLink RX10 72 Lib.Math.min.name ∈ WT := WT_c4 67 rfl rfl
theorem gm_X10_150 : Cond.methodLink RX10 150 Lib.Math.max.name ∈ WT := WT_c4 104 rfl rfl
theorem gf_X10_83 : GF RX10 83 7 0 := ⟨by decide, by decide, Or.inr ⟨"SunVillage", NW_c2 103 rfl rfl⟩⟩
theorem gf_X10_89 : GF RX10 89 5 2 := ⟨by decide, by decide, Or.inr ⟨"SunVillage", NW_c2 65 rfl rfl⟩⟩
theorem gf_X10_94 : GF RX10 94 5 1 := ⟨by decide, by decide, Or.inr ⟨"SunVillage", NW_c2 63 rfl rfl⟩⟩
theorem gf_X10_101 : GF RX10 101 5 0 := ⟨by decide, by decide, Or.inr ⟨"SunVillage", NW_c2 60 rfl rfl⟩⟩
theorem gs_X10_105 : Cond.fieldLink RX10 105 "SunVillage$Token" "PRICE" "LSunVillage$Token;" ∈ WT := WT_c4 98 rfl rfl
theorem gf_X10_43 : GF RX10 43 10 19 := ⟨by decide, by decide, Or.inl (WT_c1 172 rfl rfl)⟩
theorem gw_X10_43 : 10 < 13 ∧ 19 < cN 10 ∧ Cond.fieldLink RX10 43 (cT 10 19).1 (cT 10 19).2.1 (cT 10 19).2.2.1 ∈ WT := ⟨by decide, by decide, WT_c1 172 rfl rfl⟩
theorem gf_X10_110 : GF RX10 110 5 8 := ⟨by decide, by decide, Or.inr ⟨"SunVillage", NW_c2 77 rfl rfl⟩⟩
theorem gf_X10_113 : GF RX10 113 5 9 := ⟨by decide, by decide, Or.inr ⟨"SunVillage", NW_c2 79 rfl rfl⟩⟩
theorem gs_X10_116 : Cond.fieldLink RX10 116 "SunVillage$Token" "FILL" "LSunVillage$Token;" ∈ WT := WT_c4 99 rfl rfl
theorem gf_X10_66 : GF RX10 66 10 4 := ⟨by decide, by decide, Or.inl (WT_c1 152 rfl rfl)⟩
theorem gw_X10_66 : 10 < 13 ∧ 4 < cN 10 ∧ Cond.fieldLink RX10 66 (cT 10 4).1 (cT 10 4).2.1 (cT 10 4).2.2.1 ∈ WT := ⟨by decide, by decide, WT_c1 152 rfl rfl⟩
theorem yb_X10_119 : YB RX10 119 yX10_amount cX10_amount 4 (some .int) 3 := ⟨Or.inl (WT_c4 100 rfl rfl), WT_c4 103 rfl rfl, WT_c1 6 rfl rfl, by decide +kernel, by decide +kernel, by decide +kernel⟩
theorem yi_X10_119 : Cond.instanceMethod yX10_amount ∈ WT := WT_c4 102 rfl rfl
theorem yv_X10_119 : YV RX10 119 yX10_amount cX10_amount 4 (some .int) 3 10 := ⟨yb_X10_119, yi_X10_119, WT_sel 25 (by decide +kernel) rfl, by decide⟩
theorem yb_X10_123 : YB RX10 123 yX10_fill cX10_fill 4 none 2 := ⟨Or.inl (WT_c4 105 rfl rfl), WT_c4 108 rfl rfl, WT_c1 6 rfl rfl, by decide +kernel, by decide +kernel, by decide +kernel⟩
theorem yi_X10_123 : Cond.instanceMethod yX10_fill ∈ WT := WT_c4 107 rfl rfl
theorem yv_X10_123 : YV RX10 123 yX10_fill cX10_fill 4 none 2 10 := ⟨yb_X10_123, yi_X10_123, WT_sel 26 (by decide +kernel) rfl, by decide⟩
theorem gf_X10_127 : GF RX10 127 5 5 := ⟨by decide, by decide, Or.inr ⟨"SunVillage", NW_c2 71 rfl rfl⟩⟩
theorem gs_X10_130 : Cond.fieldLink RX10 130 "SunVillage$Token" "POOL" "LSunVillage$Token;" ∈ WT := WT_c4 92 rfl rfl
theorem gf_X10_69 : GF RX10 69 10 5 := ⟨by decide, by decide, Or.inl (WT_c1 153 rfl rfl)⟩
theorem gw_X10_69 : 10 < 13 ∧ 5 < cN 10 ∧ Cond.fieldLink RX10 69 (cT 10 5).1 (cT 10 5).2.1 (cT 10 5).2.2.1 ∈ WT := ⟨by decide, by decide, WT_c1 153 rfl rfl⟩
theorem yb_X10_133 : YB RX10 133 yX10_give cX10_give 12 none 3 := ⟨Or.inl (WT_c4 109 rfl rfl), WT_c4 112 rfl rfl, WT_c1 6 rfl rfl, by decide +kernel, by decide +kernel, by decide +kernel⟩
theorem yi_X10_133 : Cond.instanceMethod yX10_give ∈ WT := WT_c4 111 rfl rfl
theorem yv_X10_133 : YV RX10 133 yX10_give cX10_give 12 none 3 10 := ⟨yb_X10_133, yi_X10_133, WT_sel 27 (by decide +kernel) rfl, by decide⟩
theorem gf_X10_57 : GF RX10 57 10 3 := ⟨by decide, by decide, Or.inl (WT_c1 151 rfl rfl)⟩
theorem gw_X10_57 : 10 < 13 ∧ 3 < cN 10 ∧ Cond.fieldLink RX10 57 (cT 10 3).1 (cT 10 3).2.1 (cT 10 3).2.2.1 ∈ WT := ⟨by decide, by decide, WT_c1 151 rfl rfl⟩
theorem gf_X10_60 : GF RX10 60 10 16 := ⟨by decide, by decide, Or.inl (WT_c1 167 rfl rfl)⟩
theorem gw_X10_60 : 10 < 13 ∧ 16 < cN 10 ∧ Cond.fieldLink RX10 60 (cT 10 16).1 (cT 10 16).2.1 (cT 10 16).2.2.1 ∈ WT := ⟨by decide, by decide, WT_c1 167 rfl rfl⟩
theorem gf_X10_63 : GF RX10 63 10 17 := ⟨by decide, by decide, Or.inl (WT_c1 168 rfl rfl)⟩
theorem gw_X10_63 : 10 < 13 ∧ 17 < cN 10 ∧ Cond.fieldLink RX10 63 (cT 10 17).1 (cT 10 17).2.1 (cT 10 17).2.2.1 ∈ WT := ⟨by decide, by decide, WT_c1 168 rfl rfl⟩
theorem gf_X10_9 : GF RX10 9 10 6 := ⟨by decide, by decide, Or.inl (WT_c1 154 rfl rfl)⟩
theorem gw_X10_9 : 10 < 13 ∧ 6 < cN 10 ∧ Cond.fieldLink RX10 9 (cT 10 6).1 (cT 10 6).2.1 (cT 10 6).2.2.1 ∈ WT := ⟨by decide, by decide, WT_c1 154 rfl rfl⟩
theorem gf_X10_15 : GF RX10 15 10 7 := ⟨by decide, by decide, Or.inl (WT_c1 155 rfl rfl)⟩
theorem gw_X10_15 : 10 < 13 ∧ 7 < cN 10 ∧ Cond.fieldLink RX10 15 (cT 10 7).1 (cT 10 7).2.1 (cT 10 7).2.2.1 ∈ WT := ⟨by decide, by decide, WT_c1 155 rfl rfl⟩
theorem gf_X10_46 : GF RX10 46 10 0 := ⟨by decide, by decide, Or.inl (WT_c1 148 rfl rfl)⟩
theorem gw_X10_46 : 10 < 13 ∧ 0 < cN 10 ∧ Cond.fieldLink RX10 46 (cT 10 0).1 (cT 10 0).2.1 (cT 10 0).2.2.1 ∈ WT := ⟨by decide, by decide, WT_c1 148 rfl rfl⟩
theorem gf_X10_78 : GF RX10 78 2 1 := ⟨by decide, by decide, Or.inr ⟨"SunVillage", NW_c1 42 rfl rfl⟩⟩
theorem gf_X10_18 : GF RX10 18 10 8 := ⟨by decide, by decide, Or.inl (WT_c1 156 rfl rfl)⟩
theorem gw_X10_18 : 10 < 13 ∧ 8 < cN 10 ∧ Cond.fieldLink RX10 18 (cT 10 8).1 (cT 10 8).2.1 (cT 10 8).2.2.1 ∈ WT := ⟨by decide, by decide, WT_c1 156 rfl rfl⟩
theorem gf_X10_21 : GF RX10 21 10 9 := ⟨by decide, by decide, Or.inl (WT_c1 158 rfl rfl)⟩
theorem gw_X10_21 : 10 < 13 ∧ 9 < cN 10 ∧ Cond.fieldLink RX10 21 (cT 10 9).1 (cT 10 9).2.1 (cT 10 9).2.2.1 ∈ WT := ⟨by decide, by decide, WT_c1 158 rfl rfl⟩
theorem gf_X10_24 : GF RX10 24 10 10 := ⟨by decide, by decide, Or.inl (WT_c1 160 rfl rfl)⟩
theorem gw_X10_24 : 10 < 13 ∧ 10 < cN 10 ∧ Cond.fieldLink RX10 24 (cT 10 10).1 (cT 10 10).2.1 (cT 10 10).2.2.1 ∈ WT := ⟨by decide, by decide, WT_c1 160 rfl rfl⟩
theorem gf_X10_40 : GF RX10 40 10 18 := ⟨by decide, by decide, Or.inl (WT_c1 170 rfl rfl)⟩
theorem gw_X10_40 : 10 < 13 ∧ 18 < cN 10 ∧ Cond.fieldLink RX10 40 (cT 10 18).1 (cT 10 18).2.1 (cT 10 18).2.2.1 ∈ WT := ⟨by decide, by decide, WT_c1 170 rfl rfl⟩
theorem gf_X10_198 : GF RX10 198 10 12 := ⟨by decide, by decide, Or.inl (WT_c1 163 rfl rfl)⟩
theorem gw_X10_198 : 10 < 13 ∧ 12 < cN 10 ∧ Cond.fieldLink RX10 198 (cT 10 12).1 (cT 10 12).2.1 (cT 10 12).2.2.1 ∈ WT := ⟨by decide, by decide, WT_c1 163 rfl rfl⟩
theorem gf_X10_137 : GF RX10 137 2 2 := ⟨by decide, by decide, Or.inr ⟨"SunVillage", NW_c1 46 rfl rfl⟩⟩
theorem yb_X10_140 : YB RX10 140 yX10_room cX10_room 2 (some .int) 1 := ⟨Or.inl (WT_c4 117 rfl rfl), WT_c4 120 rfl rfl, WT_c1 6 rfl rfl, by decide +kernel, by decide +kernel, by decide +kernel⟩
theorem yi_X10_140 : Cond.instanceMethod yX10_room ∈ WT := WT_c4 119 rfl rfl
theorem yv_X10_140 : YV RX10 140 yX10_room cX10_room 2 (some .int) 1 10 := ⟨yb_X10_140, yi_X10_140, WT_sel 29 (by decide +kernel) rfl, by decide⟩
theorem gf_X10_211 : GF RX10 211 5 6 := ⟨by decide, by decide, Or.inr ⟨"SunVillage", NW_c2 73 rfl rfl⟩⟩
theorem gs_X10_214 : Cond.fieldLink RX10 214 "SunVillage$Token" "HOUSE" "LSunVillage$Token;" ∈ WT := WT_c4 121 rfl rfl
theorem gf_X10_27 : GF RX10 27 10 11 := ⟨by decide, by decide, Or.inl (WT_c1 162 rfl rfl)⟩
theorem gw_X10_27 : 10 < 13 ∧ 11 < cN 10 ∧ Cond.fieldLink RX10 27 (cT 10 11).1 (cT 10 11).2.1 (cT 10 11).2.2.1 ∈ WT := ⟨by decide, by decide, WT_c1 162 rfl rfl⟩
theorem gs_X10_217 : Cond.fieldLink RX10 217 "SunVillage$Token" "LEAST" "LSunVillage$Token;" ∈ WT := WT_c4 122 rfl rfl
theorem yb_X10_220 : YB RX10 220 yX10_keepLeast cX10_keepLeast 4 none 1 := ⟨Or.inl (WT_c4 123 rfl rfl), WT_c4 126 rfl rfl, WT_c1 6 rfl rfl, by decide +kernel, by decide +kernel, by decide +kernel⟩
theorem yi_X10_220 : Cond.instanceMethod yX10_keepLeast ∈ WT := WT_c4 125 rfl rfl
theorem yv_X10_220 : YV RX10 220 yX10_keepLeast cX10_keepLeast 4 none 1 10 := ⟨yb_X10_220, yi_X10_220, WT_sel 30 (by decide +kernel) rfl, by decide⟩
theorem gf_X10_54 : GF RX10 54 10 2 := ⟨by decide, by decide, Or.inl (WT_c1 150 rfl rfl)⟩
theorem gw_X10_54 : 10 < 13 ∧ 2 < cN 10 ∧ Cond.fieldLink RX10 54 (cT 10 2).1 (cT 10 2).2.1 (cT 10 2).2.2.1 ∈ WT := ⟨by decide, by decide, WT_c1 150 rfl rfl⟩
theorem gf_X10_50 : GF RX10 50 10 1 := ⟨by decide, by decide, Or.inl (WT_c1 149 rfl rfl)⟩
theorem gw_X10_50 : 10 < 13 ∧ 1 < cN 10 ∧ Cond.fieldLink RX10 50 (cT 10 1).1 (cT 10 1).2.1 (cT 10 1).2.2.1 ∈ WT := ⟨by decide, by decide, WT_c1 149 rfl rfl⟩
theorem yb_X10_187 : YB RX10 187 yX10_choose cX10_choose 3 none 1 := ⟨Or.inl (WT_c4 113 rfl rfl), WT_c4 116 rfl rfl, WT_c1 6 rfl rfl, by decide +kernel, by decide +kernel, by decide +kernel⟩
theorem yi_X10_187 : Cond.instanceMethod yX10_choose ∈ WT := WT_c4 115 rfl rfl
theorem yv_X10_187 : YV RX10 187 yX10_choose cX10_choose 3 none 1 10 := ⟨yb_X10_187, yi_X10_187, WT_sel 28 (by decide +kernel) rfl, by decide⟩
theorem gf_X10_191 : GF RX10 191 5 7 := ⟨by decide, by decide, Or.inr ⟨"SunVillage", NW_c2 75 rfl rfl⟩⟩
theorem yb_X10_194 : YB RX10 194 yX10_weigh cX10_weigh 6 (some .long) 1 := ⟨Or.inl (WT_c4 131 rfl rfl), WT_c4 134 rfl rfl, WT_c1 6 rfl rfl, by decide +kernel, by decide +kernel, by decide +kernel⟩
theorem yi_X10_194 : Cond.instanceMethod yX10_weigh ∈ WT := WT_c4 133 rfl rfl
theorem yv_X10_194 : YV RX10 194 yX10_weigh cX10_weigh 6 (some .long) 1 10 := ⟨yb_X10_194, yi_X10_194, WT_sel 32 (by decide +kernel) rfl, by decide⟩
theorem gf_X10_34 : GF RX10 34 10 14 := ⟨by decide, by decide, Or.inl (WT_c1 165 rfl rfl)⟩
theorem gw_X10_34 : 10 < 13 ∧ 14 < cN 10 ∧ Cond.fieldLink RX10 34 (cT 10 14).1 (cT 10 14).2.1 (cT 10 14).2.2.1 ∈ WT := ⟨by decide, by decide, WT_c1 165 rfl rfl⟩
theorem gm_X10_201 : Cond.methodLink RX10 201 Lib.MathLoose.min_long.x ∈ WT := WT_c4 137 rfl rfl
theorem yb_X10_204 : YB RX10 204 yX10_hand cX10_hand 5 none 4 := ⟨Or.inl (WT_c4 140 rfl rfl), WT_c4 143 rfl rfl, WT_c1 6 rfl rfl, by decide +kernel, by decide +kernel, by decide +kernel⟩
theorem yi_X10_204 : Cond.instanceMethod yX10_hand ∈ WT := WT_c4 142 rfl rfl
theorem yv_X10_204 : YV RX10 204 yX10_hand cX10_hand 5 none 4 10 := ⟨yb_X10_204, yi_X10_204, WT_sel 33 (by decide +kernel) rfl, by decide⟩
theorem yb_X10_208 : YB RX10 208 yX10_handRest cX10_handRest 6 none 3 := ⟨Or.inl (WT_c4 144 rfl rfl), WT_c4 147 rfl rfl, WT_c1 6 rfl rfl, by decide +kernel, by decide +kernel, by decide +kernel⟩
theorem yi_X10_208 : Cond.instanceMethod yX10_handRest ∈ WT := WT_c4 146 rfl rfl
theorem yv_X10_208 : YV RX10 208 yX10_handRest cX10_handRest 6 none 3 10 := ⟨yb_X10_208, yi_X10_208, WT_sel 34 (by decide +kernel) rfl, by decide⟩
theorem gf_X10_236 : GF RX10 236 7 2 := ⟨by decide, by decide, Or.inr ⟨"SunVillage", NW_c2 111 rfl rfl⟩⟩
theorem gs_X10_239 : Cond.fieldLink RX10 239 "SunVillage$Token" "MOST" "LSunVillage$Token;" ∈ WT := WT_c4 148 rfl rfl
theorem yb_X10_242 : YB RX10 242 yX10_sortByWant cX10_sortByWant 4 none 0 := ⟨Or.inl (WT_c4 149 rfl rfl), WT_c4 152 rfl rfl, WT_c1 6 rfl rfl, by decide +kernel, by decide +kernel, by decide +kernel⟩
theorem yi_X10_242 : Cond.instanceMethod yX10_sortByWant ∈ WT := WT_c4 151 rfl rfl
theorem yv_X10_242 : YV RX10 242 yX10_sortByWant cX10_sortByWant 4 none 0 10 := ⟨yb_X10_242, yi_X10_242, WT_sel 35 (by decide +kernel) rfl, by decide⟩
theorem gs_X10_245 : Cond.fieldLink RX10 245 "SunVillage$Token" "TURN" "LSunVillage$Token;" ∈ WT := WT_c4 153 rfl rfl
theorem yb_X10_248 : YB RX10 248 yX10_handOnes cX10_handOnes 9 (some .int) 5 := ⟨Or.inl (WT_c4 154 rfl rfl), WT_c4 157 rfl rfl, WT_c1 6 rfl rfl, by decide +kernel, by decide +kernel, by decide +kernel⟩
theorem yi_X10_248 : Cond.instanceMethod yX10_handOnes ∈ WT := WT_c4 156 rfl rfl
theorem yv_X10_248 : YV RX10 248 yX10_handOnes cX10_handOnes 9 (some .int) 5 10 := ⟨yb_X10_248, yi_X10_248, WT_sel 36 (by decide +kernel) rfl, by decide⟩
theorem go_X10_3 : Cond.methodLink RX10 3 Lib.objectInit ∈ WT := WT_c1 147 rfl rfl
theorem gf_X10_30 : GF RX10 30 10 13 := ⟨by decide, by decide, Or.inl (WT_c1 164 rfl rfl)⟩
theorem gw_X10_30 : 10 < 13 ∧ 13 < cN 10 ∧ Cond.fieldLink RX10 30 (cT 10 13).1 (cT 10 13).2.1 (cT 10 13).2.2.1 ∈ WT := ⟨by decide, by decide, WT_c1 164 rfl rfl⟩
theorem gf_X10_37 : GF RX10 37 10 15 := ⟨by decide, by decide, Or.inl (WT_c1 166 rfl rfl)⟩
theorem gw_X10_37 : 10 < 13 ∧ 15 < cN 10 ∧ Cond.fieldLink RX10 37 (cT 10 15).1 (cT 10 15).2.1 (cT 10 15).2.2.1 ∈ WT := ⟨by decide, by decide, WT_c1 166 rfl rfl⟩
theorem gs_X10_156 : Cond.fieldLink RX10 156 "SunVillage$Token" "PLUS" "LSunVillage$Token;" ∈ WT := WT_c4 77 rfl rfl
theorem gt_X10_159 : Cond.fieldLink RX10 159 "SunVillage$Token" "code" "I" ∈ WT ∨ ∃ host, Cond.fieldLinkNest RX10 159 "SunVillage$Token" "code" "I" host ∈ NWs := Or.inr ⟨"SunVillage", NW_c7 100 rfl rfl⟩
theorem gs_X10_168 : Cond.fieldLink RX10 168 "SunVillage$Token" "MINUS" "LSunVillage$Token;" ∈ WT := WT_c4 81 rfl rfl
theorem gs_X10_171 : Cond.fieldLink RX10 171 "SunVillage$Token" "LESS" "LSunVillage$Token;" ∈ WT := WT_c4 83 rfl rfl
theorem yb_X10_224 : YB RX10 224 yX10_chosenAhead cX10_chosenAhead 6 (some .int) 1 := ⟨Or.inl (WT_c4 127 rfl rfl), WT_c4 130 rfl rfl, WT_c1 6 rfl rfl, by decide +kernel, by decide +kernel, by decide +kernel⟩
theorem yi_X10_224 : Cond.instanceMethod yX10_chosenAhead ∈ WT := WT_c4 129 rfl rfl
theorem yv_X10_224 : YV RX10 224 yX10_chosenAhead cX10_chosenAhead 6 (some .int) 1 10 := ⟨yb_X10_224, yi_X10_224, WT_sel 31 (by decide +kernel) rfl, by decide⟩
theorem gs_X10_174 : Cond.fieldLink RX10 174 "SunVillage$Token" "HOUR" "LSunVillage$Token;" ∈ WT := WT_c4 88 rfl rfl
theorem gs_X10_177 : Cond.fieldLink RX10 177 "SunVillage$Token" "DAY" "LSunVillage$Token;" ∈ WT := WT_c4 90 rfl rfl
theorem gs_X10_180 : Cond.fieldLink RX10 180 "SunVillage$Token" "STORE" "LSunVillage$Token;" ∈ WT := WT_c4 93 rfl rfl
theorem yb_X10_183 : YB RX10 183 yX10_wantOfAll cX10_wantOfAll 3 (some .int) 0 := ⟨Or.inl (WT_c4 94 rfl rfl), WT_c4 97 rfl rfl, WT_c1 6 rfl rfl, by decide +kernel, by decide +kernel, by decide +kernel⟩
theorem yi_X10_183 : Cond.instanceMethod yX10_wantOfAll ∈ WT := WT_c4 96 rfl rfl
theorem yv_X10_183 : YV RX10 183 yX10_wantOfAll cX10_wantOfAll 3 (some .int) 0 10 := ⟨yb_X10_183, yi_X10_183, WT_sel 24 (by decide +kernel) rfl, by decide⟩
theorem gf_X10_153 : GF RX10 153 7 3 := ⟨by decide, by decide, Or.inr ⟨"SunVillage", NW_c2 113 rfl rfl⟩⟩
theorem yb_X10_161 : YB RX10 161 yX10_joined cX10_joined 4 (some .int) 3 := ⟨Or.inl (WT_c4 78 rfl rfl), WT_c4 80 rfl rfl, WT_c1 6 rfl rfl, by decide +kernel, by decide +kernel, by decide +kernel⟩
theorem ys_X10_161 : Cond.static yX10_joined ∈ WT := WT_c4 79 rfl rfl
theorem yb_X10_165 : YB RX10 165 yX10_measured cX10_measured 2 (some .int) 1 := ⟨Or.inl (WT_c4 84 rfl rfl), WT_c4 87 rfl rfl, WT_c1 6 rfl rfl, by decide +kernel, by decide +kernel, by decide +kernel⟩
theorem yi_X10_165 : Cond.instanceMethod yX10_measured ∈ WT := WT_c4 86 rfl rfl
theorem yv_X10_165 : YV RX10 165 yX10_measured cX10_measured 2 (some .int) 1 10 := ⟨yb_X10_165, yi_X10_165, WT_sel 23 (by decide +kernel) rfl, by decide⟩
theorem gs_X10_227 : Cond.fieldLink RX10 227 "SunVillage$Token" "HEADS" "LSunVillage$Token;" ∈ WT := WT_c4 135 rfl rfl
theorem gs_X10_230 : Cond.fieldLink RX10 230 "SunVillage$Token" "WANTS" "LSunVillage$Token;" ∈ WT := WT_c4 136 rfl rfl
theorem gf_X10_233 : GF RX10 233 2 0 := ⟨by decide, by decide, Or.inr ⟨"SunVillage", NW_c1 40 rfl rfl⟩⟩
theorem gf_X11_70 : GF RX11 70 11 7 := ⟨by decide, by decide, Or.inl (WT_c2 140 rfl rfl)⟩
theorem gw_X11_70 : 11 < 13 ∧ 7 < cN 11 ∧ Cond.fieldLink RX11 70 (cT 11 7).1 (cT 11 7).2.1 (cT 11 7).2.2.1 ∈ WT := ⟨by decide, by decide, WT_c2 140 rfl rfl⟩
theorem gf_X11_187 : GF RX11 187 0 1 := ⟨by decide, by decide, Or.inr ⟨"SunVillage", NW_c2 41 rfl rfl⟩⟩
theorem yb_X11_40 : YB RX11 40 yX11_isIn cX11_isIn 3 (some .boolean) 3 := ⟨Or.inl (WT_c1 141 rfl rfl), WT_c1 143 rfl rfl, WT_c1 1 rfl rfl, by decide +kernel, by decide +kernel, by decide +kernel⟩
theorem ys_X11_40 : Cond.static yX11_isIn ∈ WT := WT_c1 142 rfl rfl
theorem gf_X11_10 : GF RX11 10 11 0 := ⟨by decide, by decide, Or.inl (WT_c2 133 rfl rfl)⟩
theorem gw_X11_10 : 11 < 13 ∧ 0 < cN 11 ∧ Cond.fieldLink RX11 10 (cT 11 0).1 (cT 11 0).2.1 (cT 11 0).2.2.1 ∈ WT := ⟨by decide, by decide, WT_c2 133 rfl rfl⟩
theorem gf_X11_92 : GF RX11 92 2 2 := ⟨by decide, by decide, Or.inr ⟨"SunVillage", NW_c1 45 rfl rfl⟩⟩
theorem gc_X11_136 : Cond.classLink RX11 136 "java/util/NoSuchElementException" ∈ WT := WT_c4 228 rfl rfl
theorem gf_X11_196 : GF RX11 196 0 0 := ⟨by decide, by decide, Or.inr ⟨"SunVillage", NW_c2 39 rfl rfl⟩⟩
theorem yb_X11_199 : YB RX11 199 yX0_slot cX0_slot 2 (some .int) 2 := ⟨Or.inl (WT_c5 72 rfl rfl), WT_c4 208 rfl rfl, WT_c1 9 rfl rfl, by decide +kernel, by decide +kernel, by decide +kernel⟩
theorem ys_X11_199 : Cond.static yX0_slot ∈ WT := WT_c4 207 rfl rfl
theorem gf_X11_63 : GF RX11 63 11 6 := ⟨by decide, by decide, Or.inl (WT_c2 139 rfl rfl)⟩
theorem gw_X11_63 : 11 < 13 ∧ 6 < cN 11 ∧ Cond.fieldLink RX11 63 (cT 11 6).1 (cT 11 6).2.1 (cT 11 6).2.2.1 ∈ WT := ⟨by decide, by decide, WT_c2 139 rfl rfl⟩
theorem gf_X11_104 : GF RX11 104 11 11 := ⟨by decide, by decide, Or.inl (WT_c2 144 rfl rfl)⟩
theorem gw_X11_104 : 11 < 13 ∧ 11 < cN 11 ∧ Cond.fieldLink RX11 104 (cT 11 11).1 (cT 11 11).2.1 (cT 11 11).2.2.1 ∈ WT := ⟨by decide, by decide, WT_c2 144 rfl rfl⟩
theorem yb_X11_143 : YB RX11 143 yX1_workTo cX1_workTo 4 none 2 := ⟨Or.inl (WT_c4 9 rfl rfl), WT_c4 12 rfl rfl, WT_c1 8 rfl rfl, by decide +kernel, by decide +kernel, by decide +kernel⟩
theorem yi_X11_143 : Cond.instanceMethod yX1_workTo ∈ WT := WT_c4 10 rfl rfl
theorem yv_X11_143 : YV RX11 143 yX1_workTo cX1_workTo 4 none 2 1 := ⟨yb_X11_143, yi_X11_143, WT_c4 11 rfl rfl, by decide⟩
theorem yb_X11_190 : YB RX11 190 yX1_coinsUpTo cX1_coinsUpTo 5 (some .int) 2 := ⟨Or.inl (WT_c4 182 rfl rfl), WT_c4 185 rfl rfl, WT_c1 8 rfl rfl, by decide +kernel, by decide +kernel, by decide +kernel⟩
theorem yi_X11_190 : Cond.instanceMethod yX1_coinsUpTo ∈ WT := WT_c4 183 rfl rfl
theorem yv_X11_190 : YV RX11 190 yX1_coinsUpTo cX1_coinsUpTo 5 (some .int) 2 1 := ⟨yb_X11_190, yi_X11_190, WT_c4 184 rfl rfl, by decide⟩
theorem yb_X11_193 : YB RX11 193 yX0_write cX0_write 5 none 2 := ⟨Or.inl (WT_c4 202 rfl rfl), WT_c4 205 rfl rfl, WT_c1 9 rfl rfl, by decide +kernel, by decide +kernel, by decide +kernel⟩
theorem yi_X11_193 : Cond.instanceMethod yX0_write ∈ WT := WT_c4 203 rfl rfl
theorem yv_X11_193 : YV RX11 193 yX0_write cX0_write 5 none 2 0 := ⟨yb_X11_193, yi_X11_193, WT_c4 204 rfl rfl, by decide⟩
theorem yb_X11_101 : YB RX11 101 yX11_isQuarter cX11_isQuarter 1 (some .boolean) 1 := ⟨Or.inl (WT_c2 190 rfl rfl), WT_c2 192 rfl rfl, WT_c1 1 rfl rfl, by decide +kernel, by decide +kernel, by decide +kernel⟩
theorem ys_X11_101 : Cond.static yX11_isQuarter ∈ WT := WT_c2 191 rfl rfl
theorem yb_X11_97 : YB RX11 97 yX2_has cX2_has 2 (some .boolean) 1 := ⟨Or.inl (WT_c2 185 rfl rfl), WT_c2 188 rfl rfl, WT_c1 2 rfl rfl, by decide +kernel, by decide +kernel, by decide +kernel⟩
theorem yi_X11_97 : Cond.instanceMethod yX2_has ∈ WT := WT_c2 186 rfl rfl
theorem yv_X11_97 : YV RX11 97 yX2_has cX2_has 2 (some .boolean) 1 2 := ⟨yb_X11_97, yi_X11_97, WT_c2 187 rfl rfl, by decide⟩
theorem gf_X11_54 : GF RX11 54 11 5 := ⟨by decide, by decide, Or.inl (WT_c2 138 rfl rfl)⟩
theorem gw_X11_54 : 11 < 13 ∧ 5 < cN 11 ∧ Cond.fieldLink RX11 54 (cT 11 5).1 (cT 11 5).2.1 (cT 11 5).2.2.1 ∈ WT := ⟨by decide, by decide, WT_c2 138 rfl rfl⟩
theorem yb_X11_139 : YB RX11 139 yX11_dayOfLooks cX11_dayOfLooks 1 (some .int) 0 := ⟨Or.inl (WT_c4 0 rfl rfl), WT_c4 3 rfl rfl, WT_c1 1 rfl rfl, by decide +kernel, by decide +kernel, by decide +kernel⟩
theorem yi_X11_139 : Cond.instanceMethod yX11_dayOfLooks ∈ WT := WT_c4 2 rfl rfl
theorem yv_X11_139 : YV RX11 139 yX11_dayOfLooks cX11_dayOfLooks 1 (some .int) 0 11 := ⟨yb_X11_139, yi_X11_139, WT_sel 16 (by decide +kernel) rfl, by decide⟩
theorem yb_X11_154 : YB RX11 154 yX8_inForce cX8_inForce 5 (some (.object "SunVillage$Text")) 2 := ⟨Or.inl (WT_c4 4 rfl rfl), WT_c4 7 rfl rfl, WT_c1 7 rfl rfl, by decide +kernel, by decide +kernel, by decide +kernel⟩
theorem yi_X11_154 : Cond.instanceMethod yX8_inForce ∈ WT := WT_c4 5 rfl rfl
theorem yv_X11_154 : YV RX11 154 yX8_inForce cX8_inForce 5 (some (.object "SunVillage$Text")) 2 8 := ⟨yb_X11_154, yi_X11_154, WT_c4 6 rfl rfl, by decide⟩
theorem gf_X11_158 : GF RX11 158 7 1 := ⟨by decide, by decide, Or.inr ⟨"SunVillage", NW_c2 109 rfl rfl⟩⟩
theorem gf_X11_159 : GF RX11 159 7 0 := ⟨by decide, by decide, Or.inr ⟨"SunVillage", NW_c2 105 rfl rfl⟩⟩
theorem gf_X11_163 : GF RX11 163 5 0 := ⟨by decide, by decide, Or.inr ⟨"SunVillage", NW_c2 62 rfl rfl⟩⟩
theorem gs_X11_169 : Cond.fieldLink RX11 169 "SunVillage$Token" "FILL" "LSunVillage$Token;" ∈ WT := WT_c4 8 rfl rfl
theorem yb_X11_174 : YB RX11 174 yX1_workAgain cX1_workAgain 6 none 2 := ⟨Or.inl (WT_c4 169 rfl rfl), WT_c4 42 rfl rfl, WT_c1 8 rfl rfl, by decide +kernel, by decide +kernel, by decide +kernel⟩
theorem yi_X11_174 : Cond.instanceMethod yX1_workAgain ∈ WT := WT_c4 40 rfl rfl
theorem yv_X11_174 : YV RX11 174 yX1_workAgain cX1_workAgain 6 none 2 1 := ⟨yb_X11_174, yi_X11_174, WT_c4 41 rfl rfl, by decide⟩
theorem gf_X11_47 : GF RX11 47 11 4 := ⟨by decide, by decide, Or.inl (WT_c2 137 rfl rfl)⟩
theorem gw_X11_47 : 11 < 13 ∧ 4 < cN 11 ∧ Cond.fieldLink RX11 47 (cT 11 4).1 (cT 11 4).2.1 (cT 11 4).2.2.1 ∈ WT := ⟨by decide, by decide, WT_c2 137 rfl rfl⟩
theorem gf_X11_177 : GF RX11 177 10 17 := ⟨by decide, by decide, Or.inr ⟨"SunVillage", NW_c1 169 rfl rfl⟩⟩
theorem gf_X11_180 : GF RX11 180 10 18 := ⟨by decide, by decide, Or.inr ⟨"SunVillage", NW_c1 171 rfl rfl⟩⟩
theorem gf_X11_19 : GF RX11 19 11 1 := ⟨by decide, by decide, Or.inl (WT_c2 134 rfl rfl)⟩
theorem gw_X11_19 : 11 < 13 ∧ 1 < cN 11 ∧ Cond.fieldLink RX11 19 (cT 11 1).1 (cT 11 1).2.1 (cT 11 1).2.2.1 ∈ WT := ⟨by decide, by decide, WT_c2 134 rfl rfl⟩
theorem gf_X11_88 : GF RX11 88 4 5 := ⟨by decide, by decide, Or.inr ⟨"SunVillage", NW_c1 72 rfl rfl⟩⟩
theorem gf_X11_91 : GF RX11 91 8 1 := ⟨by decide, by decide, Or.inr ⟨"SunVillage", NW_c1 226 rfl rfl⟩⟩
theorem gf_X11_26 : GF RX11 26 11 2 := ⟨by decide, by decide, Or.inl (WT_c2 135 rfl rfl)⟩
theorem gw_X11_26 : 11 < 13 ∧ 2 < cN 11 ∧ Cond.fieldLink RX11 26 (cT 11 2).1 (cT 11 2).2.1 (cT 11 2).2.2.1 ∈ WT := ⟨by decide, by decide, WT_c2 135 rfl rfl⟩
theorem gf_X11_121 : GF RX11 121 6 1 := ⟨by decide, by decide, Or.inr ⟨"SunVillage", NW_c1 98 rfl rfl⟩⟩
theorem yb_X11_202 : YB RX11 202 yX8_rulesOfLatest cX8_rulesOfLatest 1 (some .int) 0 := ⟨Or.inl (WT_c4 213 rfl rfl), WT_c4 216 rfl rfl, WT_c1 7 rfl rfl, by decide +kernel, by decide +kernel, by decide +kernel⟩
theorem yi_X11_202 : Cond.instanceMethod yX8_rulesOfLatest ∈ WT := WT_c4 214 rfl rfl
theorem yv_X11_202 : YV RX11 202 yX8_rulesOfLatest cX8_rulesOfLatest 1 (some .int) 0 8 := ⟨yb_X11_202, yi_X11_202, WT_c4 215 rfl rfl, by decide⟩
theorem gf_X11_74 : GF RX11 74 11 8 := ⟨by decide, by decide, Or.inl (WT_c2 141 rfl rfl)⟩
theorem gw_X11_74 : 11 < 13 ∧ 8 < cN 11 ∧ Cond.fieldLink RX11 74 (cT 11 8).1 (cT 11 8).2.1 (cT 11 8).2.2.1 ∈ WT := ⟨by decide, by decide, WT_c2 141 rfl rfl⟩
theorem gf_X11_84 : GF RX11 84 11 12 := ⟨by decide, by decide, Or.inl (WT_c2 145 rfl rfl)⟩
theorem gw_X11_84 : 11 < 13 ∧ 12 < cN 11 ∧ Cond.fieldLink RX11 84 (cT 11 12).1 (cT 11 12).2.1 (cT 11 12).2.2.1 ∈ WT := ⟨by decide, by decide, WT_c2 145 rfl rfl⟩
theorem yb_X11_117 : YB RX11 117 yX6_addBytes cX6_addBytes 5 none 1 := ⟨Or.inl (WT_c2 212 rfl rfl), WT_c2 215 rfl rfl, WT_c1 4 rfl rfl, by decide +kernel, by decide +kernel, by decide +kernel⟩
theorem yi_X11_117 : Cond.instanceMethod yX6_addBytes ∈ WT := WT_c2 213 rfl rfl
theorem yv_X11_117 : YV RX11 117 yX6_addBytes cX6_addBytes 5 none 1 6 := ⟨yb_X11_117, yi_X11_117, WT_c2 214 rfl rfl, by decide⟩
theorem yb_X11_147 : YB RX11 147 yX1_ofHouse cX1_ofHouse 5 (some .int) 3 := ⟨Or.inl (WT_c5 49 rfl rfl), WT_c5 52 rfl rfl, WT_c1 8 rfl rfl, by decide +kernel, by decide +kernel, by decide +kernel⟩
theorem yi_X11_147 : Cond.instanceMethod yX1_ofHouse ∈ WT := WT_c5 50 rfl rfl
theorem yv_X11_147 : YV RX11 147 yX1_ofHouse cX1_ofHouse 5 (some .int) 3 1 := ⟨yb_X11_147, yi_X11_147, WT_c5 51 rfl rfl, by decide⟩
theorem yb_X11_93 : YB RX11 93 yX2_add cX2_add 3 (some .int) 2 := ⟨Or.inl (WT_c2 177 rfl rfl), WT_c2 180 rfl rfl, WT_c1 2 rfl rfl, by decide +kernel, by decide +kernel, by decide +kernel⟩
theorem yi_X11_93 : Cond.instanceMethod yX2_add ∈ WT := WT_c2 178 rfl rfl
theorem yv_X11_93 : YV RX11 93 yX2_add cX2_add 3 (some .int) 2 2 := ⟨yb_X11_93, yi_X11_93, WT_c2 179 rfl rfl, by decide⟩
theorem go_X11_1 : Cond.methodLink RX11 1 Lib.objectInit ∈ WT := WT_c1 30 rfl rfl
theorem gc_X11_7 : Cond.classLink RX11 7 "SunVillage$Houses" ∈ WT := WT_c1 33 rfl rfl
theorem yb_X11_9 : YB RX11 9 yX2_init cX2_init 1 none 0 := ⟨Or.inr ⟨"SunVillage", NW_c1 35 rfl rfl⟩, WT_c1 37 rfl rfl, WT_c1 2 rfl rfl, by decide +kernel, by decide +kernel, by decide +kernel⟩
theorem yi_X11_9 : Cond.instanceMethod yX2_init ∈ WT := WT_c1 36 rfl rfl
theorem gc_X11_16 : Cond.classLink RX11 16 "SunVillage$Readings" ∈ WT := WT_c1 56 rfl rfl
theorem yb_X11_18 : YB RX11 18 yX4_init cX4_init 1 none 0 := ⟨Or.inr ⟨"SunVillage", NW_c1 58 rfl rfl⟩, WT_c1 60 rfl rfl, WT_c1 3 rfl rfl, by decide +kernel, by decide +kernel, by decide +kernel⟩
theorem yi_X11_18 : Cond.instanceMethod yX4_init ∈ WT := WT_c1 59 rfl rfl
theorem gc_X11_23 : Cond.classLink RX11 23 "SunVillage$Tape" ∈ WT := WT_c1 88 rfl rfl
theorem yb_X11_25 : YB RX11 25 yX6_init cX6_init 1 none 0 := ⟨Or.inr ⟨"SunVillage", NW_c1 90 rfl rfl⟩, WT_c1 92 rfl rfl, WT_c1 4 rfl rfl, by decide +kernel, by decide +kernel, by decide +kernel⟩
theorem yi_X11_25 : Cond.instanceMethod yX6_init ∈ WT := WT_c1 91 rfl rfl
theorem gc_X11_30 : Cond.classLink RX11 30 "SunVillage$Reader" ∈ WT := WT_c1 105 rfl rfl
theorem yb_X11_32 : YB RX11 32 yX3_init cX3_init 1 none 0 := ⟨Or.inr ⟨"SunVillage", NW_c1 107 rfl rfl⟩, WT_c1 109 rfl rfl, WT_c1 5 rfl rfl, by decide +kernel, by decide +kernel, by decide +kernel⟩
theorem yi_X11_32 : Cond.instanceMethod yX3_init ∈ WT := WT_c1 108 rfl rfl
theorem gf_X11_33 : GF RX11 33 11 3 := ⟨by decide, by decide, Or.inl (WT_c2 136 rfl rfl)⟩
theorem gw_X11_33 : 11 < 13 ∧ 3 < cN 11 ∧ Cond.fieldLink RX11 33 (cT 11 3).1 (cT 11 3).2.1 (cT 11 3).2.2.1 ∈ WT := ⟨by decide, by decide, WT_c2 136 rfl rfl⟩
theorem gc_X11_37 : Cond.classLink RX11 37 "SunVillage$Work" ∈ WT := WT_c1 138 rfl rfl
theorem gl_X11_39 : Cond.constant RX11 39 (1000000) ∈ WT := WT_c1 140 rfl rfl
theorem yb_X11_44 : YB RX11 44 yX10_init cX10_init 4 none 3 := ⟨Or.inl (WT_c1 144 rfl rfl), WT_c1 146 rfl rfl, WT_c1 6 rfl rfl, by decide +kernel, by decide +kernel, by decide +kernel⟩
theorem yi_X11_44 : Cond.instanceMethod yX10_init ∈ WT := WT_c1 145 rfl rfl
theorem gc_X11_51 : Cond.classLink RX11 51 "SunVillage$Texts" ∈ WT := WT_c1 216 rfl rfl
theorem yb_X11_53 : YB RX11 53 yX8_init cX8_init 1 none 0 := ⟨Or.inr ⟨"SunVillage", NW_c1 218 rfl rfl⟩, WT_c1 220 rfl rfl, WT_c1 7 rfl rfl, by decide +kernel, by decide +kernel, by decide +kernel⟩
theorem yi_X11_53 : Cond.instanceMethod yX8_init ∈ WT := WT_c1 219 rfl rfl
theorem gc_X11_58 : Cond.classLink RX11 58 "SunVillage$Book" ∈ WT := WT_c1 232 rfl rfl
theorem yb_X11_60 : YB RX11 60 yX1_init cX1_init 5 none 4 := ⟨Or.inl (WT_c1 234 rfl rfl), WT_c1 236 rfl rfl, WT_c1 8 rfl rfl, by decide +kernel, by decide +kernel, by decide +kernel⟩
theorem yi_X11_60 : Cond.instanceMethod yX1_init ∈ WT := WT_c1 235 rfl rfl
theorem gc_X11_67 : Cond.classLink RX11 67 "SunVillage$Bills" ∈ WT := WT_c2 32 rfl rfl
theorem yb_X11_69 : YB RX11 69 yX0_init cX0_init 1 none 0 := ⟨Or.inr ⟨"SunVillage", NW_c2 34 rfl rfl⟩, WT_c2 36 rfl rfl, WT_c1 9 rfl rfl, by decide +kernel, by decide +kernel, by decide +kernel⟩
theorem yi_X11_69 : Cond.instanceMethod yX0_init ∈ WT := WT_c2 35 rfl rfl
theorem gc_X11_77 : Cond.classLink RX11 77 "SunVillage$Text" ∈ WT := WT_c2 47 rfl rfl
theorem yb_X11_79 : YB RX11 79 yX7_init cX7_init 2 none 0 := ⟨Or.inl (WT_c2 49 rfl rfl), WT_c2 51 rfl rfl, WT_c1 10 rfl rfl, by decide +kernel, by decide +kernel, by decide +kernel⟩
theorem yi_X11_79 : Cond.instanceMethod yX7_init ∈ WT := WT_c2 50 rfl rfl
theorem gf_X11_80 : GF RX11 80 11 10 := ⟨by decide, by decide, Or.inl (WT_c2 143 rfl rfl)⟩
theorem gw_X11_80 : 11 < 13 ∧ 10 < cN 11 ∧ Cond.fieldLink RX11 80 (cT 11 10).1 (cT 11 10).2.1 (cT 11 10).2.2.1 ∈ WT := ⟨by decide, by decide, WT_c2 143 rfl rfl⟩
theorem yb_X11_125 : YB RX11 125 yX3_parse cX3_parse 5 (some .int) 3 := ⟨Or.inl (WT_c2 225 rfl rfl), WT_c2 228 rfl rfl, WT_c1 5 rfl rfl, by decide +kernel, by decide +kernel, by decide +kernel⟩
theorem yi_X11_125 : Cond.instanceMethod yX3_parse ∈ WT := WT_c2 226 rfl rfl
theorem yv_X11_125 : YV RX11 125 yX3_parse cX3_parse 5 (some .int) 3 3 := ⟨yb_X11_125, yi_X11_125, WT_c2 227 rfl rfl, by decide⟩
theorem yb_X11_132 : YB RX11 132 yX8_putOnly cX8_putOnly 3 (some (.object "SunVillage$Text")) 1 := ⟨Or.inl (WT_c3 227 rfl rfl), WT_c3 230 rfl rfl, WT_c1 7 rfl rfl, by decide +kernel, by decide +kernel, by decide +kernel⟩
theorem yi_X11_132 : Cond.instanceMethod yX8_putOnly ∈ WT := WT_c3 228 rfl rfl
theorem yv_X11_132 : YV RX11 132 yX8_putOnly cX8_putOnly 3 (some (.object "SunVillage$Text")) 1 8 := ⟨yb_X11_132, yi_X11_132, WT_c3 229 rfl rfl, by decide⟩
theorem gf_X11_114 : GF RX11 114 11 9 := ⟨by decide, by decide, Or.inl (WT_c2 142 rfl rfl)⟩
theorem gw_X11_114 : 11 < 13 ∧ 9 < cN 11 ∧ Cond.fieldLink RX11 114 (cT 11 9).1 (cT 11 9).2.1 (cT 11 9).2.2.1 ∈ WT := ⟨by decide, by decide, WT_c2 142 rfl rfl⟩
theorem yb_X11_110 : YB RX11 110 yX1_forgetFrom cX1_forgetFrom 2 none 1 := ⟨Or.inl (WT_c2 197 rfl rfl), WT_c2 200 rfl rfl, WT_c1 8 rfl rfl, by decide +kernel, by decide +kernel, by decide +kernel⟩
theorem yi_X11_110 : Cond.instanceMethod yX1_forgetFrom ∈ WT := WT_c2 198 rfl rfl
theorem yv_X11_110 : YV RX11 110 yX1_forgetFrom cX1_forgetFrom 2 none 1 1 := ⟨yb_X11_110, yi_X11_110, WT_c2 199 rfl rfl, by decide⟩
theorem yb_X11_151 : YB RX11 151 yX1_sum cX1_sum 3 (some .int) 2 := ⟨Or.inl (WT_c5 64 rfl rfl), WT_c4 46 rfl rfl, WT_c1 8 rfl rfl, by decide +kernel, by decide +kernel, by decide +kernel⟩
theorem yi_X11_151 : Cond.instanceMethod yX1_sum ∈ WT := WT_c4 44 rfl rfl
theorem yv_X11_151 : YV RX11 151 yX1_sum cX1_sum 3 (some .int) 2 1 := ⟨yb_X11_151, yi_X11_151, WT_c4 45 rfl rfl, by decide⟩
theorem yb_X11_107 : YB RX11 107 yX4_add cX4_add 6 none 5 := ⟨Or.inl (WT_c2 193 rfl rfl), WT_c2 196 rfl rfl, WT_c1 3 rfl rfl, by decide +kernel, by decide +kernel, by decide +kernel⟩
theorem yi_X11_107 : Cond.instanceMethod yX4_add ∈ WT := WT_c2 194 rfl rfl
theorem yv_X11_107 : YV RX11 107 yX4_add cX4_add 6 none 5 4 := ⟨yb_X11_107, yi_X11_107, WT_c2 195 rfl rfl, by decide⟩
theorem yb_X11_122 : YB RX11 122 yX8_canTake cX8_canTake 2 (some .boolean) 1 := ⟨Or.inl (WT_c2 221 rfl rfl), WT_c2 224 rfl rfl, WT_c1 7 rfl rfl, by decide +kernel, by decide +kernel, by decide +kernel⟩
theorem yi_X11_122 : Cond.instanceMethod yX8_canTake ∈ WT := WT_c2 222 rfl rfl
theorem yv_X11_122 : YV RX11 122 yX8_canTake cX8_canTake 2 (some .boolean) 1 8 := ⟨yb_X11_122, yi_X11_122, WT_c2 223 rfl rfl, by decide⟩
theorem yb_X11_129 : YB RX11 129 yX8_add cX8_add 4 none 3 := ⟨Or.inl (WT_c3 219 rfl rfl), WT_c3 222 rfl rfl, WT_c1 7 rfl rfl, by decide +kernel, by decide +kernel, by decide +kernel⟩
theorem yi_X11_129 : Cond.instanceMethod yX8_add ∈ WT := WT_c3 220 rfl rfl
theorem yv_X11_129 : YV RX11 129 yX8_add cX8_add 4 none 3 8 := ⟨yb_X11_129, yi_X11_129, WT_c3 221 rfl rfl, by decide⟩
theorem yb_X11_184 : YB RX11 184 yX1_byRules cX1_byRules 4 (some .int) 2 := ⟨Or.inl (WT_c4 174 rfl rfl), WT_c4 177 rfl rfl, WT_c1 8 rfl rfl, by decide +kernel, by decide +kernel, by decide +kernel⟩
theorem yi_X11_184 : Cond.instanceMethod yX1_byRules ∈ WT := WT_c4 175 rfl rfl
theorem yv_X11_184 : YV RX11 184 yX1_byRules cX1_byRules 4 (some .int) 2 1 := ⟨yb_X11_184, yi_X11_184, WT_c4 176 rfl rfl, by decide⟩
theorem gf_X12_431 : GF RX12 431 12 73 := ⟨by decide, by decide, Or.inl (WT_c5 189 rfl rfl)⟩
theorem gw_X12_431 : 12 < 13 ∧ 73 < cN 12 ∧ Cond.fieldLink RX12 431 (cT 12 73).1 (cT 12 73).2.1 (cT 12 73).2.2.1 ∈ WT := ⟨by decide, by decide, WT_c5 189 rfl rfl⟩
theorem gf_X12_300 : GF RX12 300 12 31 := ⟨by decide, by decide, Or.inl (WT_c5 147 rfl rfl)⟩
theorem gw_X12_300 : 12 < 13 ∧ 31 < cN 12 ∧ Cond.fieldLink RX12 300 (cT 12 31).1 (cT 12 31).2.1 (cT 12 31).2.2.1 ∈ WT := ⟨by decide, by decide, WT_c5 147 rfl rfl⟩
theorem gf_X12_1 : GF RX12 1 12 0 := ⟨by decide, by decide, Or.inl (WT_c5 116 rfl rfl)⟩
theorem gw_X12_1 : 12 < 13 ∧ 0 < cN 12 ∧ Cond.fieldLink RX12 1 (cT 12 0).1 (cT 12 0).2.1 (cT 12 0).2.2.1 ∈ WT := ⟨by decide, by decide, WT_c5 116 rfl rfl⟩
theorem gf_X12_215 : GF RX12 215 12 74 := ⟨by decide, by decide, Or.inl (WT_c5 190 rfl rfl)⟩
theorem gw_X12_215 : 12 < 13 ∧ 74 < cN 12 ∧ Cond.fieldLink RX12 215 (cT 12 74).1 (cT 12 74).2.1 (cT 12 74).2.2.1 ∈ WT := ⟨by decide, by decide, WT_c5 190 rfl rfl⟩
theorem gf_X12_337 : GF RX12 337 12 40 := ⟨by decide, by decide, Or.inl (WT_c5 156 rfl rfl)⟩
theorem gw_X12_337 : 12 < 13 ∧ 40 < cN 12 ∧ Cond.fieldLink RX12 337 (cT 12 40).1 (cT 12 40).2.1 (cT 12 40).2.2.1 ∈ WT := ⟨by decide, by decide, WT_c5 156 rfl rfl⟩
theorem yb_X12_427 : YB RX12 427 yX12_works cX12_works 5 none 3 := ⟨Or.inl (WT_c7 2 rfl rfl), WT_c7 5 rfl rfl, WT_c1 12 rfl rfl, by decide +kernel, by decide +kernel, by decide +kernel⟩
theorem yi_X12_427 : Cond.instanceMethod yX12_works ∈ WT := WT_c7 4 rfl rfl
theorem yv_X12_427 : YV RX12 427 yX12_works cX12_works 5 none 3 12 := ⟨yb_X12_427, yi_X12_427, WT_sel 69 (by decide +kernel) rfl, by decide⟩
theorem gf_X12_199 : GF RX12 199 12 68 := ⟨by decide, by decide, Or.inl (WT_c5 184 rfl rfl)⟩
theorem gw_X12_199 : 12 < 13 ∧ 68 < cN 12 ∧ Cond.fieldLink RX12 199 (cT 12 68).1 (cT 12 68).2.1 (cT 12 68).2.2.1 ∈ WT := ⟨by decide, by decide, WT_c5 184 rfl rfl⟩
theorem yb_X12_424 : YB RX12 424 yX12_lookDay cX12_lookDay 1 (some .int) 0 := ⟨Or.inl (WT_c6 238 rfl rfl), WT_c7 1 rfl rfl, WT_c1 12 rfl rfl, by decide +kernel, by decide +kernel, by decide +kernel⟩
theorem yi_X12_424 : Cond.instanceMethod yX12_lookDay ∈ WT := WT_c7 0 rfl rfl
theorem yv_X12_424 : YV RX12 424 yX12_lookDay cX12_lookDay 1 (some .int) 0 12 := ⟨yb_X12_424, yi_X12_424, WT_sel 68 (by decide +kernel) rfl, by decide⟩
theorem gf_X12_360 : GF RX12 360 12 44 := ⟨by decide, by decide, Or.inl (WT_c5 160 rfl rfl)⟩
theorem gw_X12_360 : 12 < 13 ∧ 44 < cN 12 ∧ Cond.fieldLink RX12 360 (cT 12 44).1 (cT 12 44).2.1 (cT 12 44).2.2.1 ∈ WT := ⟨by decide, by decide, WT_c5 160 rfl rfl⟩
theorem gf_X12_85 : GF RX12 85 12 10 := ⟨by decide, by decide, Or.inl (WT_c5 126 rfl rfl)⟩
theorem gw_X12_85 : 12 < 13 ∧ 10 < cN 12 ∧ Cond.fieldLink RX12 85 (cT 12 10).1 (cT 12 10).2.1 (cT 12 10).2.2.1 ∈ WT := ⟨by decide, by decide, WT_c5 126 rfl rfl⟩
theorem gf_X12_94 : GF RX12 94 12 13 := ⟨by decide, by decide, Or.inl (WT_c5 129 rfl rfl)⟩
theorem gw_X12_94 : 12 < 13 ∧ 13 < cN 12 ∧ Cond.fieldLink RX12 94 (cT 12 13).1 (cT 12 13).2.1 (cT 12 13).2.2.1 ∈ WT := ⟨by decide, by decide, WT_c5 129 rfl rfl⟩
theorem gf_X12_196 : GF RX12 196 12 67 := ⟨by decide, by decide, Or.inl (WT_c5 183 rfl rfl)⟩
theorem gw_X12_196 : 12 < 13 ∧ 67 < cN 12 ∧ Cond.fieldLink RX12 196 (cT 12 67).1 (cT 12 67).2.1 (cT 12 67).2.2.1 ∈ WT := ⟨by decide, by decide, WT_c5 183 rfl rfl⟩
theorem gf_X12_172 : GF RX12 172 12 52 := ⟨by decide, by decide, Or.inl (WT_c5 168 rfl rfl)⟩
theorem gw_X12_172 : 12 < 13 ∧ 52 < cN 12 ∧ Cond.fieldLink RX12 172 (cT 12 52).1 (cT 12 52).2.1 (cT 12 52).2.2.1 ∈ WT := ⟨by decide, by decide, WT_c5 168 rfl rfl⟩
theorem gf_X12_175 : GF RX12 175 12 53 := ⟨by decide, by decide, Or.inl (WT_c5 169 rfl rfl)⟩
theorem gw_X12_175 : 12 < 13 ∧ 53 < cN 12 ∧ Cond.fieldLink RX12 175 (cT 12 53).1 (cT 12 53).2.1 (cT 12 53).2.2.1 ∈ WT := ⟨by decide, by decide, WT_c5 169 rfl rfl⟩
theorem gf_X12_205 : GF RX12 205 12 70 := ⟨by decide, by decide, Or.inl (WT_c5 186 rfl rfl)⟩
theorem gw_X12_205 : 12 < 13 ∧ 70 < cN 12 ∧ Cond.fieldLink RX12 205 (cT 12 70).1 (cT 12 70).2.1 (cT 12 70).2.2.1 ∈ WT := ⟨by decide, by decide, WT_c5 186 rfl rfl⟩
theorem yb_X12_404 : YB RX12 404 yX12_can cX12_can 2 (some .boolean) 1 := ⟨Or.inl (WT_c7 30 rfl rfl), WT_c7 33 rfl rfl, WT_c1 12 rfl rfl, by decide +kernel, by decide +kernel, by decide +kernel⟩
theorem yi_X12_404 : Cond.instanceMethod yX12_can ∈ WT := WT_c7 32 rfl rfl
theorem yv_X12_404 : YV RX12 404 yX12_can cX12_can 2 (some .boolean) 1 12 := ⟨yb_X12_404, yi_X12_404, WT_sel 76 (by decide +kernel) rfl, by decide⟩
theorem gf_X12_103 : GF RX12 103 12 16 := ⟨by decide, by decide, Or.inl (WT_c5 132 rfl rfl)⟩
theorem gw_X12_103 : 12 < 13 ∧ 16 < cN 12 ∧ Cond.fieldLink RX12 103 (cT 12 16).1 (cT 12 16).2.1 (cT 12 16).2.2.1 ∈ WT := ⟨by decide, by decide, WT_c5 132 rfl rfl⟩
theorem gf_X12_106 : GF RX12 106 12 17 := ⟨by decide, by decide, Or.inl (WT_c5 133 rfl rfl)⟩
theorem gw_X12_106 : 12 < 13 ∧ 17 < cN 12 ∧ Cond.fieldLink RX12 106 (cT 12 17).1 (cT 12 17).2.1 (cT 12 17).2.2.1 ∈ WT := ⟨by decide, by decide, WT_c5 133 rfl rfl⟩
theorem gf_X12_190 : GF RX12 190 12 58 := ⟨by decide, by decide, Or.inl (WT_c5 174 rfl rfl)⟩
theorem gw_X12_190 : 12 < 13 ∧ 58 < cN 12 ∧ Cond.fieldLink RX12 190 (cT 12 58).1 (cT 12 58).2.1 (cT 12 58).2.2.1 ∈ WT := ⟨by decide, by decide, WT_c5 174 rfl rfl⟩
theorem gf_X12_118 : GF RX12 118 12 21 := ⟨by decide, by decide, Or.inl (WT_c5 137 rfl rfl)⟩
theorem gw_X12_118 : 12 < 13 ∧ 21 < cN 12 ∧ Cond.fieldLink RX12 118 (cT 12 21).1 (cT 12 21).2.1 (cT 12 21).2.2.1 ∈ WT := ⟨by decide, by decide, WT_c5 137 rfl rfl⟩
theorem gf_X12_303 : GF RX12 303 12 26 := ⟨by decide, by decide, Or.inl (WT_c5 142 rfl rfl)⟩
theorem gw_X12_303 : 12 < 13 ∧ 26 < cN 12 ∧ Cond.fieldLink RX12 303 (cT 12 26).1 (cT 12 26).2.1 (cT 12 26).2.2.1 ∈ WT := ⟨by decide, by decide, WT_c5 142 rfl rfl⟩
theorem yb_X12_306 : YB RX12 306 yX12_expression cX12_expression 2 none 0 := ⟨Or.inl (WT_c6 154 rfl rfl), WT_c6 157 rfl rfl, WT_c1 12 rfl rfl, by decide +kernel, by decide +kernel, by decide +kernel⟩
theorem yi_X12_306 : Cond.instanceMethod yX12_expression ∈ WT := WT_c6 156 rfl rfl
theorem yv_X12_306 : YV RX12 306 yX12_expression cX12_expression 2 none 0 12 := ⟨yb_X12_306, yi_X12_306, WT_sel 53 (by decide +kernel) rfl, by decide⟩
theorem yb_X12_309 : YB RX12 309 yX12_emit cX12_emit 4 none 2 := ⟨Or.inl (WT_c6 174 rfl rfl), WT_c6 177 rfl rfl, WT_c1 12 rfl rfl, by decide +kernel, by decide +kernel, by decide +kernel⟩
theorem yi_X12_309 : Cond.instanceMethod yX12_emit ∈ WT := WT_c6 176 rfl rfl
theorem yv_X12_309 : YV RX12 309 yX12_emit cX12_emit 4 none 2 12 := ⟨yb_X12_309, yi_X12_309, WT_sel 58 (by decide +kernel) rfl, by decide⟩
theorem gf_X12_344 : GF RX12 344 12 34 := ⟨by decide, by decide, Or.inl (WT_c5 150 rfl rfl)⟩
theorem gw_X12_344 : 12 < 13 ∧ 34 < cN 12 ∧ Cond.fieldLink RX12 344 (cT 12 34).1 (cT 12 34).2.1 (cT 12 34).2.2.1 ∈ WT := ⟨by decide, by decide, WT_c5 150 rfl rfl⟩
theorem gf_X12_328 : GF RX12 328 12 22 := ⟨by decide, by decide, Or.inl (WT_c5 138 rfl rfl)⟩
theorem gw_X12_328 : 12 < 13 ∧ 22 < cN 12 ∧ Cond.fieldLink RX12 328 (cT 12 22).1 (cT 12 22).2.1 (cT 12 22).2.2.1 ∈ WT := ⟨by decide, by decide, WT_c5 138 rfl rfl⟩
theorem gf_X12_11 : GF RX12 11 12 2 := ⟨by decide, by decide, Or.inl (WT_c5 118 rfl rfl)⟩
theorem gw_X12_11 : 12 < 13 ∧ 2 < cN 12 ∧ Cond.fieldLink RX12 11 (cT 12 2).1 (cT 12 2).2.1 (cT 12 2).2.2.1 ∈ WT := ⟨by decide, by decide, WT_c5 118 rfl rfl⟩
theorem gf_X12_340 : GF RX12 340 12 25 := ⟨by decide, by decide, Or.inl (WT_c5 141 rfl rfl)⟩
theorem gw_X12_340 : 12 < 13 ∧ 25 < cN 12 ∧ Cond.fieldLink RX12 340 (cT 12 25).1 (cT 12 25).2.1 (cT 12 25).2.2.1 ∈ WT := ⟨by decide, by decide, WT_c5 141 rfl rfl⟩
theorem gf_X12_154 : GF RX12 154 12 41 := ⟨by decide, by decide, Or.inl (WT_c5 157 rfl rfl)⟩
theorem gw_X12_154 : 12 < 13 ∧ 41 < cN 12 ∧ Cond.fieldLink RX12 154 (cT 12 41).1 (cT 12 41).2.1 (cT 12 41).2.2.1 ∈ WT := ⟨by decide, by decide, WT_c5 157 rfl rfl⟩
theorem gf_X12_229 : GF RX12 229 12 3 := ⟨by decide, by decide, Or.inl (WT_c5 119 rfl rfl)⟩
theorem gw_X12_229 : 12 < 13 ∧ 3 < cN 12 ∧ Cond.fieldLink RX12 229 (cT 12 3).1 (cT 12 3).2.1 (cT 12 3).2.2.1 ∈ WT := ⟨by decide, by decide, WT_c5 119 rfl rfl⟩
theorem gf_X12_14 : GF RX12 14 12 1 := ⟨by decide, by decide, Or.inl (WT_c5 117 rfl rfl)⟩
theorem gw_X12_14 : 12 < 13 ∧ 1 < cN 12 ∧ Cond.fieldLink RX12 14 (cT 12 1).1 (cT 12 1).2.1 (cT 12 1).2.2.1 ∈ WT := ⟨by decide, by decide, WT_c5 117 rfl rfl⟩
theorem gf_X12_27 : GF RX12 27 12 5 := ⟨by decide, by decide, Or.inl (WT_c5 121 rfl rfl)⟩
theorem gw_X12_27 : 12 < 13 ∧ 5 < cN 12 ∧ Cond.fieldLink RX12 27 (cT 12 5).1 (cT 12 5).2.1 (cT 12 5).2.2.1 ∈ WT := ⟨by decide, by decide, WT_c5 121 rfl rfl⟩
theorem yb_X12_225 : YB RX12 225 yX12_isLetter cX12_isLetter 1 (some .boolean) 1 := ⟨Or.inl (WT_c6 115 rfl rfl), WT_c6 117 rfl rfl, WT_c1 12 rfl rfl, by decide +kernel, by decide +kernel, by decide +kernel⟩
theorem ys_X12_225 : Cond.static yX12_isLetter ∈ WT := WT_c6 116 rfl rfl
theorem gl_X12_232 : Cond.constantLong RX12 232 (37) ∈ WT := WT_c6 118 rfl rfl
theorem yb_X12_234 : YB RX12 234 yX12_rank cX12_rank 1 (some .int) 1 := ⟨Or.inl (WT_c6 119 rfl rfl), WT_c6 121 rfl rfl, WT_c1 12 rfl rfl, by decide +kernel, by decide +kernel, by decide +kernel⟩
theorem ys_X12_234 : Cond.static yX12_rank ∈ WT := WT_c6 120 rfl rfl
theorem gf_X12_24 : GF RX12 24 12 4 := ⟨by decide, by decide, Or.inl (WT_c5 120 rfl rfl)⟩
theorem gw_X12_24 : 12 < 13 ∧ 4 < cN 12 ∧ Cond.fieldLink RX12 24 (cT 12 4).1 (cT 12 4).2.1 (cT 12 4).2.2.1 ∈ WT := ⟨by decide, by decide, WT_c5 120 rfl rfl⟩
theorem yb_X12_238 : YB RX12 238 yX12_isDigit cX12_isDigit 1 (some .boolean) 1 := ⟨Or.inl (WT_c6 122 rfl rfl), WT_c6 124 rfl rfl, WT_c1 12 rfl rfl, by decide +kernel, by decide +kernel, by decide +kernel⟩
theorem ys_X12_238 : Cond.static yX12_isDigit ∈ WT := WT_c6 123 rfl rfl
theorem gl_X12_241 : Cond.constantLong RX12 241 (10) ∈ WT := WT_c6 125 rfl rfl
theorem gl_X12_243 : Cond.constantLong RX12 243 (48) ∈ WT := WT_c6 126 rfl rfl
theorem yb_X12_245 : YB RX12 245 yX12_isSignOf cX12_isSignOf 1 (some .boolean) 1 := ⟨Or.inl (WT_c6 127 rfl rfl), WT_c6 129 rfl rfl, WT_c1 12 rfl rfl, by decide +kernel, by decide +kernel, by decide +kernel⟩
theorem ys_X12_245 : Cond.static yX12_isSignOf ∈ WT := WT_c6 128 rfl rfl
theorem gf_X12_30 : GF RX12 30 12 6 := ⟨by decide, by decide, Or.inl (WT_c5 122 rfl rfl)⟩
theorem gw_X12_30 : 12 < 13 ∧ 6 < cN 12 ∧ Cond.fieldLink RX12 30 (cT 12 6).1 (cT 12 6).2.1 (cT 12 6).2.2.1 ∈ WT := ⟨by decide, by decide, WT_c5 122 rfl rfl⟩
theorem gf_X12_248 : GF RX12 248 12 7 := ⟨by decide, by decide, Or.inl (WT_c5 123 rfl rfl)⟩
theorem gw_X12_248 : 12 < 13 ∧ 7 < cN 12 ∧ Cond.fieldLink RX12 248 (cT 12 7).1 (cT 12 7).2.1 (cT 12 7).2.2.1 ∈ WT := ⟨by decide, by decide, WT_c5 123 rfl rfl⟩
theorem gf_X12_251 : GF RX12 251 12 8 := ⟨by decide, by decide, Or.inl (WT_c5 124 rfl rfl)⟩
theorem gw_X12_251 : 12 < 13 ∧ 8 < cN 12 ∧ Cond.fieldLink RX12 251 (cT 12 8).1 (cT 12 8).2.1 (cT 12 8).2.2.1 ∈ WT := ⟨by decide, by decide, WT_c5 124 rfl rfl⟩
theorem gf_X12_112 : GF RX12 112 12 19 := ⟨by decide, by decide, Or.inl (WT_c5 135 rfl rfl)⟩
theorem gw_X12_112 : 12 < 13 ∧ 19 < cN 12 ∧ Cond.fieldLink RX12 112 (cT 12 19).1 (cT 12 19).2.1 (cT 12 19).2.2.1 ∈ WT := ⟨by decide, by decide, WT_c5 135 rfl rfl⟩
theorem gf_X12_115 : GF RX12 115 12 20 := ⟨by decide, by decide, Or.inl (WT_c5 136 rfl rfl)⟩
theorem gw_X12_115 : 12 < 13 ∧ 20 < cN 12 ∧ Cond.fieldLink RX12 115 (cT 12 20).1 (cT 12 20).2.1 (cT 12 20).2.2.1 ∈ WT := ⟨by decide, by decide, WT_c5 136 rfl rfl⟩
theorem yb_X12_313 : YB RX12 313 yX12_opens cX12_opens 1 none 0 := ⟨Or.inl (WT_c6 158 rfl rfl), WT_c6 161 rfl rfl, WT_c1 12 rfl rfl, by decide +kernel, by decide +kernel, by decide +kernel⟩
theorem yi_X12_313 : Cond.instanceMethod yX12_opens ∈ WT := WT_c6 160 rfl rfl
theorem yv_X12_313 : YV RX12 313 yX12_opens cX12_opens 1 none 0 12 := ⟨yb_X12_313, yi_X12_313, WT_sel 54 (by decide +kernel) rfl, by decide⟩
theorem yb_X12_316 : YB RX12 316 yX12_part cX12_part 2 (some .boolean) 0 := ⟨Or.inl (WT_c6 162 rfl rfl), WT_c6 165 rfl rfl, WT_c1 12 rfl rfl, by decide +kernel, by decide +kernel, by decide +kernel⟩
theorem yi_X12_316 : Cond.instanceMethod yX12_part ∈ WT := WT_c6 164 rfl rfl
theorem yv_X12_316 : YV RX12 316 yX12_part cX12_part 2 (some .boolean) 0 12 := ⟨yb_X12_316, yi_X12_316, WT_sel 55 (by decide +kernel) rfl, by decide⟩
theorem yb_X12_319 : YB RX12 319 yX12_goesOn cX12_goesOn 1 (some .boolean) 0 := ⟨Or.inl (WT_c6 186 rfl rfl), WT_c6 189 rfl rfl, WT_c1 12 rfl rfl, by decide +kernel, by decide +kernel, by decide +kernel⟩
theorem yi_X12_319 : Cond.instanceMethod yX12_goesOn ∈ WT := WT_c6 188 rfl rfl
theorem yv_X12_319 : YV RX12 319 yX12_goesOn cX12_goesOn 1 (some .boolean) 0 12 := ⟨yb_X12_319, yi_X12_319, WT_sel 61 (by decide +kernel) rfl, by decide⟩
theorem yb_X12_7 : YB RX12 7 yX12_lay cX12_lay 5 none 1 := ⟨Or.inl (WT_c5 81 rfl rfl), WT_c5 85 rfl rfl, WT_c1 12 rfl rfl, by decide +kernel, by decide +kernel, by decide +kernel⟩
theorem yi_X12_7 : Cond.instanceMethod yX12_lay ∈ WT := WT_c5 83 rfl rfl
theorem yv_X12_7 : YV RX12 7 yX12_lay cX12_lay 5 none 1 12 := ⟨yb_X12_7, yi_X12_7, WT_sel 44 (by decide +kernel) rfl, by decide⟩
theorem gf_X12_100 : GF RX12 100 12 15 := ⟨by decide, by decide, Or.inl (WT_c5 131 rfl rfl)⟩
theorem gw_X12_100 : 12 < 13 ∧ 15 < cN 12 ∧ Cond.fieldLink RX12 100 (cT 12 15).1 (cT 12 15).2.1 (cT 12 15).2.2.1 ∈ WT := ⟨by decide, by decide, WT_c5 131 rfl rfl⟩
theorem gf_X12_369 : GF RX12 369 12 46 := ⟨by decide, by decide, Or.inl (WT_c5 162 rfl rfl)⟩
theorem gw_X12_369 : 12 < 13 ∧ 46 < cN 12 ∧ Cond.fieldLink RX12 369 (cT 12 46).1 (cT 12 46).2.1 (cT 12 46).2.2.1 ∈ WT := ⟨by decide, by decide, WT_c5 162 rfl rfl⟩
theorem gf_X12_350 : GF RX12 350 12 45 := ⟨by decide, by decide, Or.inl (WT_c5 161 rfl rfl)⟩
theorem gw_X12_350 : 12 < 13 ∧ 45 < cN 12 ∧ Cond.fieldLink RX12 350 (cT 12 45).1 (cT 12 45).2.1 (cT 12 45).2.2.1 ∈ WT := ⟨by decide, by decide, WT_c5 161 rfl rfl⟩
theorem gf_X12_97 : GF RX12 97 12 14 := ⟨by decide, by decide, Or.inl (WT_c5 130 rfl rfl)⟩
theorem gw_X12_97 : 12 < 13 ∧ 14 < cN 12 ∧ Cond.fieldLink RX12 97 (cT 12 14).1 (cT 12 14).2.1 (cT 12 14).2.2.1 ∈ WT := ⟨by decide, by decide, WT_c5 130 rfl rfl⟩
theorem yb_X12_398 : YB RX12 398 yX12_worth cX12_worth 7 (some .int) 1 := ⟨Or.inl (WT_c7 14 rfl rfl), WT_c7 17 rfl rfl, WT_c1 12 rfl rfl, by decide +kernel, by decide +kernel, by decide +kernel⟩
theorem yi_X12_398 : Cond.instanceMethod yX12_worth ∈ WT := WT_c7 16 rfl rfl
theorem yv_X12_398 : YV RX12 398 yX12_worth cX12_worth 7 (some .int) 1 12 := ⟨yb_X12_398, yi_X12_398, WT_sel 72 (by decide +kernel) rfl, by decide⟩
theorem yb_X12_407 : YB RX12 407 yX12_chooses cX12_chooses 5 (some .int) 1 := ⟨Or.inl (WT_c7 26 rfl rfl), WT_c7 29 rfl rfl, WT_c1 12 rfl rfl, by decide +kernel, by decide +kernel, by decide +kernel⟩
theorem yi_X12_407 : Cond.instanceMethod yX12_chooses ∈ WT := WT_c7 28 rfl rfl
theorem yv_X12_407 : YV RX12 407 yX12_chooses cX12_chooses 5 (some .int) 1 12 := ⟨yb_X12_407, yi_X12_407, WT_sel 75 (by decide +kernel) rfl, by decide⟩
theorem gf_X12_212 : GF RX12 212 12 72 := ⟨by decide, by decide, Or.inl (WT_c5 188 rfl rfl)⟩
theorem gw_X12_212 : 12 < 13 ∧ 72 < cN 12 ∧ Cond.fieldLink RX12 212 (cT 12 72).1 (cT 12 72).2.1 (cT 12 72).2.2.1 ∈ WT := ⟨by decide, by decide, WT_c5 188 rfl rfl⟩
theorem gf_X12_109 : GF RX12 109 12 18 := ⟨by decide, by decide, Or.inl (WT_c5 134 rfl rfl)⟩
theorem gw_X12_109 : 12 < 13 ∧ 18 < cN 12 ∧ Cond.fieldLink RX12 109 (cT 12 18).1 (cT 12 18).2.1 (cT 12 18).2.2.1 ∈ WT := ⟨by decide, by decide, WT_c5 134 rfl rfl⟩
theorem yb_X12_410 : YB RX12 410 yX12_least cX12_least 2 (some .int) 2 := ⟨Or.inl (WT_c7 34 rfl rfl), WT_c7 36 rfl rfl, WT_c1 12 rfl rfl, by decide +kernel, by decide +kernel, by decide +kernel⟩
theorem ys_X12_410 : Cond.static yX12_least ∈ WT := WT_c7 35 rfl rfl
theorem gf_X12_133 : GF RX12 133 12 32 := ⟨by decide, by decide, Or.inl (WT_c5 148 rfl rfl)⟩
theorem gw_X12_133 : 12 < 13 ∧ 32 < cN 12 ∧ Cond.fieldLink RX12 133 (cT 12 32).1 (cT 12 32).2.1 (cT 12 32).2.2.1 ∈ WT := ⟨by decide, by decide, WT_c5 148 rfl rfl⟩
theorem gf_X12_209 : GF RX12 209 12 71 := ⟨by decide, by decide, Or.inl (WT_c5 187 rfl rfl)⟩
theorem gw_X12_209 : 12 < 13 ∧ 71 < cN 12 ∧ Cond.fieldLink RX12 209 (cT 12 71).1 (cT 12 71).2.1 (cT 12 71).2.2.1 ∈ WT := ⟨by decide, by decide, WT_c5 187 rfl rfl⟩
theorem yb_X12_413 : YB RX12 413 yX12_hands cX12_hands 5 none 4 := ⟨Or.inl (WT_c7 37 rfl rfl), WT_c7 40 rfl rfl, WT_c1 12 rfl rfl, by decide +kernel, by decide +kernel, by decide +kernel⟩
theorem yi_X12_413 : Cond.instanceMethod yX12_hands ∈ WT := WT_c7 39 rfl rfl
theorem yv_X12_413 : YV RX12 413 yX12_hands cX12_hands 5 none 4 12 := ⟨yb_X12_413, yi_X12_413, WT_sel 77 (by decide +kernel) rfl, by decide⟩
theorem yb_X12_417 : YB RX12 417 yX12_oneByOne cX12_oneByOne 6 none 3 := ⟨Or.inl (WT_c7 41 rfl rfl), WT_c7 44 rfl rfl, WT_c1 12 rfl rfl, by decide +kernel, by decide +kernel, by decide +kernel⟩
theorem yi_X12_417 : Cond.instanceMethod yX12_oneByOne ∈ WT := WT_c7 43 rfl rfl
theorem yv_X12_417 : YV RX12 417 yX12_oneByOne cX12_oneByOne 6 none 3 12 := ⟨yb_X12_417, yi_X12_417, WT_sel 78 (by decide +kernel) rfl, by decide⟩
theorem gf_X12_127 : GF RX12 127 12 27 := ⟨by decide, by decide, Or.inl (WT_c5 143 rfl rfl)⟩
theorem gw_X12_127 : 12 < 13 ∧ 27 < cN 12 ∧ Cond.fieldLink RX12 127 (cT 12 27).1 (cT 12 27).2.1 (cT 12 27).2.2.1 ∈ WT := ⟨by decide, by decide, WT_c5 143 rfl rfl⟩
theorem yb_X12_254 : YB RX12 254 yX12_isSign cX12_isSign 2 (some .boolean) 1 := ⟨Or.inl (WT_c6 170 rfl rfl), WT_c6 173 rfl rfl, WT_c1 12 rfl rfl, by decide +kernel, by decide +kernel, by decide +kernel⟩
theorem yi_X12_254 : Cond.instanceMethod yX12_isSign ∈ WT := WT_c6 172 rfl rfl
theorem yv_X12_254 : YV RX12 254 yX12_isSign cX12_isSign 2 (some .boolean) 1 12 := ⟨yb_X12_254, yi_X12_254, WT_sel 57 (by decide +kernel) rfl, by decide⟩
theorem gf_X12_130 : GF RX12 130 12 28 := ⟨by decide, by decide, Or.inl (WT_c5 144 rfl rfl)⟩
theorem gw_X12_130 : 12 < 13 ∧ 28 < cN 12 ∧ Cond.fieldLink RX12 130 (cT 12 28).1 (cT 12 28).2.1 (cT 12 28).2.2.1 ∈ WT := ⟨by decide, by decide, WT_c5 144 rfl rfl⟩
theorem yb_X12_280 : YB RX12 280 yX12_takeSign cX12_takeSign 2 none 1 := ⟨Or.inl (WT_c6 190 rfl rfl), WT_c6 193 rfl rfl, WT_c1 12 rfl rfl, by decide +kernel, by decide +kernel, by decide +kernel⟩
theorem yi_X12_280 : Cond.instanceMethod yX12_takeSign ∈ WT := WT_c6 192 rfl rfl
theorem yv_X12_280 : YV RX12 280 yX12_takeSign cX12_takeSign 2 none 1 12 := ⟨yb_X12_280, yi_X12_280, WT_sel 62 (by decide +kernel) rfl, by decide⟩
theorem gf_X12_160 : GF RX12 160 12 48 := ⟨by decide, by decide, Or.inl (WT_c5 164 rfl rfl)⟩
theorem gw_X12_160 : 12 < 13 ∧ 48 < cN 12 ∧ Cond.fieldLink RX12 160 (cT 12 48).1 (cT 12 48).2.1 (cT 12 48).2.2.1 ∈ WT := ⟨by decide, by decide, WT_c5 164 rfl rfl⟩
theorem gf_X12_163 : GF RX12 163 12 49 := ⟨by decide, by decide, Or.inl (WT_c5 165 rfl rfl)⟩
theorem gw_X12_163 : 12 < 13 ∧ 49 < cN 12 ∧ Cond.fieldLink RX12 163 (cT 12 49).1 (cT 12 49).2.1 (cT 12 49).2.2.1 ∈ WT := ⟨by decide, by decide, WT_c5 165 rfl rfl⟩
theorem gf_X12_169 : GF RX12 169 12 51 := ⟨by decide, by decide, Or.inl (WT_c5 167 rfl rfl)⟩
theorem gw_X12_169 : 12 < 13 ∧ 51 < cN 12 ∧ Cond.fieldLink RX12 169 (cT 12 51).1 (cT 12 51).2.1 (cT 12 51).2.2.1 ∈ WT := ⟨by decide, by decide, WT_c5 167 rfl rfl⟩
theorem gf_X12_181 : GF RX12 181 12 55 := ⟨by decide, by decide, Or.inl (WT_c5 171 rfl rfl)⟩
theorem gw_X12_181 : 12 < 13 ∧ 55 < cN 12 ∧ Cond.fieldLink RX12 181 (cT 12 55).1 (cT 12 55).2.1 (cT 12 55).2.2.1 ∈ WT := ⟨by decide, by decide, WT_c5 171 rfl rfl⟩
theorem gf_X12_184 : GF RX12 184 12 56 := ⟨by decide, by decide, Or.inl (WT_c5 172 rfl rfl)⟩
theorem gw_X12_184 : 12 < 13 ∧ 56 < cN 12 ∧ Cond.fieldLink RX12 184 (cT 12 56).1 (cT 12 56).2.1 (cT 12 56).2.2.1 ∈ WT := ⟨by decide, by decide, WT_c5 172 rfl rfl⟩
theorem gf_X12_187 : GF RX12 187 12 57 := ⟨by decide, by decide, Or.inl (WT_c5 173 rfl rfl)⟩
theorem gw_X12_187 : 12 < 13 ∧ 57 < cN 12 ∧ Cond.fieldLink RX12 187 (cT 12 57).1 (cT 12 57).2.1 (cT 12 57).2.2.1 ∈ WT := ⟨by decide, by decide, WT_c5 173 rfl rfl⟩
theorem gf_X12_166 : GF RX12 166 12 50 := ⟨by decide, by decide, Or.inl (WT_c5 166 rfl rfl)⟩
theorem gw_X12_166 : 12 < 13 ∧ 50 < cN 12 ∧ Cond.fieldLink RX12 166 (cT 12 50).1 (cT 12 50).2.1 (cT 12 50).2.2.1 ∈ WT := ⟨by decide, by decide, WT_c5 166 rfl rfl⟩
theorem gf_X12_193 : GF RX12 193 12 59 := ⟨by decide, by decide, Or.inl (WT_c5 175 rfl rfl)⟩
theorem gw_X12_193 : 12 < 13 ∧ 59 < cN 12 ∧ Cond.fieldLink RX12 193 (cT 12 59).1 (cT 12 59).2.1 (cT 12 59).2.2.1 ∈ WT := ⟨by decide, by decide, WT_c5 175 rfl rfl⟩
theorem yb_X12_261 : YB RX12 261 yX12_isWord cX12_isWord 2 (some .boolean) 1 := ⟨Or.inl (WT_c6 130 rfl rfl), WT_c6 133 rfl rfl, WT_c1 12 rfl rfl, by decide +kernel, by decide +kernel, by decide +kernel⟩
theorem yi_X12_261 : Cond.instanceMethod yX12_isWord ∈ WT := WT_c6 132 rfl rfl
theorem yv_X12_261 : YV RX12 261 yX12_isWord cX12_isWord 2 (some .boolean) 1 12 := ⟨yb_X12_261, yi_X12_261, WT_sel 47 (by decide +kernel) rfl, by decide⟩
theorem gf_X12_136 : GF RX12 136 12 33 := ⟨by decide, by decide, Or.inl (WT_c5 149 rfl rfl)⟩
theorem gw_X12_136 : 12 < 13 ∧ 33 < cN 12 ∧ Cond.fieldLink RX12 136 (cT 12 33).1 (cT 12 33).2.1 (cT 12 33).2.2.1 ∈ WT := ⟨by decide, by decide, WT_c5 149 rfl rfl⟩
theorem go_X12_18 : Cond.methodLink RX12 18 Lib.objectInit ∈ WT := WT_c5 90 rfl rfl
theorem gl_X12_34 : Cond.constantLong RX12 34 (1176170) ∈ WT := WT_c5 91 rfl rfl
theorem gl_X12_36 : Cond.constantLong RX12 36 (367711) ∈ WT := WT_c5 92 rfl rfl
theorem gl_X12_38 : Cond.constantLong RX12 38 (329128) ∈ WT := WT_c5 93 rfl rfl
theorem gl_X12_40 : Cond.constantLong RX12 40 (755) ∈ WT := WT_c5 94 rfl rfl
theorem gl_X12_42 : Cond.constantLong RX12 42 (99) ∈ WT := WT_c5 95 rfl rfl
theorem gl_X12_44 : Cond.constantLong RX12 44 (316695) ∈ WT := WT_c5 96 rfl rfl
theorem gl_X12_46 : Cond.constantLong RX12 46 (30910767) ∈ WT := WT_c5 97 rfl rfl
theorem gl_X12_48 : Cond.constantLong RX12 48 (919322) ∈ WT := WT_c5 98 rfl rfl
theorem gl_X12_50 : Cond.constantLong RX12 50 (1825) ∈ WT := WT_c5 99 rfl rfl
theorem gl_X12_52 : Cond.constantLong RX12 52 (831550) ∈ WT := WT_c5 100 rfl rfl
theorem gl_X12_54 : Cond.constantLong RX12 54 (36643325) ∈ WT := WT_c5 101 rfl rfl
theorem gl_X12_56 : Cond.constantLong RX12 56 (15782540) ∈ WT := WT_c5 102 rfl rfl
theorem gl_X12_58 : Cond.constantLong RX12 58 (22745289) ∈ WT := WT_c5 103 rfl rfl
theorem gl_X12_60 : Cond.constantLong RX12 60 (15248089) ∈ WT := WT_c5 104 rfl rfl
theorem gl_X12_62 : Cond.constantLong RX12 62 (43176281) ∈ WT := WT_c5 105 rfl rfl
theorem gl_X12_64 : Cond.constantLong RX12 64 (1332603970) ∈ WT := WT_c5 106 rfl rfl
theorem gl_X12_66 : Cond.constantLong RX12 66 (3540) ∈ WT := WT_c5 107 rfl rfl
theorem gl_X12_68 : Cond.constantLong RX12 68 (969708) ∈ WT := WT_c5 108 rfl rfl
theorem gl_X12_70 : Cond.constantLong RX12 70 (426554) ∈ WT := WT_c5 109 rfl rfl
theorem gl_X12_72 : Cond.constantLong RX12 72 (5538) ∈ WT := WT_c5 110 rfl rfl
theorem gl_X12_74 : Cond.constantLong RX12 74 (1166926) ∈ WT := WT_c5 111 rfl rfl
theorem gl_X12_76 : Cond.constantLong RX12 76 (11726208) ∈ WT := WT_c5 112 rfl rfl
theorem gl_X12_78 : Cond.constantLong RX12 78 (679747) ∈ WT := WT_c5 113 rfl rfl
theorem gl_X12_80 : Cond.constantLong RX12 80 (1042489) ∈ WT := WT_c5 114 rfl rfl
theorem gf_X12_82 : GF RX12 82 12 9 := ⟨by decide, by decide, Or.inl (WT_c5 125 rfl rfl)⟩
theorem gw_X12_82 : 12 < 13 ∧ 9 < cN 12 ∧ Cond.fieldLink RX12 82 (cT 12 9).1 (cT 12 9).2.1 (cT 12 9).2.2.1 ∈ WT := ⟨by decide, by decide, WT_c5 125 rfl rfl⟩
theorem gf_X12_88 : GF RX12 88 12 11 := ⟨by decide, by decide, Or.inl (WT_c5 127 rfl rfl)⟩
theorem gw_X12_88 : 12 < 13 ∧ 11 < cN 12 ∧ Cond.fieldLink RX12 88 (cT 12 11).1 (cT 12 11).2.1 (cT 12 11).2.2.1 ∈ WT := ⟨by decide, by decide, WT_c5 127 rfl rfl⟩
theorem gf_X12_91 : GF RX12 91 12 12 := ⟨by decide, by decide, Or.inl (WT_c5 128 rfl rfl)⟩
theorem gw_X12_91 : 12 < 13 ∧ 12 < cN 12 ∧ Cond.fieldLink RX12 91 (cT 12 12).1 (cT 12 12).2.1 (cT 12 12).2.2.1 ∈ WT := ⟨by decide, by decide, WT_c5 128 rfl rfl⟩
theorem gf_X12_121 : GF RX12 121 12 23 := ⟨by decide, by decide, Or.inl (WT_c5 139 rfl rfl)⟩
theorem gw_X12_121 : 12 < 13 ∧ 23 < cN 12 ∧ Cond.fieldLink RX12 121 (cT 12 23).1 (cT 12 23).2.1 (cT 12 23).2.2.1 ∈ WT := ⟨by decide, by decide, WT_c5 139 rfl rfl⟩
theorem gf_X12_124 : GF RX12 124 12 24 := ⟨by decide, by decide, Or.inl (WT_c5 140 rfl rfl)⟩
theorem gw_X12_124 : 12 < 13 ∧ 24 < cN 12 ∧ Cond.fieldLink RX12 124 (cT 12 24).1 (cT 12 24).2.1 (cT 12 24).2.2.1 ∈ WT := ⟨by decide, by decide, WT_c5 140 rfl rfl⟩
theorem gf_X12_139 : GF RX12 139 12 35 := ⟨by decide, by decide, Or.inl (WT_c5 151 rfl rfl)⟩
theorem gw_X12_139 : 12 < 13 ∧ 35 < cN 12 ∧ Cond.fieldLink RX12 139 (cT 12 35).1 (cT 12 35).2.1 (cT 12 35).2.2.1 ∈ WT := ⟨by decide, by decide, WT_c5 151 rfl rfl⟩
theorem gf_X12_142 : GF RX12 142 12 36 := ⟨by decide, by decide, Or.inl (WT_c5 152 rfl rfl)⟩
theorem gw_X12_142 : 12 < 13 ∧ 36 < cN 12 ∧ Cond.fieldLink RX12 142 (cT 12 36).1 (cT 12 36).2.1 (cT 12 36).2.2.1 ∈ WT := ⟨by decide, by decide, WT_c5 152 rfl rfl⟩
theorem gf_X12_145 : GF RX12 145 12 37 := ⟨by decide, by decide, Or.inl (WT_c5 153 rfl rfl)⟩
theorem gw_X12_145 : 12 < 13 ∧ 37 < cN 12 ∧ Cond.fieldLink RX12 145 (cT 12 37).1 (cT 12 37).2.1 (cT 12 37).2.2.1 ∈ WT := ⟨by decide, by decide, WT_c5 153 rfl rfl⟩
theorem gf_X12_148 : GF RX12 148 12 38 := ⟨by decide, by decide, Or.inl (WT_c5 154 rfl rfl)⟩
theorem gw_X12_148 : 12 < 13 ∧ 38 < cN 12 ∧ Cond.fieldLink RX12 148 (cT 12 38).1 (cT 12 38).2.1 (cT 12 38).2.2.1 ∈ WT := ⟨by decide, by decide, WT_c5 154 rfl rfl⟩
theorem gf_X12_151 : GF RX12 151 12 39 := ⟨by decide, by decide, Or.inl (WT_c5 155 rfl rfl)⟩
theorem gw_X12_151 : 12 < 13 ∧ 39 < cN 12 ∧ Cond.fieldLink RX12 151 (cT 12 39).1 (cT 12 39).2.1 (cT 12 39).2.2.1 ∈ WT := ⟨by decide, by decide, WT_c5 155 rfl rfl⟩
theorem gf_X12_157 : GF RX12 157 12 47 := ⟨by decide, by decide, Or.inl (WT_c5 163 rfl rfl)⟩
theorem gw_X12_157 : 12 < 13 ∧ 47 < cN 12 ∧ Cond.fieldLink RX12 157 (cT 12 47).1 (cT 12 47).2.1 (cT 12 47).2.2.1 ∈ WT := ⟨by decide, by decide, WT_c5 163 rfl rfl⟩
theorem gf_X12_178 : GF RX12 178 12 54 := ⟨by decide, by decide, Or.inl (WT_c5 170 rfl rfl)⟩
theorem gw_X12_178 : 12 < 13 ∧ 54 < cN 12 ∧ Cond.fieldLink RX12 178 (cT 12 54).1 (cT 12 54).2.1 (cT 12 54).2.2.1 ∈ WT := ⟨by decide, by decide, WT_c5 170 rfl rfl⟩
theorem gf_X12_202 : GF RX12 202 12 69 := ⟨by decide, by decide, Or.inl (WT_c5 185 rfl rfl)⟩
theorem gw_X12_202 : 12 < 13 ∧ 69 < cN 12 ∧ Cond.fieldLink RX12 202 (cT 12 69).1 (cT 12 69).2.1 (cT 12 69).2.2.1 ∈ WT := ⟨by decide, by decide, WT_c5 185 rfl rfl⟩
theorem gl_X12_218 : Cond.constant RX12 218 (1000000) ∈ WT := WT_c5 115 rfl rfl
theorem gf_X12_219 : GF RX12 219 12 29 := ⟨by decide, by decide, Or.inl (WT_c5 145 rfl rfl)⟩
theorem gw_X12_219 : 12 < 13 ∧ 29 < cN 12 ∧ Cond.fieldLink RX12 219 (cT 12 29).1 (cT 12 29).2.1 (cT 12 29).2.2.1 ∈ WT := ⟨by decide, by decide, WT_c5 145 rfl rfl⟩
theorem gf_X12_222 : GF RX12 222 12 30 := ⟨by decide, by decide, Or.inl (WT_c5 146 rfl rfl)⟩
theorem gw_X12_222 : 12 < 13 ∧ 30 < cN 12 ∧ Cond.fieldLink RX12 222 (cT 12 30).1 (cT 12 30).2.1 (cT 12 30).2.2.1 ∈ WT := ⟨by decide, by decide, WT_c5 146 rfl rfl⟩
theorem gf_X12_353 : GF RX12 353 12 43 := ⟨by decide, by decide, Or.inl (WT_c5 159 rfl rfl)⟩
theorem gw_X12_353 : 12 < 13 ∧ 43 < cN 12 ∧ Cond.fieldLink RX12 353 (cT 12 43).1 (cT 12 43).2.1 (cT 12 43).2.2.1 ∈ WT := ⟨by decide, by decide, WT_c5 159 rfl rfl⟩
theorem yb_X12_421 : YB RX12 421 yX12_nextOf cX12_nextOf 5 (some .int) 0 := ⟨Or.inl (WT_c7 45 rfl rfl), WT_c7 48 rfl rfl, WT_c1 12 rfl rfl, by decide +kernel, by decide +kernel, by decide +kernel⟩
theorem yi_X12_421 : Cond.instanceMethod yX12_nextOf ∈ WT := WT_c7 47 rfl rfl
theorem yv_X12_421 : YV RX12 421 yX12_nextOf cX12_nextOf 5 (some .int) 0 12 := ⟨yb_X12_421, yi_X12_421, WT_sel 79 (by decide +kernel) rfl, by decide⟩
theorem yb_X12_264 : YB RX12 264 yX12_hasWord cX12_hasWord 3 (some .boolean) 1 := ⟨Or.inl (WT_c6 146 rfl rfl), WT_c6 149 rfl rfl, WT_c1 12 rfl rfl, by decide +kernel, by decide +kernel, by decide +kernel⟩
theorem yi_X12_264 : Cond.instanceMethod yX12_hasWord ∈ WT := WT_c6 148 rfl rfl
theorem yv_X12_264 : YV RX12 264 yX12_hasWord cX12_hasWord 3 (some .boolean) 1 12 := ⟨yb_X12_264, yi_X12_264, WT_sel 51 (by decide +kernel) rfl, by decide⟩
theorem yb_X12_257 : YB RX12 257 yX12_wrong cX12_wrong 2 none 1 := ⟨Or.inl (WT_c6 142 rfl rfl), WT_c6 145 rfl rfl, WT_c1 12 rfl rfl, by decide +kernel, by decide +kernel, by decide +kernel⟩
theorem yi_X12_257 : Cond.instanceMethod yX12_wrong ∈ WT := WT_c6 144 rfl rfl
theorem yv_X12_257 : YV RX12 257 yX12_wrong cX12_wrong 2 none 1 12 := ⟨yb_X12_257, yi_X12_257, WT_sel 50 (by decide +kernel) rfl, by decide⟩
theorem yb_X12_331 : YB RX12 331 yX12_readText cX12_readText 1 none 0 := ⟨Or.inl (WT_c6 107 rfl rfl), WT_c6 110 rfl rfl, WT_c1 12 rfl rfl, by decide +kernel, by decide +kernel, by decide +kernel⟩
theorem yi_X12_331 : Cond.instanceMethod yX12_readText ∈ WT := WT_c6 109 rfl rfl
theorem yv_X12_331 : YV RX12 331 yX12_readText cX12_readText 1 none 0 12 := ⟨yb_X12_331, yi_X12_331, WT_sel 45 (by decide +kernel) rfl, by decide⟩
theorem yb_X12_334 : YB RX12 334 yX12_keep cX12_keep 5 none 1 := ⟨Or.inl (WT_c6 210 rfl rfl), WT_c6 213 rfl rfl, WT_c1 12 rfl rfl, by decide +kernel, by decide +kernel, by decide +kernel⟩
theorem yi_X12_334 : Cond.instanceMethod yX12_keep ∈ WT := WT_c6 212 rfl rfl
theorem yv_X12_334 : YV RX12 334 yX12_keep cX12_keep 5 none 1 12 := ⟨yb_X12_334, yi_X12_334, WT_sel 67 (by decide +kernel) rfl, by decide⟩
theorem yb_X12_322 : YB RX12 322 yX12_isPart cX12_isPart 1 (some .boolean) 0 := ⟨Or.inl (WT_c6 166 rfl rfl), WT_c6 169 rfl rfl, WT_c1 12 rfl rfl, by decide +kernel, by decide +kernel, by decide +kernel⟩
theorem yi_X12_322 : Cond.instanceMethod yX12_isPart ∈ WT := WT_c6 168 rfl rfl
theorem yv_X12_322 : YV RX12 322 yX12_isPart cX12_isPart 1 (some .boolean) 0 12 := ⟨yb_X12_322, yi_X12_322, WT_sel 56 (by decide +kernel) rfl, by decide⟩
theorem yb_X12_325 : YB RX12 325 yX12_hasSign cX12_hasSign 3 (some .boolean) 1 := ⟨Or.inl (WT_c6 178 rfl rfl), WT_c6 181 rfl rfl, WT_c1 12 rfl rfl, by decide +kernel, by decide +kernel, by decide +kernel⟩
theorem yi_X12_325 : Cond.instanceMethod yX12_hasSign ∈ WT := WT_c6 180 rfl rfl
theorem yv_X12_325 : YV RX12 325 yX12_hasSign cX12_hasSign 3 (some .boolean) 1 12 := ⟨yb_X12_325, yi_X12_325, WT_sel 59 (by decide +kernel) rfl, by decide⟩
theorem yb_X12_273 : YB RX12 273 yX12_takeWord cX12_takeWord 2 none 1 := ⟨Or.inl (WT_c6 182 rfl rfl), WT_c6 185 rfl rfl, WT_c1 12 rfl rfl, by decide +kernel, by decide +kernel, by decide +kernel⟩
theorem yi_X12_273 : Cond.instanceMethod yX12_takeWord ∈ WT := WT_c6 184 rfl rfl
theorem yv_X12_273 : YV RX12 273 yX12_takeWord cX12_takeWord 2 none 1 12 := ⟨yb_X12_273, yi_X12_273, WT_sel 60 (by decide +kernel) rfl, by decide⟩
theorem gf_X12_375 : GF RX12 375 12 60 := ⟨by decide, by decide, Or.inl (WT_c5 176 rfl rfl)⟩
theorem gw_X12_375 : 12 < 13 ∧ 60 < cN 12 ∧ Cond.fieldLink RX12 375 (cT 12 60).1 (cT 12 60).2.1 (cT 12 60).2.2.1 ∈ WT := ⟨by decide, by decide, WT_c5 176 rfl rfl⟩
theorem gf_X12_372 : GF RX12 372 12 61 := ⟨by decide, by decide, Or.inl (WT_c5 177 rfl rfl)⟩
theorem gw_X12_372 : 12 < 13 ∧ 61 < cN 12 ∧ Cond.fieldLink RX12 372 (cT 12 61).1 (cT 12 61).2.1 (cT 12 61).2.2.1 ∈ WT := ⟨by decide, by decide, WT_c5 177 rfl rfl⟩
theorem gf_X12_381 : GF RX12 381 12 64 := ⟨by decide, by decide, Or.inl (WT_c5 180 rfl rfl)⟩
theorem gw_X12_381 : 12 < 13 ∧ 64 < cN 12 ∧ Cond.fieldLink RX12 381 (cT 12 64).1 (cT 12 64).2.1 (cT 12 64).2.2.1 ∈ WT := ⟨by decide, by decide, WT_c5 180 rfl rfl⟩
theorem gf_X12_392 : GF RX12 392 12 62 := ⟨by decide, by decide, Or.inl (WT_c5 178 rfl rfl)⟩
theorem gw_X12_392 : 12 < 13 ∧ 62 < cN 12 ∧ Cond.fieldLink RX12 392 (cT 12 62).1 (cT 12 62).2.1 (cT 12 62).2.2.1 ∈ WT := ⟨by decide, by decide, WT_c5 178 rfl rfl⟩
theorem gf_X12_378 : GF RX12 378 12 63 := ⟨by decide, by decide, Or.inl (WT_c5 179 rfl rfl)⟩
theorem gw_X12_378 : 12 < 13 ∧ 63 < cN 12 ∧ Cond.fieldLink RX12 378 (cT 12 63).1 (cT 12 63).2.1 (cT 12 63).2.2.1 ∈ WT := ⟨by decide, by decide, WT_c5 179 rfl rfl⟩
theorem gf_X12_384 : GF RX12 384 12 65 := ⟨by decide, by decide, Or.inl (WT_c5 181 rfl rfl)⟩
theorem gw_X12_384 : 12 < 13 ∧ 65 < cN 12 ∧ Cond.fieldLink RX12 384 (cT 12 65).1 (cT 12 65).2.1 (cT 12 65).2.2.1 ∈ WT := ⟨by decide, by decide, WT_c5 181 rfl rfl⟩
theorem gf_X12_387 : GF RX12 387 12 66 := ⟨by decide, by decide, Or.inl (WT_c5 182 rfl rfl)⟩
theorem gw_X12_387 : 12 < 13 ∧ 66 < cN 12 ∧ Cond.fieldLink RX12 387 (cT 12 66).1 (cT 12 66).2.1 (cT 12 66).2.2.1 ∈ WT := ⟨by decide, by decide, WT_c5 182 rfl rfl⟩
theorem gf_X12_347 : GF RX12 347 12 42 := ⟨by decide, by decide, Or.inl (WT_c5 158 rfl rfl)⟩
theorem gw_X12_347 : 12 < 13 ∧ 42 < cN 12 ∧ Cond.fieldLink RX12 347 (cT 12 42).1 (cT 12 42).2.1 (cT 12 42).2.2.1 ∈ WT := ⟨by decide, by decide, WT_c5 158 rfl rfl⟩
theorem gl_X12_390 : Cond.constantLong RX12 390 (1000) ∈ WT := WT_c7 53 rfl rfl
theorem yb_X12_287 : YB RX12 287 yX12_code cX12_code 2 (some .int) 0 := ⟨Or.inl (WT_c6 150 rfl rfl), WT_c6 153 rfl rfl, WT_c1 12 rfl rfl, by decide +kernel, by decide +kernel, by decide +kernel⟩
theorem yi_X12_287 : Cond.instanceMethod yX12_code ∈ WT := WT_c6 152 rfl rfl
theorem yv_X12_287 : YV RX12 287 yX12_code cX12_code 2 (some .int) 0 12 := ⟨yb_X12_287, yi_X12_287, WT_sel 52 (by decide +kernel) rfl, by decide⟩
theorem yb_X12_283 : YB RX12 283 yX12_isRule cX12_isRule 1 (some .boolean) 0 := ⟨Or.inl (WT_c6 138 rfl rfl), WT_c6 141 rfl rfl, WT_c1 12 rfl rfl, by decide +kernel, by decide +kernel, by decide +kernel⟩
theorem yi_X12_283 : Cond.instanceMethod yX12_isRule ∈ WT := WT_c6 140 rfl rfl
theorem yv_X12_283 : YV RX12 283 yX12_isRule cX12_isRule 1 (some .boolean) 0 12 := ⟨yb_X12_283, yi_X12_283, WT_sel 49 (by decide +kernel) rfl, by decide⟩
theorem yb_X12_291 : YB RX12 291 yX12_readAmount cX12_readAmount 2 none 1 := ⟨Or.inl (WT_c6 194 rfl rfl), WT_c6 197 rfl rfl, WT_c1 12 rfl rfl, by decide +kernel, by decide +kernel, by decide +kernel⟩
theorem yi_X12_291 : Cond.instanceMethod yX12_readAmount ∈ WT := WT_c6 196 rfl rfl
theorem yv_X12_291 : YV RX12 291 yX12_readAmount cX12_readAmount 2 none 1 12 := ⟨yb_X12_291, yi_X12_291, WT_sel 63 (by decide +kernel) rfl, by decide⟩
theorem yb_X12_276 : YB RX12 276 yX12_oneOf cX12_oneOf 4 (some .int) 2 := ⟨Or.inl (WT_c6 198 rfl rfl), WT_c6 201 rfl rfl, WT_c1 12 rfl rfl, by decide +kernel, by decide +kernel, by decide +kernel⟩
theorem yi_X12_276 : Cond.instanceMethod yX12_oneOf ∈ WT := WT_c6 200 rfl rfl
theorem yv_X12_276 : YV RX12 276 yX12_oneOf cX12_oneOf 4 (some .int) 2 12 := ⟨yb_X12_276, yi_X12_276, WT_sel 64 (by decide +kernel) rfl, by decide⟩
theorem yb_X12_294 : YB RX12 294 yX12_readWhom cX12_readWhom 2 none 1 := ⟨Or.inl (WT_c6 202 rfl rfl), WT_c6 205 rfl rfl, WT_c1 12 rfl rfl, by decide +kernel, by decide +kernel, by decide +kernel⟩
theorem yi_X12_294 : Cond.instanceMethod yX12_readWhom ∈ WT := WT_c6 204 rfl rfl
theorem yv_X12_294 : YV RX12 294 yX12_readWhom cX12_readWhom 2 none 1 12 := ⟨yb_X12_294, yi_X12_294, WT_sel 65 (by decide +kernel) rfl, by decide⟩
theorem yb_X12_297 : YB RX12 297 yX12_takeNumber cX12_takeNumber 3 (some .int) 2 := ⟨Or.inl (WT_c6 206 rfl rfl), WT_c6 209 rfl rfl, WT_c1 12 rfl rfl, by decide +kernel, by decide +kernel, by decide +kernel⟩
theorem yi_X12_297 : Cond.instanceMethod yX12_takeNumber ∈ WT := WT_c6 208 rfl rfl
theorem yv_X12_297 : YV RX12 297 yX12_takeNumber cX12_takeNumber 3 (some .int) 2 12 := ⟨yb_X12_297, yi_X12_297, WT_sel 66 (by decide +kernel) rfl, by decide⟩
theorem yb_X12_267 : YB RX12 267 yX12_cutAll cX12_cutAll 7 none 0 := ⟨Or.inl (WT_c6 111 rfl rfl), WT_c6 114 rfl rfl, WT_c1 12 rfl rfl, by decide +kernel, by decide +kernel, by decide +kernel⟩
theorem yi_X12_267 : Cond.instanceMethod yX12_cutAll ∈ WT := WT_c6 113 rfl rfl
theorem yv_X12_267 : YV RX12 267 yX12_cutAll cX12_cutAll 7 none 0 12 := ⟨yb_X12_267, yi_X12_267, WT_sel 46 (by decide +kernel) rfl, by decide⟩
theorem yb_X12_270 : YB RX12 270 yX12_readRule cX12_readRule 2 none 0 := ⟨Or.inl (WT_c6 134 rfl rfl), WT_c6 137 rfl rfl, WT_c1 12 rfl rfl, by decide +kernel, by decide +kernel, by decide +kernel⟩
theorem yi_X12_270 : Cond.instanceMethod yX12_readRule ∈ WT := WT_c6 136 rfl rfl
theorem yv_X12_270 : YV RX12 270 yX12_readRule cX12_readRule 2 none 0 12 := ⟨yb_X12_270, yi_X12_270, WT_sel 48 (by decide +kernel) rfl, by decide⟩
theorem yb_X12_401 : YB RX12 401 yX12_givesBy cX12_givesBy 12 none 2 := ⟨Or.inl (WT_c7 22 rfl rfl), WT_c7 25 rfl rfl, WT_c1 12 rfl rfl, by decide +kernel, by decide +kernel, by decide +kernel⟩
theorem yi_X12_401 : Cond.instanceMethod yX12_givesBy ∈ WT := WT_c7 24 rfl rfl
theorem yv_X12_401 : YV RX12 401 yX12_givesBy cX12_givesBy 12 none 2 12 := ⟨yb_X12_401, yi_X12_401, WT_sel 74 (by decide +kernel) rfl, by decide⟩
theorem yb_X12_356 : YB RX12 356 yX12_quarterBegins cX12_quarterBegins 3 none 1 := ⟨Or.inl (WT_c7 6 rfl rfl), WT_c7 9 rfl rfl, WT_c1 12 rfl rfl, by decide +kernel, by decide +kernel, by decide +kernel⟩
theorem yi_X12_356 : Cond.instanceMethod yX12_quarterBegins ∈ WT := WT_c7 8 rfl rfl
theorem yv_X12_356 : YV RX12 356 yX12_quarterBegins cX12_quarterBegins 3 none 1 12 := ⟨yb_X12_356, yi_X12_356, WT_sel 70 (by decide +kernel) rfl, by decide⟩
theorem yb_X12_363 : YB RX12 363 yX12_rule cX12_rule 4 none 1 := ⟨Or.inl (WT_c7 10 rfl rfl), WT_c7 13 rfl rfl, WT_c1 12 rfl rfl, by decide +kernel, by decide +kernel, by decide +kernel⟩
theorem yi_X12_363 : Cond.instanceMethod yX12_rule ∈ WT := WT_c7 12 rfl rfl
theorem yv_X12_363 : YV RX12 363 yX12_rule cX12_rule 4 none 1 12 := ⟨yb_X12_363, yi_X12_363, WT_sel 71 (by decide +kernel) rfl, by decide⟩
theorem yb_X12_366 : YB RX12 366 yX12_quarterEnds cX12_quarterEnds 3 none 0 := ⟨Or.inl (WT_c7 49 rfl rfl), WT_c7 52 rfl rfl, WT_c1 12 rfl rfl, by decide +kernel, by decide +kernel, by decide +kernel⟩
theorem yi_X12_366 : Cond.instanceMethod yX12_quarterEnds ∈ WT := WT_c7 51 rfl rfl
theorem yv_X12_366 : YV RX12 366 yX12_quarterEnds cX12_quarterEnds 3 none 0 12 := ⟨yb_X12_366, yi_X12_366, WT_sel 80 (by decide +kernel) rfl, by decide⟩
theorem yb_X12_395 : YB RX12 395 yX12_partOf cX12_partOf 4 (some .int) 1 := ⟨Or.inl (WT_c7 18 rfl rfl), WT_c7 21 rfl rfl, WT_c1 12 rfl rfl, by decide +kernel, by decide +kernel, by decide +kernel⟩
theorem yi_X12_395 : Cond.instanceMethod yX12_partOf ∈ WT := WT_c7 20 rfl rfl
theorem yv_X12_395 : YV RX12 395 yX12_partOf cX12_partOf 4 (some .int) 1 12 := ⟨yb_X12_395, yi_X12_395, WT_sel 73 (by decide +kernel) rfl, by decide⟩
theorem gf_X2_9 : GF RX2 9 2 0 := ⟨by decide, by decide, Or.inl (WT_c1 39 rfl rfl)⟩
theorem gw_X2_9 : 2 < 13 ∧ 0 < cN 2 ∧ Cond.fieldLink RX2 9 (cT 2 0).1 (cT 2 0).2.1 (cT 2 0).2.2.1 ∈ WT := ⟨by decide, by decide, WT_c1 39 rfl rfl⟩
theorem gf_X2_18 : GF RX2 18 2 2 := ⟨by decide, by decide, Or.inl (WT_c1 44 rfl rfl)⟩
theorem gw_X2_18 : 2 < 13 ∧ 2 < cN 2 ∧ Cond.fieldLink RX2 18 (cT 2 2).1 (cT 2 2).2.1 (cT 2 2).2.2.1 ∈ WT := ⟨by decide, by decide, WT_c1 44 rfl rfl⟩
theorem gf_X2_15 : GF RX2 15 2 1 := ⟨by decide, by decide, Or.inl (WT_c1 41 rfl rfl)⟩
theorem gw_X2_15 : 2 < 13 ∧ 1 < cN 2 ∧ Cond.fieldLink RX2 15 (cT 2 1).1 (cT 2 1).2.1 (cT 2 1).2.2.1 ∈ WT := ⟨by decide, by decide, WT_c1 41 rfl rfl⟩
theorem yb_X2_22 : YB RX2 22 yX11_isIn cX11_isIn 3 (some .boolean) 3 := ⟨Or.inr ⟨"SunVillage", NW_c2 189 rfl rfl⟩, WT_c1 143 rfl rfl, WT_c1 1 rfl rfl, by decide +kernel, by decide +kernel, by decide +kernel⟩
theorem ys_X2_22 : Cond.static yX11_isIn ∈ WT := WT_c1 142 rfl rfl
theorem go_X2_3 : Cond.methodLink RX2 3 Lib.objectInit ∈ WT := WT_c1 38 rfl rfl
theorem go_X3_3 : Cond.methodLink RX3 3 Lib.objectInit ∈ WT := WT_c1 110 rfl rfl
theorem gc_X3_9 : Cond.classLink RX3 9 "SunVillage$Token" ∈ WT := WT_c1 111 rfl rfl
theorem gf_X3_11 : GF RX3 11 3 0 := ⟨by decide, by decide, Or.inl (WT_c1 113 rfl rfl)⟩
theorem gw_X3_11 : 3 < 13 ∧ 0 < cN 3 ∧ Cond.fieldLink RX3 11 (cT 3 0).1 (cT 3 0).2.1 (cT 3 0).2.2.1 ∈ WT := ⟨by decide, by decide, WT_c1 113 rfl rfl⟩
theorem gf_X3_17 : GF RX3 17 3 1 := ⟨by decide, by decide, Or.inl (WT_c1 114 rfl rfl)⟩
theorem gw_X3_17 : 3 < 13 ∧ 1 < cN 3 ∧ Cond.fieldLink RX3 17 (cT 3 1).1 (cT 3 1).2.1 (cT 3 1).2.2.1 ∈ WT := ⟨by decide, by decide, WT_c1 114 rfl rfl⟩
theorem gf_X3_21 : GF RX3 21 3 2 := ⟨by decide, by decide, Or.inl (WT_c1 115 rfl rfl)⟩
theorem gw_X3_21 : 3 < 13 ∧ 2 < cN 3 ∧ Cond.fieldLink RX3 21 (cT 3 2).1 (cT 3 2).2.1 (cT 3 2).2.2.1 ∈ WT := ⟨by decide, by decide, WT_c1 115 rfl rfl⟩
theorem yb_X3_24 : YB RX3 24 yX3_scan cX3_scan 3 none 1 := ⟨Or.inl (WT_c2 229 rfl rfl), WT_c2 232 rfl rfl, WT_c1 5 rfl rfl, by decide +kernel, by decide +kernel, by decide +kernel⟩
theorem yi_X3_24 : Cond.instanceMethod yX3_scan ∈ WT := WT_c2 231 rfl rfl
theorem yv_X3_24 : YV RX3 24 yX3_scan cX3_scan 3 none 1 3 := ⟨yb_X3_24, yi_X3_24, WT_sel 0 (by decide +kernel) rfl, by decide⟩
theorem gf_X3_28 : GF RX3 28 6 1 := ⟨by decide, by decide, Or.inr ⟨"SunVillage", NW_c1 96 rfl rfl⟩⟩
theorem gf_X3_34 : GF RX3 34 3 4 := ⟨by decide, by decide, Or.inl (WT_c1 117 rfl rfl)⟩
theorem gw_X3_34 : 3 < 13 ∧ 4 < cN 3 ∧ Cond.fieldLink RX3 34 (cT 3 4).1 (cT 3 4).2.1 (cT 3 4).2.2.1 ∈ WT := ⟨by decide, by decide, WT_c1 117 rfl rfl⟩
theorem gf_X3_37 : GF RX3 37 3 5 := ⟨by decide, by decide, Or.inl (WT_c1 118 rfl rfl)⟩
theorem gw_X3_37 : 3 < 13 ∧ 5 < cN 3 ∧ Cond.fieldLink RX3 37 (cT 3 5).1 (cT 3 5).2.1 (cT 3 5).2.2.1 ∈ WT := ⟨by decide, by decide, WT_c1 118 rfl rfl⟩
theorem gf_X3_40 : GF RX3 40 3 6 := ⟨by decide, by decide, Or.inl (WT_c1 119 rfl rfl)⟩
theorem gw_X3_40 : 3 < 13 ∧ 6 < cN 3 ∧ Cond.fieldLink RX3 40 (cT 3 6).1 (cT 3 6).2.1 (cT 3 6).2.2.1 ∈ WT := ⟨by decide, by decide, WT_c1 119 rfl rfl⟩
theorem gf_X3_43 : GF RX3 43 3 7 := ⟨by decide, by decide, Or.inl (WT_c1 120 rfl rfl)⟩
theorem gw_X3_43 : 3 < 13 ∧ 7 < cN 3 ∧ Cond.fieldLink RX3 43 (cT 3 7).1 (cT 3 7).2.1 (cT 3 7).2.2.1 ∈ WT := ⟨by decide, by decide, WT_c1 120 rfl rfl⟩
theorem gf_X3_47 : GF RX3 47 7 1 := ⟨by decide, by decide, Or.inr ⟨"SunVillage", NW_c2 106 rfl rfl⟩⟩
theorem gf_X3_50 : GF RX3 50 7 4 := ⟨by decide, by decide, Or.inr ⟨"SunVillage", NW_c2 115 rfl rfl⟩⟩
theorem gs_X3_53 : Cond.fieldLink RX3 53 "SunVillage$Token" "REST" "LSunVillage$Token;" ∈ WT := WT_c3 79 rfl rfl
theorem yb_X3_57 : YB RX3 57 yX3_takeRule cX3_takeRule 2 (some .boolean) 0 := ⟨Or.inl (WT_c3 81 rfl rfl), WT_c3 84 rfl rfl, WT_c1 5 rfl rfl, by decide +kernel, by decide +kernel, by decide +kernel⟩
theorem yi_X3_57 : Cond.instanceMethod yX3_takeRule ∈ WT := WT_c3 83 rfl rfl
theorem yv_X3_57 : YV RX3 57 yX3_takeRule cX3_takeRule 2 (some .boolean) 0 3 := ⟨yb_X3_57, yi_X3_57, WT_sel 3 (by decide +kernel) rfl, by decide⟩
theorem yb_X3_61 : YB RX3 61 yX3_takeRest cX3_takeRest 1 (some .boolean) 0 := ⟨Or.inl (WT_c3 209 rfl rfl), WT_c3 212 rfl rfl, WT_c1 5 rfl rfl, by decide +kernel, by decide +kernel, by decide +kernel⟩
theorem yi_X3_61 : Cond.instanceMethod yX3_takeRest ∈ WT := WT_c3 211 rfl rfl
theorem yv_X3_61 : YV RX3 61 yX3_takeRest cX3_takeRest 1 (some .boolean) 0 3 := ⟨yb_X3_61, yi_X3_61, WT_sel 15 (by decide +kernel) rfl, by decide⟩
theorem gf_X3_64 : GF RX3 64 3 3 := ⟨by decide, by decide, Or.inl (WT_c1 116 rfl rfl)⟩
theorem gw_X3_64 : 3 < 13 ∧ 3 < cN 3 ∧ Cond.fieldLink RX3 64 (cT 3 3).1 (cT 3 3).2.1 (cT 3 3).2.2.1 ∈ WT := ⟨by decide, by decide, WT_c1 116 rfl rfl⟩
theorem yb_X3_67 : YB RX3 67 yX6_tokenBegins cX6_tokenBegins 3 (some .boolean) 1 := ⟨Or.inl (WT_c2 233 rfl rfl), WT_c2 236 rfl rfl, WT_c1 4 rfl rfl, by decide +kernel, by decide +kernel, by decide +kernel⟩
theorem yi_X3_67 : Cond.instanceMethod yX6_tokenBegins ∈ WT := WT_c2 234 rfl rfl
theorem yv_X3_67 : YV RX3 67 yX6_tokenBegins cX6_tokenBegins 3 (some .boolean) 1 6 := ⟨yb_X3_67, yi_X3_67, WT_c2 235 rfl rfl, by decide⟩
theorem yb_X3_71 : YB RX3 71 yX6_tokenEnd cX6_tokenEnd 4 (some .int) 1 := ⟨Or.inl (WT_c3 1 rfl rfl), WT_c3 4 rfl rfl, WT_c1 4 rfl rfl, by decide +kernel, by decide +kernel, by decide +kernel⟩
theorem yi_X3_71 : Cond.instanceMethod yX6_tokenEnd ∈ WT := WT_c3 2 rfl rfl
theorem yv_X3_71 : YV RX3 71 yX6_tokenEnd cX6_tokenEnd 4 (some .int) 1 6 := ⟨yb_X3_71, yi_X3_71, WT_c3 3 rfl rfl, by decide⟩
theorem yb_X3_75 : YB RX3 75 yX3_scanToken cX3_scanToken 4 none 3 := ⟨Or.inl (WT_c3 5 rfl rfl), WT_c3 8 rfl rfl, WT_c1 5 rfl rfl, by decide +kernel, by decide +kernel, by decide +kernel⟩
theorem yi_X3_75 : Cond.instanceMethod yX3_scanToken ∈ WT := WT_c3 7 rfl rfl
theorem yv_X3_75 : YV RX3 75 yX3_scanToken cX3_scanToken 4 none 3 3 := ⟨yb_X3_75, yi_X3_75, WT_sel 1 (by decide +kernel) rfl, by decide⟩
theorem gs_X3_79 : Cond.fieldLink RX3 79 "SunVillage$Token" "END" "LSunVillage$Token;" ∈ WT := WT_c3 77 rfl rfl
theorem yb_X3_82 : YB RX3 82 yX6_sort cX6_sort 3 (some .int) 1 := ⟨Or.inl (WT_c3 9 rfl rfl), WT_c3 0 rfl rfl, WT_c1 4 rfl rfl, by decide +kernel, by decide +kernel, by decide +kernel⟩
theorem yi_X3_82 : Cond.instanceMethod yX6_sort ∈ WT := WT_c2 238 rfl rfl
theorem yv_X3_82 : YV RX3 82 yX6_sort cX6_sort 3 (some .int) 1 6 := ⟨yb_X3_82, yi_X3_82, WT_c2 239 rfl rfl, by decide⟩
theorem yb_X3_85 : YB RX3 85 yX9_spelled cX9_spelled 4 (some (.object "SunVillage$Token")) 3 := ⟨Or.inl (WT_c3 10 rfl rfl), WT_c3 12 rfl rfl, WT_c1 15 rfl rfl, by decide +kernel, by decide +kernel, by decide +kernel⟩
theorem ys_X3_85 : Cond.static yX9_spelled ∈ WT := WT_c3 11 rfl rfl
theorem gs_X3_89 : Cond.fieldLink RX3 89 "SunVillage$Token" "NOTHING" "LSunVillage$Token;" ∈ WT := WT_c3 70 rfl rfl
theorem gs_X3_92 : Cond.fieldLink RX3 92 "SunVillage$Token" "NUMBER" "LSunVillage$Token;" ∈ WT := WT_c3 71 rfl rfl
theorem yb_X3_95 : YB RX3 95 yX6_numberAt cX6_numberAt 5 (some .int) 2 := ⟨Or.inl (WT_c3 73 rfl rfl), WT_c3 76 rfl rfl, WT_c1 4 rfl rfl, by decide +kernel, by decide +kernel, by decide +kernel⟩
theorem yi_X3_95 : Cond.instanceMethod yX6_numberAt ∈ WT := WT_c3 74 rfl rfl
theorem yv_X3_95 : YV RX3 95 yX6_numberAt cX6_numberAt 5 (some .int) 2 6 := ⟨yb_X3_95, yi_X3_95, WT_c3 75 rfl rfl, by decide⟩
theorem yb_X3_99 : YB RX3 99 yX3_refuse cX3_refuse 2 (some .boolean) 1 := ⟨Or.inl (WT_c3 97 rfl rfl), WT_c3 100 rfl rfl, WT_c1 5 rfl rfl, by decide +kernel, by decide +kernel, by decide +kernel⟩
theorem yi_X3_99 : Cond.instanceMethod yX3_refuse ∈ WT := WT_c3 99 rfl rfl
theorem yv_X3_99 : YV RX3 99 yX3_refuse cX3_refuse 2 (some .boolean) 1 3 := ⟨yb_X3_99, yi_X3_99, WT_sel 4 (by decide +kernel) rfl, by decide⟩
theorem yb_X3_102 : YB RX3 102 yX3_step cX3_step 1 none 0 := ⟨Or.inl (WT_c3 102 rfl rfl), WT_c3 105 rfl rfl, WT_c1 5 rfl rfl, by decide +kernel, by decide +kernel, by decide +kernel⟩
theorem yi_X3_102 : Cond.instanceMethod yX3_step ∈ WT := WT_c3 104 rfl rfl
theorem yv_X3_102 : YV RX3 102 yX3_step cX3_step 1 none 0 3 := ⟨yb_X3_102, yi_X3_102, WT_sel 5 (by decide +kernel) rfl, by decide⟩
theorem gs_X3_153 : Cond.fieldLink RX3 153 "SunVillage$Token" "GIVE" "LSunVillage$Token;" ∈ WT := WT_c3 151 rfl rfl
theorem gs_X3_156 : Cond.fieldLink RX3 156 "SunVillage$Token" "FILL" "LSunVillage$Token;" ∈ WT := WT_c3 152 rfl rfl
theorem gs_X3_159 : Cond.fieldLink RX3 159 "SunVillage$Token" "PRICE" "LSunVillage$Token;" ∈ WT := WT_c3 153 rfl rfl
theorem yb_X3_118 : YB RX3 118 yX3_takeOneOf cX3_takeOneOf 5 (some (.object "SunVillage$Token")) 3 := ⟨Or.inl (WT_c3 154 rfl rfl), WT_c3 157 rfl rfl, WT_c1 5 rfl rfl, by decide +kernel, by decide +kernel, by decide +kernel⟩
theorem yi_X3_118 : Cond.instanceMethod yX3_takeOneOf ∈ WT := WT_c3 156 rfl rfl
theorem yv_X3_118 : YV RX3 118 yX3_takeOneOf cX3_takeOneOf 5 (some (.object "SunVillage$Token")) 3 3 := ⟨yb_X3_118, yi_X3_118, WT_sel 10 (by decide +kernel) rfl, by decide⟩
theorem gf_X3_162 : GF RX3 162 5 0 := ⟨by decide, by decide, Or.inr ⟨"SunVillage", NW_c2 61 rfl rfl⟩⟩
theorem yb_X3_165 : YB RX3 165 yX3_takePrice cX3_takePrice 2 (some .boolean) 1 := ⟨Or.inl (WT_c3 158 rfl rfl), WT_c3 161 rfl rfl, WT_c1 5 rfl rfl, by decide +kernel, by decide +kernel, by decide +kernel⟩
theorem yi_X3_165 : Cond.instanceMethod yX3_takePrice ∈ WT := WT_c3 160 rfl rfl
theorem yv_X3_165 : YV RX3 165 yX3_takePrice cX3_takePrice 2 (some .boolean) 1 3 := ⟨yb_X3_165, yi_X3_165, WT_sel 11 (by decide +kernel) rfl, by decide⟩
theorem gf_X3_168 : GF RX3 168 5 3 := ⟨by decide, by decide, Or.inr ⟨"SunVillage", NW_c2 68 rfl rfl⟩⟩
theorem gs_X3_171 : Cond.fieldLink RX3 171 "SunVillage$Token" "ALL" "LSunVillage$Token;" ∈ WT := WT_c3 179 rfl rfl
theorem yb_X3_143 : YB RX3 143 yX3_takeExpression cX3_takeExpression 5 (some .boolean) 1 := ⟨Or.inl (WT_c3 106 rfl rfl), WT_c3 109 rfl rfl, WT_c1 5 rfl rfl, by decide +kernel, by decide +kernel, by decide +kernel⟩
theorem yi_X3_143 : Cond.instanceMethod yX3_takeExpression ∈ WT := WT_c3 108 rfl rfl
theorem yv_X3_143 : YV RX3 143 yX3_takeExpression cX3_takeExpression 5 (some .boolean) 1 3 := ⟨yb_X3_143, yi_X3_143, WT_sel 6 (by decide +kernel) rfl, by decide⟩
theorem gf_X3_174 : GF RX3 174 5 4 := ⟨by decide, by decide, Or.inr ⟨"SunVillage", NW_c2 70 rfl rfl⟩⟩
theorem yb_X3_177 : YB RX3 177 yX3_takeWays cX3_takeWays 2 (some .boolean) 1 := ⟨Or.inl (WT_c3 181 rfl rfl), WT_c3 184 rfl rfl, WT_c1 5 rfl rfl, by decide +kernel, by decide +kernel, by decide +kernel⟩
theorem yi_X3_177 : Cond.instanceMethod yX3_takeWays ∈ WT := WT_c3 183 rfl rfl
theorem yv_X3_177 : YV RX3 177 yX3_takeWays cX3_takeWays 2 (some .boolean) 1 3 := ⟨yb_X3_177, yi_X3_177, WT_sel 13 (by decide +kernel) rfl, by decide⟩
theorem yb_X3_239 : YB RX3 239 yX3_takePart cX3_takePart 3 (some .boolean) 1 := ⟨Or.inl (WT_c3 110 rfl rfl), WT_c3 113 rfl rfl, WT_c1 5 rfl rfl, by decide +kernel, by decide +kernel, by decide +kernel⟩
theorem yi_X3_239 : Cond.instanceMethod yX3_takePart ∈ WT := WT_c3 112 rfl rfl
theorem yv_X3_239 : YV RX3 239 yX3_takePart cX3_takePart 3 (some .boolean) 1 3 := ⟨yb_X3_239, yi_X3_239, WT_sel 7 (by decide +kernel) rfl, by decide⟩
theorem yb_X3_242 : YB RX3 242 yX9_isCompare cX9_isCompare 1 (some .boolean) 0 := ⟨Or.inl (WT_c3 138 rfl rfl), WT_c3 141 rfl rfl, WT_c1 15 rfl rfl, by decide +kernel, by decide +kernel, by decide +kernel⟩
theorem yi_X3_242 : Cond.instanceMethod yX9_isCompare ∈ WT := WT_c3 139 rfl rfl
theorem yv_X3_242 : YV RX3 242 yX9_isCompare cX9_isCompare 1 (some .boolean) 0 9 := ⟨yb_X3_242, yi_X3_242, WT_c3 140 rfl rfl, by decide⟩
theorem gt_X3_245 : Cond.fieldLink RX3 245 "SunVillage$Token" "code" "I" ∈ WT ∨ ∃ host, Cond.fieldLinkNest RX3 245 "SunVillage$Token" "code" "I" host ∈ NWs := Or.inr ⟨"SunVillage", NW_c7 99 rfl rfl⟩
theorem yb_X3_248 : YB RX3 248 yX7_emit cX7_emit 2 none 1 := ⟨Or.inl (WT_c3 134 rfl rfl), WT_c3 137 rfl rfl, WT_c1 10 rfl rfl, by decide +kernel, by decide +kernel, by decide +kernel⟩
theorem yi_X3_248 : Cond.instanceMethod yX7_emit ∈ WT := WT_c3 135 rfl rfl
theorem yv_X3_248 : YV RX3 248 yX7_emit cX7_emit 2 none 1 7 := ⟨yb_X3_248, yi_X3_248, WT_c3 136 rfl rfl, by decide⟩
theorem yb_X3_252 : YB RX3 252 yX9_isOperator cX9_isOperator 1 (some .boolean) 0 := ⟨Or.inl (WT_c3 146 rfl rfl), WT_c3 124 rfl rfl, WT_c1 15 rfl rfl, by decide +kernel, by decide +kernel, by decide +kernel⟩
theorem yi_X3_252 : Cond.instanceMethod yX9_isOperator ∈ WT := WT_c3 122 rfl rfl
theorem yv_X3_252 : YV RX3 252 yX9_isOperator cX9_isOperator 1 (some .boolean) 0 9 := ⟨yb_X3_252, yi_X3_252, WT_c3 123 rfl rfl, by decide⟩
theorem yb_X3_190 : YB RX3 190 yX11_isIn cX11_isIn 3 (some .boolean) 3 := ⟨Or.inr ⟨"SunVillage", NW_c3 178 rfl rfl⟩, WT_c1 143 rfl rfl, WT_c1 1 rfl rfl, by decide +kernel, by decide +kernel, by decide +kernel⟩
theorem ys_X3_190 : Cond.static yX11_isIn ∈ WT := WT_c1 142 rfl rfl
theorem gf_X3_194 : GF RX3 194 5 9 := ⟨by decide, by decide, Or.inr ⟨"SunVillage", NW_c2 80 rfl rfl⟩⟩
theorem yb_X3_255 : YB RX3 255 yX9_beginsPart cX9_beginsPart 1 (some .boolean) 0 := ⟨Or.inl (WT_c3 114 rfl rfl), WT_c3 117 rfl rfl, WT_c1 15 rfl rfl, by decide +kernel, by decide +kernel, by decide +kernel⟩
theorem yi_X3_255 : Cond.instanceMethod yX9_beginsPart ∈ WT := WT_c3 115 rfl rfl
theorem yv_X3_255 : YV RX3 255 yX9_beginsPart cX9_beginsPart 1 (some .boolean) 0 9 := ⟨yb_X3_255, yi_X3_255, WT_c3 116 rfl rfl, by decide⟩
theorem gs_X3_258 : Cond.fieldLink RX3 258 "SunVillage$Token" "OPEN" "LSunVillage$Token;" ∈ WT := WT_c3 127 rfl rfl
theorem gs_X3_261 : Cond.fieldLink RX3 261 "SunVillage$Token" "CLOSE" "LSunVillage$Token;" ∈ WT := WT_c3 128 rfl rfl
theorem yb_X3_105 : YB RX3 105 yX3_take cX3_take 2 (some .boolean) 1 := ⟨Or.inl (WT_c3 130 rfl rfl), WT_c3 133 rfl rfl, WT_c1 5 rfl rfl, by decide +kernel, by decide +kernel, by decide +kernel⟩
theorem yi_X3_105 : Cond.instanceMethod yX3_take ∈ WT := WT_c3 132 rfl rfl
theorem yv_X3_105 : YV RX3 105 yX3_take cX3_take 2 (some .boolean) 1 3 := ⟨yb_X3_105, yi_X3_105, WT_sel 8 (by decide +kernel) rfl, by decide⟩
theorem yb_X3_180 : YB RX3 180 yX9_price cX9_price 1 (some .int) 0 := ⟨Or.inl (WT_c3 162 rfl rfl), WT_c3 165 rfl rfl, WT_c1 15 rfl rfl, by decide +kernel, by decide +kernel, by decide +kernel⟩
theorem yi_X3_180 : Cond.instanceMethod yX9_price ∈ WT := WT_c3 163 rfl rfl
theorem yv_X3_180 : YV RX3 180 yX9_price cX9_price 1 (some .int) 0 9 := ⟨yb_X3_180, yi_X3_180, WT_c3 164 rfl rfl, by decide⟩
theorem gf_X3_184 : GF RX3 184 5 8 := ⟨by decide, by decide, Or.inr ⟨"SunVillage", NW_c2 78 rfl rfl⟩⟩
theorem yb_X3_186 : YB RX3 186 yX3_takeNumber cX3_takeNumber 4 (some .boolean) 3 := ⟨Or.inl (WT_c3 174 rfl rfl), WT_c3 177 rfl rfl, WT_c1 5 rfl rfl, by decide +kernel, by decide +kernel, by decide +kernel⟩
theorem yi_X3_186 : Cond.instanceMethod yX3_takeNumber ∈ WT := WT_c3 176 rfl rfl
theorem yv_X3_186 : YV RX3 186 yX3_takeNumber cX3_takeNumber 4 (some .boolean) 3 3 := ⟨yb_X3_186, yi_X3_186, WT_sel 12 (by decide +kernel) rfl, by decide⟩
theorem gs_X3_109 : Cond.fieldLink RX3 109 "SunVillage$Token" "FIRST" "LSunVillage$Token;" ∈ WT := WT_c3 213 rfl rfl
theorem gs_X3_112 : Cond.fieldLink RX3 112 "SunVillage$Token" "MOST" "LSunVillage$Token;" ∈ WT := WT_c3 215 rfl rfl
theorem gs_X3_115 : Cond.fieldLink RX3 115 "SunVillage$Token" "TURN" "LSunVillage$Token;" ∈ WT := WT_c3 217 rfl rfl
theorem gf_X3_122 : GF RX3 122 7 2 := ⟨by decide, by decide, Or.inr ⟨"SunVillage", NW_c2 110 rfl rfl⟩⟩
theorem gs_X3_125 : Cond.fieldLink RX3 125 "SunVillage$Token" "SEMICOLON" "LSunVillage$Token;" ∈ WT := WT_c3 207 rfl rfl
theorem yb_X3_128 : YB RX3 128 yX9_beginsRule cX9_beginsRule 1 (some .boolean) 0 := ⟨Or.inl (WT_c3 85 rfl rfl), WT_c3 88 rfl rfl, WT_c1 15 rfl rfl, by decide +kernel, by decide +kernel, by decide +kernel⟩
theorem yi_X3_128 : Cond.instanceMethod yX9_beginsRule ∈ WT := WT_c3 86 rfl rfl
theorem yv_X3_128 : YV RX3 128 yX9_beginsRule cX9_beginsRule 1 (some .boolean) 0 9 := ⟨yb_X3_128, yi_X3_128, WT_c3 87 rfl rfl, by decide⟩
theorem gf_X3_131 : GF RX3 131 7 0 := ⟨by decide, by decide, Or.inr ⟨"SunVillage", NW_c2 104 rfl rfl⟩⟩
theorem gf_X3_135 : GF RX3 135 5 1 := ⟨by decide, by decide, Or.inr ⟨"SunVillage", NW_c2 64 rfl rfl⟩⟩
theorem gs_X3_140 : Cond.fieldLink RX3 140 "SunVillage$Token" "WHEN" "LSunVillage$Token;" ∈ WT := WT_c3 101 rfl rfl
theorem gf_X3_146 : GF RX3 146 5 2 := ⟨by decide, by decide, Or.inr ⟨"SunVillage", NW_c2 66 rfl rfl⟩⟩
theorem yb_X3_149 : YB RX3 149 yX3_takeAct cX3_takeAct 2 (some .boolean) 1 := ⟨Or.inl (WT_c3 147 rfl rfl), WT_c3 150 rfl rfl, WT_c1 5 rfl rfl, by decide +kernel, by decide +kernel, by decide +kernel⟩
theorem yi_X3_149 : Cond.instanceMethod yX3_takeAct ∈ WT := WT_c3 149 rfl rfl
theorem yv_X3_149 : YV RX3 149 yX3_takeAct cX3_takeAct 2 (some .boolean) 1 3 := ⟨yb_X3_149, yi_X3_149, WT_sel 9 (by decide +kernel) rfl, by decide⟩
theorem gs_X3_197 : Cond.fieldLink RX3 197 "SunVillage$Token" "FROM" "LSunVillage$Token;" ∈ WT := WT_c3 185 rfl rfl
theorem gs_X3_200 : Cond.fieldLink RX3 200 "SunVillage$Token" "POOL" "LSunVillage$Token;" ∈ WT := WT_c3 187 rfl rfl
theorem gs_X3_203 : Cond.fieldLink RX3 203 "SunVillage$Token" "STORE" "LSunVillage$Token;" ∈ WT := WT_c3 188 rfl rfl
theorem gf_X3_206 : GF RX3 206 5 5 := ⟨by decide, by decide, Or.inr ⟨"SunVillage", NW_c2 72 rfl rfl⟩⟩
theorem gs_X3_209 : Cond.fieldLink RX3 209 "SunVillage$Token" "TO" "LSunVillage$Token;" ∈ WT := WT_c3 189 rfl rfl
theorem yb_X3_212 : YB RX3 212 yX3_takeWhom cX3_takeWhom 2 (some .boolean) 1 := ⟨Or.inl (WT_c3 191 rfl rfl), WT_c3 194 rfl rfl, WT_c1 5 rfl rfl, by decide +kernel, by decide +kernel, by decide +kernel⟩
theorem yi_X3_212 : Cond.instanceMethod yX3_takeWhom ∈ WT := WT_c3 193 rfl rfl
theorem yv_X3_212 : YV RX3 212 yX3_takeWhom cX3_takeWhom 2 (some .boolean) 1 3 := ⟨yb_X3_212, yi_X3_212, WT_sel 14 (by decide +kernel) rfl, by decide⟩
theorem gs_X3_215 : Cond.fieldLink RX3 215 "SunVillage$Token" "BY" "LSunVillage$Token;" ∈ WT := WT_c3 199 rfl rfl
theorem gs_X3_218 : Cond.fieldLink RX3 218 "SunVillage$Token" "HEADS" "LSunVillage$Token;" ∈ WT := WT_c3 201 rfl rfl
theorem gs_X3_221 : Cond.fieldLink RX3 221 "SunVillage$Token" "WANTS" "LSunVillage$Token;" ∈ WT := WT_c3 203 rfl rfl
theorem gs_X3_224 : Cond.fieldLink RX3 224 "SunVillage$Token" "SHARES" "LSunVillage$Token;" ∈ WT := WT_c3 205 rfl rfl
theorem gf_X3_227 : GF RX3 227 5 7 := ⟨by decide, by decide, Or.inr ⟨"SunVillage", NW_c2 76 rfl rfl⟩⟩
theorem gs_X3_230 : Cond.fieldLink RX3 230 "SunVillage$Token" "HOUSE" "LSunVillage$Token;" ∈ WT := WT_c3 195 rfl rfl
theorem gs_X3_233 : Cond.fieldLink RX3 233 "SunVillage$Token" "LEAST" "LSunVillage$Token;" ∈ WT := WT_c3 197 rfl rfl
theorem gf_X3_236 : GF RX3 236 5 6 := ⟨by decide, by decide, Or.inr ⟨"SunVillage", NW_c2 74 rfl rfl⟩⟩
theorem gf_X4_9 : GF RX4 9 4 0 := ⟨by decide, by decide, Or.inl (WT_c1 62 rfl rfl)⟩
theorem gw_X4_9 : 4 < 13 ∧ 0 < cN 4 ∧ Cond.fieldLink RX4 9 (cT 4 0).1 (cT 4 0).2.1 (cT 4 0).2.2.1 ∈ WT := ⟨by decide, by decide, WT_c1 62 rfl rfl⟩
theorem gf_X4_27 : GF RX4 27 4 5 := ⟨by decide, by decide, Or.inl (WT_c1 73 rfl rfl)⟩
theorem gw_X4_27 : 4 < 13 ∧ 5 < cN 4 ∧ Cond.fieldLink RX4 27 (cT 4 5).1 (cT 4 5).2.1 (cT 4 5).2.2.1 ∈ WT := ⟨by decide, by decide, WT_c1 73 rfl rfl⟩
theorem gf_X4_15 : GF RX4 15 4 1 := ⟨by decide, by decide, Or.inl (WT_c1 64 rfl rfl)⟩
theorem gw_X4_15 : 4 < 13 ∧ 1 < cN 4 ∧ Cond.fieldLink RX4 15 (cT 4 1).1 (cT 4 1).2.1 (cT 4 1).2.2.1 ∈ WT := ⟨by decide, by decide, WT_c1 64 rfl rfl⟩
theorem gf_X4_18 : GF RX4 18 4 2 := ⟨by decide, by decide, Or.inl (WT_c1 66 rfl rfl)⟩
theorem gw_X4_18 : 4 < 13 ∧ 2 < cN 4 ∧ Cond.fieldLink RX4 18 (cT 4 2).1 (cT 4 2).2.1 (cT 4 2).2.2.1 ∈ WT := ⟨by decide, by decide, WT_c1 66 rfl rfl⟩
theorem gf_X4_21 : GF RX4 21 4 3 := ⟨by decide, by decide, Or.inl (WT_c1 68 rfl rfl)⟩
theorem gw_X4_21 : 4 < 13 ∧ 3 < cN 4 ∧ Cond.fieldLink RX4 21 (cT 4 3).1 (cT 4 3).2.1 (cT 4 3).2.2.1 ∈ WT := ⟨by decide, by decide, WT_c1 68 rfl rfl⟩
theorem gf_X4_24 : GF RX4 24 4 4 := ⟨by decide, by decide, Or.inl (WT_c1 70 rfl rfl)⟩
theorem gw_X4_24 : 4 < 13 ∧ 4 < cN 4 ∧ Cond.fieldLink RX4 24 (cT 4 4).1 (cT 4 4).2.1 (cT 4 4).2.2.1 ∈ WT := ⟨by decide, by decide, WT_c1 70 rfl rfl⟩
theorem gm_X4_31 : Cond.methodLink RX4 31 Lib.Math.min.name ∈ WT := WT_c4 24 rfl rfl
theorem go_X4_3 : Cond.methodLink RX4 3 Lib.objectInit ∈ WT := WT_c1 61 rfl rfl
theorem go_X5_1 : Cond.methodLink RX5 1 Lib.objectInit ∈ WT := WT_c2 59 rfl rfl
theorem yb_X6_15 : YB RX6 15 yX11_isIn cX11_isIn 3 (some .boolean) 3 := ⟨Or.inr ⟨"SunVillage", NW_c2 216 rfl rfl⟩, WT_c1 143 rfl rfl, WT_c1 1 rfl rfl, by decide +kernel, by decide +kernel, by decide +kernel⟩
theorem ys_X6_15 : Cond.static yX11_isIn ∈ WT := WT_c1 142 rfl rfl
theorem gf_X6_19 : GF RX6 19 6 1 := ⟨by decide, by decide, Or.inl (WT_c1 97 rfl rfl)⟩
theorem gw_X6_19 : 6 < 13 ∧ 1 < cN 6 ∧ Cond.fieldLink RX6 19 (cT 6 1).1 (cT 6 1).2.1 (cT 6 1).2.2.1 ∈ WT := ⟨by decide, by decide, WT_c1 97 rfl rfl⟩
theorem gf_X6_9 : GF RX6 9 6 0 := ⟨by decide, by decide, Or.inl (WT_c1 94 rfl rfl)⟩
theorem gw_X6_9 : 6 < 13 ∧ 0 < cN 6 ∧ Cond.fieldLink RX6 9 (cT 6 0).1 (cT 6 0).2.1 (cT 6 0).2.2.1 ∈ WT := ⟨by decide, by decide, WT_c1 94 rfl rfl⟩
theorem go_X6_3 : Cond.methodLink RX6 3 Lib.objectInit ∈ WT := WT_c1 93 rfl rfl
theorem yb_X6_23 : YB RX6 23 yX6_sort cX6_sort 3 (some .int) 1 := ⟨Or.inl (WT_c2 237 rfl rfl), WT_c3 0 rfl rfl, WT_c1 4 rfl rfl, by decide +kernel, by decide +kernel, by decide +kernel⟩
theorem yi_X6_23 : Cond.instanceMethod yX6_sort ∈ WT := WT_c2 238 rfl rfl
theorem yv_X6_23 : YV RX6 23 yX6_sort cX6_sort 3 (some .int) 1 6 := ⟨yb_X6_23, yi_X6_23, WT_c2 239 rfl rfl, by decide⟩
theorem gf_X7_22 : GF RX7 22 7 4 := ⟨by decide, by decide, Or.inl (WT_c2 114 rfl rfl)⟩
theorem gw_X7_22 : 7 < 13 ∧ 4 < cN 7 ∧ Cond.fieldLink RX7 22 (cT 7 4).1 (cT 7 4).2.1 (cT 7 4).2.2.1 ∈ WT := ⟨by decide, by decide, WT_c2 114 rfl rfl⟩
theorem gf_X7_17 : GF RX7 17 7 3 := ⟨by decide, by decide, Or.inl (WT_c2 112 rfl rfl)⟩
theorem gw_X7_17 : 7 < 13 ∧ 3 < cN 7 ∧ Cond.fieldLink RX7 17 (cT 7 3).1 (cT 7 3).2.1 (cT 7 3).2.2.1 ∈ WT := ⟨by decide, by decide, WT_c2 112 rfl rfl⟩
theorem go_X7_3 : Cond.methodLink RX7 3 Lib.objectInit ∈ WT := WT_c2 52 rfl rfl
theorem gc_X7_9 : Cond.classLink RX7 9 "SunVillage$Rule" ∈ WT := WT_c2 53 rfl rfl
theorem gf_X7_11 : GF RX7 11 7 0 := ⟨by decide, by decide, Or.inl (WT_c2 102 rfl rfl)⟩
theorem gw_X7_11 : 7 < 13 ∧ 0 < cN 7 ∧ Cond.fieldLink RX7 11 (cT 7 0).1 (cT 7 0).2.1 (cT 7 0).2.2.1 ∈ WT := ⟨by decide, by decide, WT_c2 102 rfl rfl⟩
theorem yb_X7_21 : YB RX7 21 yX5_init cX5_init 1 none 0 := ⟨Or.inr ⟨"SunVillage", NW_c2 56 rfl rfl⟩, WT_c2 58 rfl rfl, WT_c1 11 rfl rfl, by decide +kernel, by decide +kernel, by decide +kernel⟩
theorem yi_X7_21 : Cond.instanceMethod yX5_init ∈ WT := WT_c2 57 rfl rfl
theorem gf_X8_21 : GF RX8 21 7 5 := ⟨by decide, by decide, Or.inr ⟨"SunVillage", NW_c2 116 rfl rfl⟩⟩
theorem gf_X8_24 : GF RX8 24 7 6 := ⟨by decide, by decide, Or.inr ⟨"SunVillage", NW_c2 117 rfl rfl⟩⟩
theorem gf_X8_11 : GF RX8 11 8 0 := ⟨by decide, by decide, Or.inl (WT_c1 224 rfl rfl)⟩
theorem gw_X8_11 : 8 < 13 ∧ 0 < cN 8 ∧ Cond.fieldLink RX8 11 (cT 8 0).1 (cT 8 0).2.1 (cT 8 0).2.2.1 ∈ WT := ⟨by decide, by decide, WT_c1 224 rfl rfl⟩
theorem gf_X8_17 : GF RX8 17 8 1 := ⟨by decide, by decide, Or.inl (WT_c1 225 rfl rfl)⟩
theorem gw_X8_17 : 8 < 13 ∧ 1 < cN 8 ∧ Cond.fieldLink RX8 17 (cT 8 1).1 (cT 8 1).2.1 (cT 8 1).2.2.1 ∈ WT := ⟨by decide, by decide, WT_c1 225 rfl rfl⟩
theorem gm_X8_32 : Cond.methodLink RX8 32 Lib.Math.min.name ∈ WT := WT_c4 30 rfl rfl
theorem go_X8_3 : Cond.methodLink RX8 3 Lib.objectInit ∈ WT := WT_c1 221 rfl rfl
theorem gc_X8_9 : Cond.classLink RX8 9 "SunVillage$Text" ∈ WT := WT_c1 222 rfl rfl
theorem yb_X8_27 : YB RX8 27 yX8_add cX8_add 4 none 3 := ⟨Or.inl (WT_c3 231 rfl rfl), WT_c3 222 rfl rfl, WT_c1 7 rfl rfl, by decide +kernel, by decide +kernel, by decide +kernel⟩
theorem yi_X8_27 : Cond.instanceMethod yX8_add ∈ WT := WT_c3 220 rfl rfl
theorem yv_X8_27 : YV RX8 27 yX8_add cX8_add 4 none 3 8 := ⟨yb_X8_27, yi_X8_27, WT_c3 221 rfl rfl, by decide⟩
theorem gf_X8_31 : GF RX8 31 7 1 := ⟨by decide, by decide, Or.inr ⟨"SunVillage", NW_c2 107 rfl rfl⟩⟩
theorem gs_X9_12 : Cond.fieldLink RX9 12 "SunVillage$Token" "NUMBER" "LSunVillage$Token;" ∈ WT := WT_c3 118 rfl rfl
theorem gs_X9_15 : Cond.fieldLink RX9 15 "SunVillage$Token" "OPEN" "LSunVillage$Token;" ∈ WT := WT_c3 119 rfl rfl
theorem gt_X9_131 : Cond.fieldLink RX9 131 "SunVillage$Token" "code" "I" ∈ WT ∨ ∃ host, Cond.fieldLinkNest RX9 131 "SunVillage$Token" "code" "I" host ∈ NWs := Or.inl (WT_c7 98 rfl rfl)
theorem yb_X9_158 : YB RX9 158 yX9_isOperator cX9_isOperator 1 (some .boolean) 0 := ⟨Or.inl (WT_c3 121 rfl rfl), WT_c3 124 rfl rfl, WT_c1 15 rfl rfl, by decide +kernel, by decide +kernel, by decide +kernel⟩
theorem yi_X9_158 : Cond.instanceMethod yX9_isOperator ∈ WT := WT_c3 122 rfl rfl
theorem yv_X9_158 : YV RX9 158 yX9_isOperator cX9_isOperator 1 (some .boolean) 0 9 := ⟨yb_X9_158, yi_X9_158, WT_c3 123 rfl rfl, by decide⟩
theorem gs_X9_51 : Cond.fieldLink RX9 51 "SunVillage$Token" "WHEN" "LSunVillage$Token;" ∈ WT := WT_c3 89 rfl rfl
theorem gs_X9_54 : Cond.fieldLink RX9 54 "SunVillage$Token" "GIVE" "LSunVillage$Token;" ∈ WT := WT_c3 91 rfl rfl
theorem gs_X9_57 : Cond.fieldLink RX9 57 "SunVillage$Token" "FILL" "LSunVillage$Token;" ∈ WT := WT_c3 93 rfl rfl
theorem gs_X9_60 : Cond.fieldLink RX9 60 "SunVillage$Token" "PRICE" "LSunVillage$Token;" ∈ WT := WT_c3 95 rfl rfl
theorem gs_X9_45 : Cond.fieldLink RX9 45 "SunVillage$Token" "LESS" "LSunVillage$Token;" ∈ WT := WT_c3 142 rfl rfl
theorem gs_X9_48 : Cond.fieldLink RX9 48 "SunVillage$Token" "EQUAL" "LSunVillage$Token;" ∈ WT := WT_c3 144 rfl rfl
theorem gs_X9_39 : Cond.fieldLink RX9 39 "SunVillage$Token" "PLUS" "LSunVillage$Token;" ∈ WT := WT_c3 125 rfl rfl
theorem gt_X9_127 : Cond.fieldLink RX9 127 "SunVillage$Token" "spelling" "Ljava/lang/String;" ∈ WT ∨ ∃ host, Cond.fieldLinkNest RX9 127 "SunVillage$Token" "spelling" "Ljava/lang/String;" host ∈ NWs := Or.inl (WT_c7 95 rfl rfl)
theorem gf_X9_152 : GF RX9 152 6 0 := ⟨by decide, by decide, Or.inr ⟨"SunVillage", NW_c1 95 rfl rfl⟩⟩
theorem gs_X9_30 : Cond.fieldLink RX9 30 "SunVillage$Token" "POOL" "LSunVillage$Token;" ∈ WT := WT_c3 166 rfl rfl
theorem gs_X9_33 : Cond.fieldLink RX9 33 "SunVillage$Token" "STORE" "LSunVillage$Token;" ∈ WT := WT_c3 168 rfl rfl
theorem gs_X9_93 : Cond.fieldLink RX9 93 "SunVillage$Token" "BUY" "LSunVillage$Token;" ∈ WT := WT_c3 170 rfl rfl
theorem gs_X9_96 : Cond.fieldLink RX9 96 "SunVillage$Token" "SELL" "LSunVillage$Token;" ∈ WT := WT_c3 172 rfl rfl
theorem gs_X9_135 : Cond.fieldLink RX9 135 "SunVillage$Token" "EACH" "[LSunVillage$Token;" ∈ WT := WT_c3 13 rfl rfl
theorem yb_X9_138 : YB RX9 138 yX9_isSpelled cX9_isSpelled 5 (some .boolean) 3 := ⟨Or.inl (WT_c3 15 rfl rfl), WT_c3 19 rfl rfl, WT_c1 15 rfl rfl, by decide +kernel, by decide +kernel, by decide +kernel⟩
theorem yi_X9_138 : Cond.instanceMethod yX9_isSpelled ∈ WT := WT_c3 17 rfl rfl
theorem yv_X9_138 : YV RX9 138 yX9_isSpelled cX9_isSpelled 5 (some .boolean) 3 9 := ⟨yb_X9_138, yi_X9_138, WT_sel 2 (by decide +kernel) rfl, by decide⟩
theorem gs_X9_5 : Cond.fieldLink RX9 5 "SunVillage$Token" "NOTHING" "LSunVillage$Token;" ∈ WT := WT_c3 68 rfl rfl
theorem gi_0 : Cond.instantiable (cS 0) (cN 0) ∈ WT := WT_c2 33 rfl rfl
theorem gz_0 : Cond.initialized (cS 0) ∈ WT := WT_c1 9 rfl rfl
theorem gi_1 : Cond.instantiable (cS 1) (cN 1) ∈ WT := WT_c1 233 rfl rfl
theorem gz_1 : Cond.initialized (cS 1) ∈ WT := WT_c1 8 rfl rfl
theorem gi_2 : Cond.instantiable (cS 2) (cN 2) ∈ WT := WT_c1 34 rfl rfl
theorem gz_2 : Cond.initialized (cS 2) ∈ WT := WT_c1 2 rfl rfl
theorem gi_3 : Cond.instantiable (cS 3) (cN 3) ∈ WT := WT_c1 106 rfl rfl
theorem gz_3 : Cond.initialized (cS 3) ∈ WT := WT_c1 5 rfl rfl
theorem gi_4 : Cond.instantiable (cS 4) (cN 4) ∈ WT := WT_c1 57 rfl rfl
theorem gz_4 : Cond.initialized (cS 4) ∈ WT := WT_c1 3 rfl rfl
theorem gi_5 : Cond.instantiable (cS 5) (cN 5) ∈ WT := WT_c2 55 rfl rfl
theorem gz_5 : Cond.initialized (cS 5) ∈ WT := WT_c1 11 rfl rfl
theorem gi_6 : Cond.instantiable (cS 6) (cN 6) ∈ WT := WT_c1 89 rfl rfl
theorem gz_6 : Cond.initialized (cS 6) ∈ WT := WT_c1 4 rfl rfl
theorem gi_7 : Cond.instantiable (cS 7) (cN 7) ∈ WT := WT_c2 48 rfl rfl
theorem gz_7 : Cond.initialized (cS 7) ∈ WT := WT_c1 10 rfl rfl
theorem gi_8 : Cond.instantiable (cS 8) (cN 8) ∈ WT := WT_c1 217 rfl rfl
theorem gz_8 : Cond.initialized (cS 8) ∈ WT := WT_c1 7 rfl rfl
theorem gz_9 : Cond.initialized (cS 9) ∈ WT := WT_c1 15 rfl rfl
theorem gi_10 : Cond.instantiable (cS 10) (cN 10) ∈ WT := WT_c1 139 rfl rfl
theorem gz_10 : Cond.initialized (cS 10) ∈ WT := WT_c1 6 rfl rfl
theorem gi_11 : Cond.instantiable (cS 11) (cN 11) ∈ WT := WT_c1 26 rfl rfl
theorem gz_11 : Cond.initialized (cS 11) ∈ WT := WT_c1 1 rfl rfl
theorem gi_12 : Cond.instantiable (cS 12) (cN 12) ∈ WT := WT_c5 84 rfl rfl
theorem gz_12 : Cond.initialized (cS 12) ∈ WT := WT_c1 12 rfl rfl
theorem ga_int : Cond.arrayClass .int ∈ WT := WT_c1 55 rfl rfl
theorem ga_long : Cond.arrayClass .long ∈ WT := WT_c6 102 rfl rfl
theorem ga_boolean : Cond.arrayClass .boolean ∈ WT := WT_c1 215 rfl rfl
theorem ga_char : Cond.arrayClass .char ∈ WT := WT_c1 104 rfl rfl
theorem mS_min : Cond.static Lib.Math.min.name ∈ WT := WT_c2 202 rfl rfl
theorem mC_min : Cond.code Lib.Math.min.name Lib.Math.min.code 2 (some .int) ∈ WT := WT_c2 203 rfl rfl
theorem mS_max : Cond.static Lib.Math.max.name ∈ WT := WT_c4 18 rfl rfl
theorem mC_max : Cond.code Lib.Math.max.name Lib.Math.max.code 2 (some .int) ∈ WT := WT_c4 19 rfl rfl
theorem mS_minL : Cond.static Lib.MathLoose.min_long.x ∈ WT := WT_c4 138 rfl rfl
theorem mC_minL : Cond.code Lib.MathLoose.min_long.x Lib.MathLoose.min_long.code 4 (some .long) ∈ WT := WT_c4 139 rfl rfl
theorem mI : Cond.initialized "java/lang/Math" ∈ WT := WT_c1 13 rfl rfl
theorem oI : Cond.instanceMethod Lib.objectInit ∈ WT := WT_c1 31 rfl rfl
theorem oC : Cond.code Lib.objectInit ⟨#[0xb1]⟩ 1 none ∈ WT := WT_c1 32 rfl rfl
end
section
/-! ===== THE DECODED METHODS ===== -/
def L_L_bill : List (Nat × Instr × Nat) := [(0, .aload_n 3, 1), (1, .iconst 0, 1), (2, .aload_n 0, 1), (3, .iload_n 1, 1), (4, .iload_n 2, 1), (5, .invokevirtual 19, 3), (8, .i2l, 1), (9, .lastore, 1), (10, .goto 7, 3), (13, .astore 4, 2), (15, .iconst 1, 1), (16, .ireturn, 1), (17, .iconst 0, 1), (18, .ireturn, 1)]
set_option maxRecDepth 20000 in
theorem D_L_bill : ∀ q ∈ L_L_bill, decode cL_bill q.1 = .ok q.2 := by decide +kernel
def L_L_cell : List (Nat × Instr × Nat) := [(0, .iload_n 1, 1), (1, .aload_n 0, 1), (2, .arraylength, 1), (3, .if_icmp .ge 9, 3), (6, .aload_n 0, 1), (7, .iload_n 1, 1), (8, .iaload, 1), (9, .goto 4, 3), (12, .iconst 0, 1), (13, .ireturn, 1)]
set_option maxRecDepth 20000 in
theorem D_L_cell : ∀ q ∈ L_L_cell, decode cL_cell q.1 = .ok q.2 := by decide +kernel
def L_L_had : List (Nat × Instr × Nat) := [(0, .aload 4, 2), (2, .iconst 0, 1), (3, .aload_n 0, 1), (4, .iload_n 1, 1), (5, .iload_n 2, 1), (6, .iload_n 3, 1), (7, .invokevirtual 7, 3), (10, .i2l, 1), (11, .lastore, 1), (12, .goto 7, 3), (15, .astore 5, 2), (17, .iconst 1, 1), (18, .ireturn, 1), (19, .iconst 0, 1), (20, .ireturn, 1)]
set_option maxRecDepth 20000 in
theorem D_L_had : ∀ q ∈ L_L_had, decode cL_had q.1 = .ok q.2 := by decide +kernel
def L_L_law : List (Nat × Instr × Nat) := [(0, .new 8, 3), (3, .dup, 1), (4, .aload_n 0, 1), (5, .iconst 0, 1), (6, .invokestatic 22, 3), (9, .aload_n 0, 1), (10, .iconst 1, 1), (11, .invokestatic 22, 3), (14, .invokespecial 28, 3), (17, .astore_n 1, 1), (18, .new 31, 3), (21, .dup, 1), (22, .aload_n 0, 1), (23, .iconst 0, 1), (24, .invokestatic 22, 3), (27, .aload_n 0, 1), (28, .iconst 1, 1), (29, .invokestatic 22, 3), (32, .invokespecial 33, 3), (35, .astore_n 2, 1), (36, .iconst 1, 1), (37, .newarray .long, 2), (39, .astore_n 3, 1), (40, .iconst 2, 1), (41, .istore 4, 2), (43, .iload 4, 2), (45, .aload_n 0, 1), (46, .arraylength, 1), (47, .bipush 7, 2), (49, .isub, 1), (50, .if_icmp .gt 761, 3), (53, .aload_n 0, 1), (54, .iload 4, 2), (56, .iaload, 1), (57, .bipush 15, 2), (59, .iand, 1), (60, .tableswitch 745 0 13 #[72, 109, 170, 195, 342, 367, 380, 405, 485, 553, 602, 639, 652, 720], 72), (132, .aload_n 1, 1), (133, .aload_n 0, 1), (134, .iload 4, 2), (136, .iconst 1, 1), (137, .iadd, 1), (138, .iaload, 1), (139, .aload_n 0, 1), (140, .iload 4, 2), (142, .iconst 2, 1), (143, .iadd, 1), (144, .iaload, 1), (145, .invokevirtual 34, 3), (148, .aload_n 2, 1), (149, .aload_n 0, 1), (150, .iload 4, 2), (152, .iconst 1, 1), (153, .iadd, 1), (154, .iaload, 1), (155, .aload_n 0, 1), (156, .iload 4, 2), (158, .iconst 2, 1), (159, .iadd, 1), (160, .iaload, 1), (161, .invokevirtual 37, 3), (164, .if_icmp .eq 641, 3), (167, .iconst 0, 1), (168, .ireturn, 1), (169, .aload_n 1, 1), (170, .aload_n 0, 1), (171, .iload 4, 2), (173, .iconst 1, 1), (174, .iadd, 1), (175, .iaload, 1), (176, .aload_n 0, 1), (177, .iload 4, 2), (179, .iconst 2, 1), (180, .iadd, 1), (181, .iaload, 1), (182, .aload_n 0, 1), (183, .iload 4, 2), (185, .iconst 3, 1), (186, .iadd, 1), (187, .iaload, 1), (188, .aload_n 0, 1), (189, .iload 4, 2), (191, .iconst 4, 1), (192, .iadd, 1), (193, .iaload, 1), (194, .invokevirtual 38, 3), (197, .aload_n 2, 1), (198, .aload_n 0, 1), (199, .iload 4, 2), (201, .iconst 1, 1), (202, .iadd, 1), (203, .iaload, 1), (204, .aload_n 0, 1), (205, .iload 4, 2), (207, .iconst 2, 1), (208, .iadd, 1), (209, .iaload, 1), (210, .aload_n 0, 1), (211, .iload 4, 2), (213, .iconst 3, 1), (214, .iadd, 1), (215, .iaload, 1), (216, .aload_n 0, 1), (217, .iload 4, 2), (219, .iconst 4, 1), (220, .iadd, 1), (221, .iaload, 1), (222, .invokevirtual 42, 3), (225, .if_icmp .eq 580, 3), (228, .iconst 0, 1), (229, .ireturn, 1), (230, .aload_n 1, 1), (231, .aload_n 0, 1), (232, .iload 4, 2), (234, .iconst 1, 1), (235, .iadd, 1), (236, .iaload, 1), (237, .invokevirtual 43, 3), (240, .aload_n 2, 1), (241, .aload_n 0, 1), (242, .iload 4, 2), (244, .iconst 1, 1), (245, .iadd, 1), (246, .iaload, 1), (247, .invokevirtual 47, 3), (250, .if_icmp .eq 555, 3), (253, .iconst 0, 1), (254, .ireturn, 1), (255, .aload_n 1, 1), (256, .aload_n 0, 1), (257, .iload 4, 2), (259, .iconst 1, 1), (260, .iadd, 1), (261, .iaload, 1), (262, .i2l, 1), (263, .bipush 32, 2), (265, .lshl, 1), (266, .aload_n 0, 1), (267, .iload 4, 2), (269, .iconst 2, 1), (270, .iadd, 1), (271, .iaload, 1), (272, .i2l, 1), (273, .ldc2_w 48, 3), (276, .land, 1), (277, .lor, 1), (278, .aload_n 0, 1), (279, .iload 4, 2), (281, .iconst 3, 1), (282, .iadd, 1), (283, .iaload, 1), (284, .i2l, 1), (285, .bipush 32, 2), (287, .lshl, 1), (288, .aload_n 0, 1), (289, .iload 4, 2), (291, .iconst 4, 1), (292, .iadd, 1), (293, .iaload, 1), (294, .i2l, 1), (295, .ldc2_w 48, 3), (298, .land, 1), (299, .lor, 1), (300, .aload_n 0, 1), (301, .iload 4, 2), (303, .iconst 5, 1), (304, .iadd, 1), (305, .iaload, 1), (306, .i2l, 1), (307, .bipush 32, 2), (309, .lshl, 1), (310, .aload_n 0, 1), (311, .iload 4, 2), (313, .bipush 6, 2), (315, .iadd, 1), (316, .iaload, 1), (317, .i2l, 1), (318, .ldc2_w 48, 3), (321, .land, 1), (322, .lor, 1), (323, .invokevirtual 50, 3), (326, .aload_n 2, 1), (327, .aload_n 0, 1), (328, .iload 4, 2), (330, .iconst 1, 1), (331, .iadd, 1), (332, .iaload, 1), (333, .i2l, 1), (334, .bipush 32, 2), (336, .lshl, 1), (337, .aload_n 0, 1), (338, .iload 4, 2), (340, .iconst 2, 1), (341, .iadd, 1), (342, .iaload, 1), (343, .i2l, 1), (344, .ldc2_w 48, 3), (347, .land, 1), (348, .lor, 1), (349, .aload_n 0, 1), (350, .iload 4, 2), (352, .iconst 3, 1), (353, .iadd, 1), (354, .iaload, 1), (355, .i2l, 1), (356, .bipush 32, 2), (358, .lshl, 1), (359, .aload_n 0, 1), (360, .iload 4, 2), (362, .iconst 4, 1), (363, .iadd, 1), (364, .iaload, 1), (365, .i2l, 1), (366, .ldc2_w 48, 3), (369, .land, 1), (370, .lor, 1), (371, .aload_n 0, 1), (372, .iload 4, 2), (374, .iconst 5, 1), (375, .iadd, 1), (376, .iaload, 1), (377, .i2l, 1), (378, .bipush 32, 2), (380, .lshl, 1), (381, .aload_n 0, 1), (382, .iload 4, 2), (384, .bipush 6, 2), (386, .iadd, 1), (387, .iaload, 1), (388, .i2l, 1), (389, .ldc2_w 48, 3), (392, .land, 1), (393, .lor, 1), (394, .invokevirtual 54, 3), (397, .if_icmp .eq 408, 3), (400, .iconst 0, 1), (401, .ireturn, 1), (402, .aload_n 1, 1), (403, .aload_n 0, 1), (404, .iload 4, 2), (406, .iconst 1, 1), (407, .iadd, 1), (408, .iaload, 1), (409, .invokevirtual 55, 3), (412, .aload_n 2, 1), (413, .aload_n 0, 1), (414, .iload 4, 2), (416, .iconst 1, 1), (417, .iadd, 1), (418, .iaload, 1), (419, .invokevirtual 58, 3), (422, .if_icmp .eq 383, 3), (425, .iconst 0, 1), (426, .ireturn, 1), (427, .aload_n 1, 1), (428, .invokevirtual 59, 3), (431, .aload_n 2, 1), (432, .invokevirtual 63, 3), (435, .if_icmp .eq 370, 3), (438, .iconst 0, 1), (439, .ireturn, 1), (440, .aload_n 1, 1), (441, .aload_n 0, 1), (442, .iload 4, 2), (444, .iconst 1, 1), (445, .iadd, 1), (446, .iaload, 1), (447, .invokevirtual 64, 3), (450, .aload_n 2, 1), (451, .aload_n 0, 1), (452, .iload 4, 2), (454, .iconst 1, 1), (455, .iadd, 1), (456, .iaload, 1), (457, .invokevirtual 68, 3), (460, .if_icmp .eq 345, 3), (463, .iconst 0, 1), (464, .ireturn, 1), (465, .aload_n 1, 1), (466, .aload_n 0, 1), (467, .iload 4, 2), (469, .iconst 1, 1), (470, .iadd, 1), (471, .iaload, 1), (472, .aload_n 0, 1), (473, .iload 4, 2), (475, .iconst 2, 1), (476, .iadd, 1), (477, .iaload, 1), (478, .aload_n 0, 1), (479, .iload 4, 2), (481, .iconst 3, 1), (482, .iadd, 1), (483, .iaload, 1), (484, .aload_n 3, 1), (485, .invokestatic 69, 3), (488, .istore 5, 2), (490, .aload_n 2, 1), (491, .aload_n 0, 1), (492, .iload 4, 2), (494, .iconst 1, 1), (495, .iadd, 1), (496, .iaload, 1), (497, .aload_n 0, 1), (498, .iload 4, 2), (500, .iconst 2, 1), (501, .iadd, 1), (502, .iaload, 1), (503, .aload_n 0, 1), (504, .iload 4, 2), (506, .iconst 3, 1), (507, .iadd, 1), (508, .iaload, 1), (509, .invokevirtual 72, 3), (512, .istore 6, 2), (514, .aload_n 2, 1), (515, .invokevirtual 73, 3), (518, .iload 5, 2), (520, .if_icmp .eq 5, 3), (523, .iconst 0, 1), (524, .ireturn, 1), (525, .iload 5, 2), (527, .ifCond .ne 15, 3), (530, .aload_n 3, 1), (531, .iconst 0, 1), (532, .laload, 1), (533, .iload 6, 2), (535, .i2l, 1), (536, .lcmp, 1), (537, .ifCond .eq 5, 3), (540, .iconst 0, 1), (541, .ireturn, 1), (542, .goto 263, 3), (545, .aload_n 1, 1), (546, .aload_n 0, 1), (547, .iload 4, 2), (549, .iconst 1, 1), (550, .iadd, 1), (551, .iaload, 1), (552, .aload_n 0, 1), (553, .iload 4, 2), (555, .iconst 2, 1), (556, .iadd, 1), (557, .iaload, 1), (558, .aload_n 3, 1), (559, .invokestatic 76, 3), (562, .istore 5, 2), (564, .aload_n 2, 1), (565, .aload_n 0, 1), (566, .iload 4, 2), (568, .iconst 1, 1), (569, .iadd, 1), (570, .iaload, 1), (571, .aload_n 0, 1), (572, .iload 4, 2), (574, .iconst 2, 1), (575, .iadd, 1), (576, .iaload, 1), (577, .invokevirtual 79, 3), (580, .istore 6, 2), (582, .aload_n 2, 1), (583, .invokevirtual 73, 3), (586, .iload 5, 2), (588, .if_icmp .eq 5, 3), (591, .iconst 0, 1), (592, .ireturn, 1), (593, .iload 5, 2), (595, .ifCond .ne 15, 3), (598, .aload_n 3, 1), (599, .iconst 0, 1), (600, .laload, 1), (601, .iload 6, 2), (603, .i2l, 1), (604, .lcmp, 1), (605, .ifCond .eq 5, 3), (608, .iconst 0, 1), (609, .ireturn, 1), (610, .goto 195, 3), (613, .aload_n 1, 1), (614, .aload_n 0, 1), (615, .iload 4, 2), (617, .iconst 1, 1), (618, .iadd, 1), (619, .iaload, 1), (620, .aload_n 0, 1), (621, .iload 4, 2), (623, .iconst 2, 1), (624, .iadd, 1), (625, .iaload, 1), (626, .aload_n 0, 1), (627, .iload 4, 2), (629, .iconst 3, 1), (630, .iadd, 1), (631, .iaload, 1), (632, .invokevirtual 80, 3), (635, .aload_n 2, 1), (636, .aload_n 0, 1), (637, .iload 4, 2), (639, .iconst 1, 1), (640, .iadd, 1), (641, .iaload, 1), (642, .aload_n 0, 1), (643, .iload 4, 2), (645, .iconst 2, 1), (646, .iadd, 1), (647, .iaload, 1), (648, .aload_n 0, 1), (649, .iload 4, 2), (651, .iconst 3, 1), (652, .iadd, 1), (653, .iaload, 1), (654, .invokevirtual 83, 3), (657, .if_icmp .eq 148, 3), (660, .iconst 0, 1), (661, .ireturn, 1), (662, .aload_n 1, 1), (663, .aload_n 0, 1), (664, .iload 4, 2), (666, .iconst 1, 1), (667, .iadd, 1), (668, .iaload, 1), (669, .aload_n 0, 1), (670, .iload 4, 2), (672, .iconst 2, 1), (673, .iadd, 1), (674, .iaload, 1), (675, .invokevirtual 84, 3), (678, .aload_n 2, 1), (679, .aload_n 0, 1), (680, .iload 4, 2), (682, .iconst 1, 1), (683, .iadd, 1), (684, .iaload, 1), (685, .aload_n 0, 1), (686, .iload 4, 2), (688, .iconst 2, 1), (689, .iadd, 1), (690, .iaload, 1), (691, .invokevirtual 87, 3), (694, .if_icmp .eq 111, 3), (697, .iconst 0, 1), (698, .ireturn, 1), (699, .aload_n 1, 1), (700, .invokevirtual 88, 3), (703, .aload_n 2, 1), (704, .invokevirtual 91, 3), (707, .if_icmp .eq 98, 3), (710, .iconst 0, 1), (711, .ireturn, 1), (712, .aload_n 1, 1), (713, .aload_n 0, 1), (714, .iload 4, 2), (716, .iconst 1, 1), (717, .iadd, 1), (718, .iaload, 1), (719, .aload_n 0, 1), (720, .iload 4, 2), (722, .iconst 2, 1), (723, .iadd, 1), (724, .iaload, 1), (725, .aload_n 3, 1), (726, .invokestatic 92, 3), (729, .istore 5, 2), (731, .aload_n 2, 1), (732, .aload_n 0, 1), (733, .iload 4, 2), (735, .iconst 1, 1), (736, .iadd, 1), (737, .iaload, 1), (738, .aload_n 0, 1), (739, .iload 4, 2), (741, .iconst 2, 1), (742, .iadd, 1), (743, .iaload, 1), (744, .invokevirtual 94, 3), (747, .istore 6, 2), (749, .aload_n 2, 1), (750, .invokevirtual 73, 3), (753, .iload 5, 2), (755, .if_icmp .eq 5, 3), (758, .iconst 0, 1), (759, .ireturn, 1), (760, .iload 5, 2), (762, .ifCond .ne 15, 3), (765, .aload_n 3, 1), (766, .iconst 0, 1), (767, .laload, 1), (768, .iload 6, 2), (770, .i2l, 1), (771, .lcmp, 1), (772, .ifCond .eq 5, 3), (775, .iconst 0, 1), (776, .ireturn, 1), (777, .goto 28, 3), (780, .aload_n 1, 1), (781, .aload_n 0, 1), (782, .iload 4, 2), (784, .iconst 1, 1), (785, .iadd, 1), (786, .iaload, 1), (787, .invokevirtual 95, 3), (790, .aload_n 2, 1), (791, .aload_n 0, 1), (792, .iload 4, 2), (794, .iconst 1, 1), (795, .iadd, 1), (796, .iaload, 1), (797, .invokevirtual 98, 3), (800, .if_icmp .eq 5, 3), (803, .iconst 0, 1), (804, .ireturn, 1), (805, .iinc 4 7, 3), (808, .goto (-765), 3), (811, .iconst 1, 1), (812, .ireturn, 1)]
set_option maxRecDepth 20000 in
theorem D_L_law : ∀ q ∈ L_L_law, decode cL_law q.1 = .ok q.2 := by decide +kernel
def L_L_quarter : List (Nat × Instr × Nat) := [(0, .aload_n 3, 1), (1, .iconst 0, 1), (2, .aload_n 0, 1), (3, .iload_n 1, 1), (4, .iload_n 2, 1), (5, .invokevirtual 15, 3), (8, .i2l, 1), (9, .lastore, 1), (10, .goto 7, 3), (13, .astore 4, 2), (15, .iconst 1, 1), (16, .ireturn, 1), (17, .iconst 0, 1), (18, .ireturn, 1)]
set_option maxRecDepth 20000 in
theorem D_L_quarter : ∀ q ∈ L_L_quarter, decode cL_quarter q.1 = .ok q.2 := by decide +kernel
def L_X0_init : List (Nat × Instr × Nat) := [(0, .aload_n 0, 1), (1, .invokespecial 3, 3), (4, .aload_n 0, 1), (5, .sipush 140, 3), (8, .newarray .int, 2), (10, .putfield 11, 3), (13, .return_, 1)]
set_option maxRecDepth 20000 in
theorem D_X0_init : ∀ q ∈ L_X0_init, decode cX0_init q.1 = .ok q.2 := by decide +kernel
def L_X0_slot : List (Nat × Instr × Nat) := [(0, .iload_n 0, 1), (1, .bipush 14, 2), (3, .imul, 1), (4, .iload_n 1, 1), (5, .iadd, 1), (6, .bipush (-2), 2), (8, .isub, 1), (9, .ireturn, 1)]
set_option maxRecDepth 20000 in
theorem D_X0_slot : ∀ q ∈ L_X0_slot, decode cX0_slot q.1 = .ok q.2 := by decide +kernel
def L_X0_write : List (Nat × Instr × Nat) := [(0, .iconst 0, 1), (1, .istore_n 3, 1), (2, .iconst 0, 1), (3, .istore 4, 2), (5, .iload 4, 2), (7, .aload_n 0, 1), (8, .getfield 15, 3), (11, .if_icmp .ge 23, 3), (14, .iload_n 3, 1), (15, .aload_n 0, 1), (16, .getfield 11, 3), (19, .iload 4, 2), (21, .iload_n 1, 1), (22, .invokestatic 19, 3), (25, .iaload, 1), (26, .iadd, 1), (27, .istore_n 3, 1), (28, .iinc 4 1, 3), (31, .goto (-26), 3), (34, .aload_n 0, 1), (35, .getfield 11, 3), (38, .aload_n 0, 1), (39, .getfield 15, 3), (42, .iload_n 1, 1), (43, .invokestatic 19, 3), (46, .iload_n 2, 1), (47, .iload_n 3, 1), (48, .isub, 1), (49, .iastore, 1), (50, .return_, 1)]
set_option maxRecDepth 20000 in
theorem D_X0_write : ∀ q ∈ L_X0_write, decode cX0_write q.1 = .ok q.2 := by decide +kernel
def L_X1_bought : List (Nat × Instr × Nat) := [(0, .aload_n 0, 1), (1, .iload_n 2, 1), (2, .invokevirtual 158, 3), (5, .aload_n 0, 1), (6, .getfield 27, 3), (9, .getfield 172, 3), (12, .iload_n 1, 1), (13, .iaload, 1), (14, .aload_n 0, 1), (15, .getfield 15, 3), (18, .iload_n 2, 1), (19, .iaload, 1), (20, .isub, 1), (21, .aload_n 0, 1), (22, .getfield 18, 3), (25, .iload_n 2, 1), (26, .iaload, 1), (27, .isub, 1), (28, .invokestatic 47, 3), (31, .ireturn, 1)]
set_option maxRecDepth 20000 in
theorem D_X1_bought : ∀ q ∈ L_X1_bought, decode cX1_bought q.1 = .ok q.2 := by decide +kernel
def L_X1_bringIn : List (Nat × Instr × Nat) := [(0, .iload_n 1, 1), (1, .iload_n 2, 1), (2, .invokestatic 81, 3), (5, .istore_n 3, 1), (6, .aload_n 0, 1), (7, .getfield 9, 3), (10, .iload_n 3, 1), (11, .iaload, 1), (12, .iconst (-1), 1), (13, .if_icmp .ne 22, 3), (16, .iload_n 2, 1), (17, .ifCond .le 18, 3), (20, .aload_n 0, 1), (21, .getfield 9, 3), (24, .iload_n 3, 1), (25, .aload_n 0, 1), (26, .getfield 9, 3), (29, .iload_n 3, 1), (30, .bipush 12, 2), (32, .isub, 1), (33, .iaload, 1), (34, .iastore, 1), (35, .iload_n 2, 1), (36, .bipush 24, 2), (38, .irem, 1), (39, .ifCond .ne 7, 3), (42, .iconst 0, 1), (43, .goto 12, 3), (46, .aload_n 0, 1), (47, .getfield 21, 3), (50, .iload_n 3, 1), (51, .bipush 12, 2), (53, .isub, 1), (54, .iaload, 1), (55, .istore 4, 2), (57, .aload_n 0, 1), (58, .getfield 39, 3), (61, .iload_n 1, 1), (62, .aload_n 0, 1), (63, .iload_n 3, 1), (64, .invokevirtual 133, 3), (67, .aload_n 0, 1), (68, .iload_n 3, 1), (69, .invokevirtual 137, 3), (72, .iload 4, 2), (74, .invokevirtual 140, 3), (77, .return_, 1)]
set_option maxRecDepth 20000 in
theorem D_X1_bringIn : ∀ q ∈ L_X1_bringIn, decode cX1_bringIn q.1 = .ok q.2 := by decide +kernel
def L_X1_byRules : List (Nat × Instr × Nat) := [(0, .iload_n 1, 1), (1, .iload_n 2, 1), (2, .invokestatic 81, 3), (5, .istore_n 3, 1), (6, .aload_n 0, 1), (7, .getfield 15, 3), (10, .iload_n 3, 1), (11, .iaload, 1), (12, .aload_n 0, 1), (13, .getfield 18, 3), (16, .iload_n 3, 1), (17, .iaload, 1), (18, .iadd, 1), (19, .ireturn, 1)]
set_option maxRecDepth 20000 in
theorem D_X1_byRules : ∀ q ∈ L_X1_byRules, decode cX1_byRules q.1 = .ok q.2 := by decide +kernel
def L_X1_cell : List (Nat × Instr × Nat) := [(0, .iload_n 1, 1), (1, .bipush 12, 2), (3, .imul, 1), (4, .iload_n 0, 1), (5, .iadd, 1), (6, .ireturn, 1)]
set_option maxRecDepth 20000 in
theorem D_X1_cell : ∀ q ∈ L_X1_cell, decode cX1_cell q.1 = .ok q.2 := by decide +kernel
def L_X1_coins : List (Nat × Instr × Nat) := [(0, .iload_n 1, 1), (1, .iload_n 2, 1), (2, .invokestatic 81, 3), (5, .istore_n 3, 1), (6, .aload_n 0, 1), (7, .iload_n 3, 1), (8, .invokevirtual 137, 3), (11, .aload_n 0, 1), (12, .iload_n 3, 1), (13, .invokevirtual 152, 3), (16, .isub, 1), (17, .istore 4, 2), (19, .aload_n 0, 1), (20, .getfield 15, 3), (23, .iload_n 3, 1), (24, .iaload, 1), (25, .iload 4, 2), (27, .isub, 1), (28, .aload_n 0, 1), (29, .iload_n 2, 1), (30, .bipush 10, 2), (32, .invokevirtual 100, 3), (35, .imul, 1), (36, .aload_n 0, 1), (37, .getfield 18, 3), (40, .iload_n 3, 1), (41, .iaload, 1), (42, .aload_n 0, 1), (43, .iload_n 2, 1), (44, .bipush 11, 2), (46, .invokevirtual 100, 3), (49, .imul, 1), (50, .iadd, 1), (51, .aload_n 0, 1), (52, .iload_n 1, 1), (53, .iload_n 3, 1), (54, .invokevirtual 155, 3), (57, .aload_n 0, 1), (58, .iload_n 2, 1), (59, .bipush 12, 2), (61, .invokevirtual 100, 3), (64, .imul, 1), (65, .iadd, 1), (66, .ireturn, 1)]
set_option maxRecDepth 20000 in
theorem D_X1_coins : ∀ q ∈ L_X1_coins, decode cX1_coins q.1 = .ok q.2 := by decide +kernel
def L_X1_coinsUpTo : List (Nat × Instr × Nat) := [(0, .iconst 0, 1), (1, .istore_n 3, 1), (2, .iconst 0, 1), (3, .istore 4, 2), (5, .iload 4, 2), (7, .iload_n 2, 1), (8, .if_icmp .ge 55, 3), (11, .iload_n 1, 1), (12, .bipush (-2), 2), (14, .if_icmp .ne 17, 3), (17, .iload_n 3, 1), (18, .aload_n 0, 1), (19, .iload 4, 2), (21, .bipush 9, 2), (23, .invokevirtual 100, 3), (26, .iadd, 1), (27, .istore_n 3, 1), (28, .goto 29, 3), (31, .iload_n 3, 1), (32, .iload_n 1, 1), (33, .iconst (-1), 1), (34, .if_icmp .ne 14, 3), (37, .aload_n 0, 1), (38, .iload 4, 2), (40, .bipush 8, 2), (42, .invokevirtual 100, 3), (45, .goto 10, 3), (48, .aload_n 0, 1), (49, .iload_n 1, 1), (50, .iload 4, 2), (52, .invokevirtual 165, 3), (55, .iadd, 1), (56, .istore_n 3, 1), (57, .iinc 4 1, 3), (60, .goto (-55), 3), (63, .iload_n 3, 1), (64, .ireturn, 1)]
set_option maxRecDepth 20000 in
theorem D_X1_coinsUpTo : ∀ q ∈ L_X1_coinsUpTo, decode cX1_coinsUpTo q.1 = .ok q.2 := by decide +kernel
def L_X1_forgetFrom : List (Nat × Instr × Nat) := [(0, .aload_n 0, 1), (1, .aload_n 0, 1), (2, .getfield 43, 3), (5, .iload_n 1, 1), (6, .invokestatic 47, 3), (9, .putfield 43, 3), (12, .return_, 1)]
set_option maxRecDepth 20000 in
theorem D_X1_forgetFrom : ∀ q ∈ L_X1_forgetFrom, decode cX1_forgetFrom q.1 = .ok q.2 := by decide +kernel
def L_X1_gives : List (Nat × Instr × Nat) := [(0, .aload_n 0, 1), (1, .getfield 9, 3), (4, .iload_n 1, 1), (5, .iaload, 1), (6, .iconst (-1), 1), (7, .if_icmp .ne 7, 3), (10, .iconst 0, 1), (11, .goto 17, 3), (14, .aload_n 0, 1), (15, .getfield 31, 3), (18, .getfield 170, 3), (21, .aload_n 0, 1), (22, .getfield 9, 3), (25, .iload_n 1, 1), (26, .iaload, 1), (27, .iaload, 1), (28, .ireturn, 1)]
set_option maxRecDepth 20000 in
theorem D_X1_gives : ∀ q ∈ L_X1_gives, decode cX1_gives q.1 = .ok q.2 := by decide +kernel
def L_X1_init : List (Nat × Instr × Nat) := [(0, .aload_n 0, 1), (1, .invokespecial 3, 3), (4, .aload_n 0, 1), (5, .sipush 2880, 3), (8, .newarray .int, 2), (10, .putfield 9, 3), (13, .aload_n 0, 1), (14, .sipush 2880, 3), (17, .newarray .int, 2), (19, .putfield 15, 3), (22, .aload_n 0, 1), (23, .sipush 2880, 3), (26, .newarray .int, 2), (28, .putfield 18, 3), (31, .aload_n 0, 1), (32, .sipush 2880, 3), (35, .newarray .int, 2), (37, .putfield 21, 3), (40, .aload_n 0, 1), (41, .sipush 3360, 3), (44, .newarray .int, 2), (46, .putfield 24, 3), (49, .aload_n 0, 1), (50, .aload_n 1, 1), (51, .putfield 27, 3), (54, .aload_n 0, 1), (55, .aload_n 2, 1), (56, .putfield 31, 3), (59, .aload_n 0, 1), (60, .aload_n 3, 1), (61, .putfield 35, 3), (64, .aload_n 0, 1), (65, .aload 4, 2), (67, .putfield 39, 3), (70, .return_, 1)]
set_option maxRecDepth 20000 in
theorem D_X1_init : ∀ q ∈ L_X1_init, decode cX1_init q.1 = .ok q.2 := by decide +kernel
def L_X1_isInDoubt : List (Nat × Instr × Nat) := [(0, .aload_n 0, 1), (1, .getfield 9, 3), (4, .iload_n 1, 1), (5, .iaload, 1), (6, .iconst (-1), 1), (7, .if_icmp .eq 21, 3), (10, .aload_n 0, 1), (11, .getfield 31, 3), (14, .getfield 90, 3), (17, .aload_n 0, 1), (18, .getfield 9, 3), (21, .iload_n 1, 1), (22, .iaload, 1), (23, .iaload, 1), (24, .iload_n 2, 1), (25, .if_icmp .eq 7, 3), (28, .iconst 1, 1), (29, .goto 4, 3), (32, .iconst 0, 1), (33, .ireturn, 1)]
set_option maxRecDepth 20000 in
theorem D_X1_isInDoubt : ∀ q ∈ L_X1_isInDoubt, decode cX1_isInDoubt q.1 = .ok q.2 := by decide +kernel
def L_X1_lacked : List (Nat × Instr × Nat) := [(0, .aload_n 0, 1), (1, .iload_n 1, 1), (2, .invokevirtual 133, 3), (5, .aload_n 0, 1), (6, .iload_n 1, 1), (7, .invokevirtual 152, 3), (10, .isub, 1), (11, .aload_n 0, 1), (12, .getfield 15, 3), (15, .iload_n 1, 1), (16, .iaload, 1), (17, .isub, 1), (18, .aload_n 0, 1), (19, .getfield 18, 3), (22, .iload_n 1, 1), (23, .iaload, 1), (24, .isub, 1), (25, .ireturn, 1)]
set_option maxRecDepth 20000 in
theorem D_X1_lacked : ∀ q ∈ L_X1_lacked, decode cX1_lacked q.1 = .ok q.2 := by decide +kernel
def L_X1_ofHouse : List (Nat × Instr × Nat) := [(0, .iload_n 1, 1), (1, .iload_n 2, 1), (2, .invokestatic 81, 3), (5, .istore 4, 2), (7, .iload_n 3, 1), (8, .tableswitch 124 0 7 #[48, 55, 62, 69, 77, 85, 93, 108], 48), (56, .aload_n 0, 1), (57, .iload 4, 2), (59, .invokevirtual 133, 3), (62, .ireturn, 1), (63, .aload_n 0, 1), (64, .iload 4, 2), (66, .invokevirtual 137, 3), (69, .ireturn, 1), (70, .aload_n 0, 1), (71, .iload 4, 2), (73, .invokevirtual 152, 3), (76, .ireturn, 1), (77, .aload_n 0, 1), (78, .getfield 15, 3), (81, .iload 4, 2), (83, .iaload, 1), (84, .ireturn, 1), (85, .aload_n 0, 1), (86, .getfield 18, 3), (89, .iload 4, 2), (91, .iaload, 1), (92, .ireturn, 1), (93, .aload_n 0, 1), (94, .iload_n 1, 1), (95, .iload 4, 2), (97, .invokevirtual 155, 3), (100, .ireturn, 1), (101, .aload_n 0, 1), (102, .iload 4, 2), (104, .invokevirtual 158, 3), (107, .aload_n 0, 1), (108, .iload_n 1, 1), (109, .iload 4, 2), (111, .invokevirtual 155, 3), (114, .isub, 1), (115, .ireturn, 1), (116, .aload_n 0, 1), (117, .iload 4, 2), (119, .iload_n 2, 1), (120, .invokevirtual 161, 3), (123, .ifCond .eq 7, 3), (126, .iconst 1, 1), (127, .goto 4, 3), (130, .iconst 0, 1), (131, .ireturn, 1), (132, .aload_n 0, 1), (133, .iload_n 1, 1), (134, .iload_n 2, 1), (135, .invokevirtual 165, 3), (138, .ireturn, 1)]
set_option maxRecDepth 20000 in
theorem D_X1_ofHouse : ∀ q ∈ L_X1_ofHouse, decode cX1_ofHouse q.1 = .ok q.2 := by decide +kernel
def L_X1_own : List (Nat × Instr × Nat) := [(0, .aload_n 0, 1), (1, .iload_n 1, 1), (2, .invokevirtual 133, 3), (5, .aload_n 0, 1), (6, .iload_n 1, 1), (7, .invokevirtual 137, 3), (10, .invokestatic 47, 3), (13, .ireturn, 1)]
set_option maxRecDepth 20000 in
theorem D_X1_own : ∀ q ∈ L_X1_own, decode cX1_own q.1 = .ok q.2 := by decide +kernel
def L_X1_placeReadings : List (Nat × Instr × Nat) := [(0, .iconst 0, 1), (1, .aload_n 0, 1), (2, .getfield 43, 3), (5, .invokestatic 81, 3), (8, .istore_n 2, 1), (9, .iload_n 2, 1), (10, .iconst 0, 1), (11, .iload_n 1, 1), (12, .iconst 1, 1), (13, .iadd, 1), (14, .invokestatic 81, 3), (17, .if_icmp .ge 16, 3), (20, .aload_n 0, 1), (21, .getfield 9, 3), (24, .iload_n 2, 1), (25, .iconst (-1), 1), (26, .iastore, 1), (27, .iinc 2 1, 3), (30, .goto (-21), 3), (33, .iconst 0, 1), (34, .istore_n 2, 1), (35, .iload_n 2, 1), (36, .aload_n 0, 1), (37, .getfield 31, 3), (40, .getfield 84, 3), (43, .if_icmp .ge 72, 3), (46, .aload_n 0, 1), (47, .getfield 31, 3), (50, .getfield 87, 3), (53, .iload_n 2, 1), (54, .iaload, 1), (55, .aload_n 0, 1), (56, .getfield 64, 3), (59, .if_icmp .gt 50, 3), (62, .aload_n 0, 1), (63, .getfield 31, 3), (66, .getfield 90, 3), (69, .iload_n 2, 1), (70, .iaload, 1), (71, .aload_n 0, 1), (72, .getfield 43, 3), (75, .iload_n 1, 1), (76, .invokestatic 93, 3), (79, .ifCond .eq 30, 3), (82, .aload_n 0, 1), (83, .getfield 9, 3), (86, .aload_n 0, 1), (87, .getfield 31, 3), (90, .getfield 97, 3), (93, .iload_n 2, 1), (94, .iaload, 1), (95, .aload_n 0, 1), (96, .getfield 31, 3), (99, .getfield 90, 3), (102, .iload_n 2, 1), (103, .iaload, 1), (104, .invokestatic 81, 3), (107, .iload_n 2, 1), (108, .iastore, 1), (109, .iinc 2 1, 3), (112, .goto (-77), 3), (115, .return_, 1)]
set_option maxRecDepth 20000 in
theorem D_X1_placeReadings : ∀ q ∈ L_X1_placeReadings, decode cX1_placeReadings q.1 = .ok q.2 := by decide +kernel
def L_X1_sum : List (Nat × Instr × Nat) := [(0, .aload_n 0, 1), (1, .getfield 24, 3), (4, .iload_n 1, 1), (5, .bipush 14, 2), (7, .imul, 1), (8, .iload_n 2, 1), (9, .iadd, 1), (10, .iaload, 1), (11, .ireturn, 1)]
set_option maxRecDepth 20000 in
theorem D_X1_sum : ∀ q ∈ L_X1_sum, decode cX1_sum q.1 = .ok q.2 := by decide +kernel
def L_X1_turnTo : List (Nat × Instr × Nat) := [(0, .iload_n 1, 1), (1, .aload_n 0, 1), (2, .getfield 64, 3), (5, .invokestatic 47, 3), (8, .istore_n 2, 1), (9, .iload_n 1, 1), (10, .aload_n 0, 1), (11, .getfield 64, 3), (14, .invokestatic 67, 3), (17, .istore_n 3, 1), (18, .iload_n 2, 1), (19, .iload_n 3, 1), (20, .if_icmp .ge 34, 3), (23, .aload_n 0, 1), (24, .aload_n 0, 1), (25, .getfield 31, 3), (28, .iload_n 2, 1), (29, .iload_n 3, 1), (30, .invokevirtual 70, 3), (33, .invokevirtual 75, 3), (36, .aload_n 0, 1), (37, .aload_n 0, 1), (38, .getfield 35, 3), (41, .iload_n 2, 1), (42, .iload_n 3, 1), (43, .invokevirtual 78, 3), (46, .invokevirtual 75, 3), (49, .aload_n 0, 1), (50, .iload_n 1, 1), (51, .putfield 64, 3), (54, .return_, 1)]
set_option maxRecDepth 20000 in
theorem D_X1_turnTo : ∀ q ∈ L_X1_turnTo, decode cX1_turnTo q.1 = .ok q.2 := by decide +kernel
def L_X1_wants : List (Nat × Instr × Nat) := [(0, .aload_n 0, 1), (1, .getfield 9, 3), (4, .iload_n 1, 1), (5, .iaload, 1), (6, .iconst (-1), 1), (7, .if_icmp .ne 7, 3), (10, .iconst 0, 1), (11, .goto 17, 3), (14, .aload_n 0, 1), (15, .getfield 31, 3), (18, .getfield 168, 3), (21, .aload_n 0, 1), (22, .getfield 9, 3), (25, .iload_n 1, 1), (26, .iaload, 1), (27, .iaload, 1), (28, .ireturn, 1)]
set_option maxRecDepth 20000 in
theorem D_X1_wants : ∀ q ∈ L_X1_wants, decode cX1_wants q.1 = .ok q.2 := by decide +kernel
def L_X1_workAgain : List (Nat × Instr × Nat) := [(0, .aload_n 0, 1), (1, .getfield 39, 3), (4, .iload_n 1, 1), (5, .iload_n 1, 1), (6, .ifCond .ne 7, 3), (9, .iconst 0, 1), (10, .goto 11, 3), (13, .aload_n 0, 1), (14, .iload_n 1, 1), (15, .iconst 1, 1), (16, .isub, 1), (17, .iconst 4, 1), (18, .invokevirtual 100, 3), (21, .iload_n 2, 1), (22, .invokevirtual 103, 3), (25, .bipush 10, 2), (27, .istore_n 3, 1), (28, .iload_n 3, 1), (29, .bipush 13, 2), (31, .if_icmp .gt 34, 3), (34, .aload_n 0, 1), (35, .getfield 39, 3), (38, .getfield 109, 3), (41, .iload_n 3, 1), (42, .iload_n 1, 1), (43, .ifCond .ne 7, 3), (46, .iconst 0, 1), (47, .goto 11, 3), (50, .aload_n 0, 1), (51, .iload_n 1, 1), (52, .iconst 1, 1), (53, .isub, 1), (54, .iload_n 3, 1), (55, .invokevirtual 100, 3), (58, .iastore, 1), (59, .iinc 3 1, 3), (62, .goto (-34), 3), (65, .iconst 0, 1), (66, .istore_n 3, 1), (67, .iload_n 3, 1), (68, .aload_n 0, 1), (69, .getfield 27, 3), (72, .getfield 110, 3), (75, .if_icmp .ge 15, 3), (78, .aload_n 0, 1), (79, .iload_n 3, 1), (80, .iload_n 1, 1), (81, .invokevirtual 113, 3), (84, .iinc 3 1, 3), (87, .goto (-20), 3), (90, .aload_n 0, 1), (91, .getfield 35, 3), (94, .iload_n 1, 1), (95, .aload_n 0, 1), (96, .getfield 64, 3), (99, .invokevirtual 116, 3), (102, .astore_n 3, 1), (103, .aload_n 3, 1), (104, .ifnonnull 7, 3), (107, .iconst 0, 1), (108, .goto 7, 3), (111, .aload_n 3, 1), (112, .getfield 120, 3), (115, .istore 4, 2), (117, .iconst 0, 1), (118, .istore 5, 2), (120, .iload 5, 2), (122, .iload 4, 2), (124, .if_icmp .ge 19, 3), (127, .aload_n 0, 1), (128, .getfield 39, 3), (131, .aload_n 3, 1), (132, .iload 5, 2), (134, .invokevirtual 123, 3), (137, .iinc 5 1, 3), (140, .goto (-20), 3), (143, .aload_n 0, 1), (144, .getfield 39, 3), (147, .invokevirtual 127, 3), (150, .aload_n 0, 1), (151, .iload_n 1, 1), (152, .invokevirtual 130, 3), (155, .return_, 1)]
set_option maxRecDepth 20000 in
theorem D_X1_workAgain : ∀ q ∈ L_X1_workAgain, decode cX1_workAgain q.1 = .ok q.2 := by decide +kernel
def L_X1_workTo : List (Nat × Instr × Nat) := [(0, .aload_n 0, 1), (1, .iload_n 2, 1), (2, .invokevirtual 53, 3), (5, .iload_n 1, 1), (6, .aload_n 0, 1), (7, .getfield 43, 3), (10, .if_icmp .ge 4, 3), (13, .return_, 1), (14, .aload_n 0, 1), (15, .iload_n 1, 1), (16, .invokevirtual 57, 3), (19, .aload_n 0, 1), (20, .getfield 43, 3), (23, .istore_n 3, 1), (24, .iload_n 3, 1), (25, .iload_n 1, 1), (26, .if_icmp .gt 15, 3), (29, .aload_n 0, 1), (30, .iload_n 3, 1), (31, .iconst (-1), 1), (32, .invokevirtual 60, 3), (35, .iinc 3 1, 3), (38, .goto (-14), 3), (41, .aload_n 0, 1), (42, .iload_n 1, 1), (43, .iconst 1, 1), (44, .iadd, 1), (45, .putfield 43, 3), (48, .return_, 1)]
set_option maxRecDepth 20000 in
theorem D_X1_workTo : ∀ q ∈ L_X1_workTo, decode cX1_workTo q.1 = .ok q.2 := by decide +kernel
def L_X1_write : List (Nat × Instr × Nat) := [(0, .iconst 0, 1), (1, .istore_n 2, 1), (2, .iload_n 2, 1), (3, .aload_n 0, 1), (4, .getfield 27, 3), (7, .getfield 110, 3), (10, .if_icmp .ge 60, 3), (13, .iload_n 2, 1), (14, .iload_n 1, 1), (15, .invokestatic 81, 3), (18, .istore_n 3, 1), (19, .aload_n 0, 1), (20, .getfield 15, 3), (23, .iload_n 3, 1), (24, .aload_n 0, 1), (25, .getfield 39, 3), (28, .getfield 143, 3), (31, .iload_n 2, 1), (32, .iaload, 1), (33, .iastore, 1), (34, .aload_n 0, 1), (35, .getfield 18, 3), (38, .iload_n 3, 1), (39, .aload_n 0, 1), (40, .getfield 39, 3), (43, .getfield 144, 3), (46, .iload_n 2, 1), (47, .iaload, 1), (48, .iastore, 1), (49, .aload_n 0, 1), (50, .getfield 21, 3), (53, .iload_n 3, 1), (54, .aload_n 0, 1), (55, .getfield 39, 3), (58, .getfield 145, 3), (61, .iload_n 2, 1), (62, .iaload, 1), (63, .iastore, 1), (64, .iinc 2 1, 3), (67, .goto (-65), 3), (70, .aload_n 0, 1), (71, .getfield 39, 3), (74, .getfield 109, 3), (77, .iconst 0, 1), (78, .aload_n 0, 1), (79, .getfield 24, 3), (82, .iload_n 1, 1), (83, .bipush 14, 2), (85, .imul, 1), (86, .bipush 14, 2), (88, .invokestatic 146, 3), (91, .return_, 1)]
set_option maxRecDepth 20000 in
theorem D_X1_write : ∀ q ∈ L_X1_write, decode cX1_write q.1 = .ok q.2 := by decide +kernel
def L_X10_amount : List (Nat × Instr × Nat) := [(0, .aload_n 2, 1), (1, .getfield 144, 3), (4, .aload_n 2, 1), (5, .getfield 147, 3), (8, .if_icmp .ne 5, 3), (11, .iload_n 3, 1), (12, .ireturn, 1), (13, .iconst 0, 1), (14, .iload_n 3, 1), (15, .aload_n 0, 1), (16, .aload_n 1, 1), (17, .aload_n 2, 1), (18, .getfield 147, 3), (21, .aload_n 2, 1), (22, .getfield 144, 3), (25, .invokevirtual 97, 3), (28, .invokestatic 72, 3), (31, .invokestatic 150, 3), (34, .ireturn, 1)]
set_option maxRecDepth 20000 in
theorem D_X10_amount : ∀ q ∈ L_X10_amount, decode cX10_amount q.1 = .ok q.2 := by decide +kernel
def L_X10_apply : List (Nat × Instr × Nat) := [(0, .aload_n 1, 1), (1, .getfield 83, 3), (4, .iload_n 2, 1), (5, .aaload, 1), (6, .astore_n 3, 1), (7, .aload_n 3, 1), (8, .getfield 89, 3), (11, .aload_n 3, 1), (12, .getfield 94, 3), (15, .if_icmp .le 20, 3), (18, .aload_n 0, 1), (19, .aload_n 1, 1), (20, .aload_n 3, 1), (21, .getfield 94, 3), (24, .aload_n 3, 1), (25, .getfield 89, 3), (28, .invokevirtual 97, 3), (31, .ifCond .ne 4, 3), (34, .return_, 1), (35, .aload_n 3, 1), (36, .getfield 101, 3), (39, .getstatic 105, 3), (42, .if_acmp .ne 19, 3), (45, .aload_n 0, 1), (46, .getfield 43, 3), (49, .aload_n 3, 1), (50, .getfield 110, 3), (53, .aload_n 3, 1), (54, .getfield 113, 3), (57, .iastore, 1), (58, .goto 64, 3), (61, .aload_n 3, 1), (62, .getfield 101, 3), (65, .getstatic 116, 3), (68, .if_acmp .ne 21, 3), (71, .aload_n 0, 1), (72, .aload_n 0, 1), (73, .aload_n 1, 1), (74, .aload_n 3, 1), (75, .aload_n 0, 1), (76, .getfield 66, 3), (79, .invokevirtual 119, 3), (82, .iload_n 2, 1), (83, .invokevirtual 123, 3), (86, .goto 36, 3), (89, .aload_n 0, 1), (90, .aload_n 1, 1), (91, .iload_n 2, 1), (92, .aload_n 0, 1), (93, .aload_n 1, 1), (94, .aload_n 3, 1), (95, .aload_n 3, 1), (96, .getfield 127, 3), (99, .getstatic 130, 3), (102, .if_acmp .ne 10, 3), (105, .aload_n 0, 1), (106, .getfield 66, 3), (109, .goto 7, 3), (112, .aload_n 0, 1), (113, .getfield 69, 3), (116, .invokevirtual 119, 3), (119, .invokevirtual 133, 3), (122, .return_, 1)]
set_option maxRecDepth 20000 in
theorem D_X10_apply : ∀ q ∈ L_X10_apply, decode cX10_apply q.1 = .ok q.2 := by decide +kernel
def L_X10_begin : List (Nat × Instr × Nat) := [(0, .aload_n 0, 1), (1, .iload_n 1, 1), (2, .putfield 57, 3), (5, .aload_n 0, 1), (6, .iload_n 3, 1), (7, .putfield 60, 3), (10, .aload_n 0, 1), (11, .iconst 0, 1), (12, .putfield 63, 3), (15, .aload_n 0, 1), (16, .iconst 0, 1), (17, .putfield 66, 3), (20, .aload_n 0, 1), (21, .iload_n 2, 1), (22, .putfield 69, 3), (25, .iconst 0, 1), (26, .istore 4, 2), (28, .iload 4, 2), (30, .bipush 14, 2), (32, .if_icmp .ge 17, 3), (35, .aload_n 0, 1), (36, .getfield 43, 3), (39, .iload 4, 2), (41, .iconst 0, 1), (42, .iastore, 1), (43, .iinc 4 1, 3), (46, .goto (-18), 3), (49, .return_, 1)]
set_option maxRecDepth 20000 in
theorem D_X10_begin : ∀ q ∈ L_X10_begin, decode cX10_begin q.1 = .ok q.2 := by decide +kernel
def L_X10_bringIn : List (Nat × Instr × Nat) := [(0, .iload_n 2, 1), (1, .iload_n 3, 1), (2, .invokestatic 72, 3), (5, .istore 5, 2), (7, .aload_n 0, 1), (8, .getfield 9, 3), (11, .iload_n 1, 1), (12, .iload_n 2, 1), (13, .iload 5, 2), (15, .isub, 1), (16, .iastore, 1), (17, .aload_n 0, 1), (18, .dup, 1), (19, .getfield 66, 3), (22, .iload_n 3, 1), (23, .iload 5, 2), (25, .isub, 1), (26, .iadd, 1), (27, .putfield 66, 3), (30, .aload_n 0, 1), (31, .getfield 43, 3), (34, .iconst 0, 1), (35, .aload_n 0, 1), (36, .getfield 66, 3), (39, .iastore, 1), (40, .aload_n 0, 1), (41, .getfield 15, 3), (44, .iload_n 1, 1), (45, .aload_n 0, 1), (46, .getfield 46, 3), (49, .getfield 78, 3), (52, .iload_n 1, 1), (53, .iaload, 1), (54, .iastore, 1), (55, .aload_n 0, 1), (56, .getfield 18, 3), (59, .iload_n 1, 1), (60, .iload 4, 2), (62, .iastore, 1), (63, .aload_n 0, 1), (64, .getfield 21, 3), (67, .iload_n 1, 1), (68, .iconst 0, 1), (69, .iastore, 1), (70, .aload_n 0, 1), (71, .getfield 24, 3), (74, .iload_n 1, 1), (75, .iconst 0, 1), (76, .iastore, 1), (77, .aload_n 0, 1), (78, .getfield 40, 3), (81, .iload_n 1, 1), (82, .iconst 0, 1), (83, .iastore, 1), (84, .return_, 1)]
set_option maxRecDepth 20000 in
theorem D_X10_bringIn : ∀ q ∈ L_X10_bringIn, decode cX10_bringIn q.1 = .ok q.2 := by decide +kernel
def L_X10_choose : List (Nat × Instr × Nat) := [(0, .aload_n 0, 1), (1, .iconst 0, 1), (2, .putfield 198, 3), (5, .iconst 0, 1), (6, .istore_n 2, 1), (7, .iload_n 2, 1), (8, .aload_n 0, 1), (9, .getfield 46, 3), (12, .getfield 137, 3), (15, .if_icmp .ge 55, 3), (18, .aload_n 0, 1), (19, .iload_n 2, 1), (20, .invokevirtual 140, 3), (23, .ifCond .le 41, 3), (26, .aload_n 1, 1), (27, .getfield 211, 3), (30, .getstatic 214, 3), (33, .if_acmp .ne 11, 3), (36, .aload_n 1, 1), (37, .getfield 113, 3), (40, .iload_n 2, 1), (41, .if_icmp .ne 23, 3), (44, .aload_n 0, 1), (45, .getfield 27, 3), (48, .aload_n 0, 1), (49, .getfield 198, 3), (52, .iload_n 2, 1), (53, .iastore, 1), (54, .aload_n 0, 1), (55, .dup, 1), (56, .getfield 198, 3), (59, .iconst 1, 1), (60, .iadd, 1), (61, .putfield 198, 3), (64, .iinc 2 1, 3), (67, .goto (-60), 3), (70, .aload_n 1, 1), (71, .getfield 211, 3), (74, .getstatic 217, 3), (77, .if_acmp .ne 22, 3), (80, .aload_n 1, 1), (81, .getfield 113, 3), (84, .aload_n 0, 1), (85, .getfield 198, 3), (88, .if_icmp .ge 11, 3), (91, .aload_n 0, 1), (92, .aload_n 1, 1), (93, .getfield 113, 3), (96, .invokevirtual 220, 3), (99, .return_, 1)]
set_option maxRecDepth 20000 in
theorem D_X10_choose : ∀ q ∈ L_X10_choose, decode cX10_choose q.1 = .ok q.2 := by decide +kernel
def L_X10_chosenAhead : List (Nat × Instr × Nat) := [(0, .aload_n 0, 1), (1, .getfield 18, 3), (4, .aload_n 0, 1), (5, .getfield 27, 3), (8, .iload_n 1, 1), (9, .iaload, 1), (10, .iaload, 1), (11, .istore_n 2, 1), (12, .iconst 0, 1), (13, .istore_n 3, 1), (14, .iconst 0, 1), (15, .istore 4, 2), (17, .iload 4, 2), (19, .aload_n 0, 1), (20, .getfield 198, 3), (23, .if_icmp .ge 44, 3), (26, .aload_n 0, 1), (27, .getfield 18, 3), (30, .aload_n 0, 1), (31, .getfield 27, 3), (34, .iload 4, 2), (36, .iaload, 1), (37, .iaload, 1), (38, .istore 5, 2), (40, .iload 5, 2), (42, .iload_n 2, 1), (43, .if_icmp .lt 15, 3), (46, .iload 5, 2), (48, .iload_n 2, 1), (49, .if_icmp .ne 12, 3), (52, .iload 4, 2), (54, .iload_n 1, 1), (55, .if_icmp .ge 6, 3), (58, .iinc 3 1, 3), (61, .iinc 4 1, 3), (64, .goto (-47), 3), (67, .iload_n 3, 1), (68, .ireturn, 1)]
set_option maxRecDepth 20000 in
theorem D_X10_chosenAhead : ∀ q ∈ L_X10_chosenAhead, decode cX10_chosenAhead q.1 = .ok q.2 := by decide +kernel
def L_X10_end : List (Nat × Instr × Nat) := [(0, .iconst 0, 1), (1, .istore_n 1, 1), (2, .iconst 0, 1), (3, .istore_n 2, 1), (4, .iload_n 2, 1), (5, .aload_n 0, 1), (6, .getfield 46, 3), (9, .getfield 137, 3), (12, .if_icmp .ge 55, 3), (15, .iload_n 1, 1), (16, .aload_n 0, 1), (17, .getfield 24, 3), (20, .iload_n 2, 1), (21, .iaload, 1), (22, .iadd, 1), (23, .istore_n 1, 1), (24, .aload_n 0, 1), (25, .getfield 43, 3), (28, .bipush 6, 2), (30, .dup2, 1), (31, .iaload, 1), (32, .aload_n 0, 1), (33, .iload_n 2, 1), (34, .invokevirtual 140, 3), (37, .iadd, 1), (38, .iastore, 1), (39, .aload_n 0, 1), (40, .getfield 43, 3), (43, .bipush 7, 2), (45, .dup2, 1), (46, .iaload, 1), (47, .aload_n 0, 1), (48, .getfield 9, 3), (51, .iload_n 2, 1), (52, .iaload, 1), (53, .aload_n 0, 1), (54, .iload_n 2, 1), (55, .invokevirtual 140, 3), (58, .isub, 1), (59, .iadd, 1), (60, .iastore, 1), (61, .iinc 2 1, 3), (64, .goto (-60), 3), (67, .aload_n 0, 1), (68, .getfield 43, 3), (71, .iconst 3, 1), (72, .aload_n 0, 1), (73, .getfield 66, 3), (76, .iastore, 1), (77, .aload_n 0, 1), (78, .getfield 43, 3), (81, .iconst 1, 1), (82, .aload_n 0, 1), (83, .getfield 43, 3), (86, .iconst 0, 1), (87, .iaload, 1), (88, .aload_n 0, 1), (89, .getfield 43, 3), (92, .iconst 2, 1), (93, .iaload, 1), (94, .isub, 1), (95, .aload_n 0, 1), (96, .getfield 66, 3), (99, .isub, 1), (100, .iastore, 1), (101, .aload_n 0, 1), (102, .getfield 43, 3), (105, .iconst 5, 1), (106, .aload_n 0, 1), (107, .getfield 69, 3), (110, .aload_n 0, 1), (111, .getfield 54, 3), (114, .imul, 1), (115, .sipush 1000, 3), (118, .idiv, 1), (119, .iastore, 1), (120, .aload_n 0, 1), (121, .getfield 43, 3), (124, .iconst 4, 1), (125, .aload_n 0, 1), (126, .getfield 69, 3), (129, .aload_n 0, 1), (130, .getfield 43, 3), (133, .iconst 5, 1), (134, .iaload, 1), (135, .isub, 1), (136, .iastore, 1), (137, .aload_n 0, 1), (138, .getfield 43, 3), (141, .bipush 6, 2), (143, .iaload, 1), (144, .aload_n 0, 1), (145, .getfield 43, 3), (148, .bipush 12, 2), (150, .iaload, 1), (151, .imul, 1), (152, .istore_n 2, 1), (153, .aload_n 0, 1), (154, .getfield 43, 3), (157, .iconst 1, 1), (158, .iaload, 1), (159, .aload_n 0, 1), (160, .getfield 43, 3), (163, .iconst 0, 1), (164, .iaload, 1), (165, .isub, 1), (166, .aload_n 0, 1), (167, .getfield 43, 3), (170, .bipush 10, 2), (172, .iaload, 1), (173, .imul, 1), (174, .iload_n 1, 1), (175, .aload_n 0, 1), (176, .getfield 43, 3), (179, .bipush 11, 2), (181, .iaload, 1), (182, .imul, 1), (183, .iadd, 1), (184, .iload_n 2, 1), (185, .iadd, 1), (186, .istore_n 3, 1), (187, .aload_n 0, 1), (188, .getfield 43, 3), (191, .bipush 8, 2), (193, .aload_n 0, 1), (194, .getfield 66, 3), (197, .aload_n 0, 1), (198, .getfield 43, 3), (201, .bipush 13, 2), (203, .iaload, 1), (204, .imul, 1), (205, .iload_n 2, 1), (206, .isub, 1), (207, .iastore, 1), (208, .aload_n 0, 1), (209, .getfield 43, 3), (212, .bipush 9, 2), (214, .iload_n 3, 1), (215, .ineg, 1), (216, .aload_n 0, 1), (217, .getfield 43, 3), (220, .bipush 8, 2), (222, .iaload, 1), (223, .isub, 1), (224, .iastore, 1), (225, .return_, 1)]
set_option maxRecDepth 20000 in
theorem D_X10_end : ∀ q ∈ L_X10_end, decode cX10_end q.1 = .ok q.2 := by decide +kernel
def L_X10_fill : List (Nat × Instr × Nat) := [(0, .iload_n 1, 1), (1, .aload_n 0, 1), (2, .getfield 50, 3), (5, .aload_n 0, 1), (6, .getfield 69, 3), (9, .isub, 1), (10, .invokestatic 72, 3), (13, .istore_n 3, 1), (14, .aload_n 0, 1), (15, .dup, 1), (16, .getfield 66, 3), (19, .iload_n 3, 1), (20, .isub, 1), (21, .putfield 66, 3), (24, .aload_n 0, 1), (25, .dup, 1), (26, .getfield 69, 3), (29, .iload_n 3, 1), (30, .iadd, 1), (31, .putfield 69, 3), (34, .aload_n 0, 1), (35, .getfield 43, 3), (38, .iconst 2, 1), (39, .dup2, 1), (40, .iaload, 1), (41, .iload_n 3, 1), (42, .iadd, 1), (43, .iastore, 1), (44, .iload_n 2, 1), (45, .aload_n 0, 1), (46, .getfield 60, 3), (49, .if_icmp .ne 8, 3), (52, .aload_n 0, 1), (53, .iload_n 3, 1), (54, .putfield 63, 3), (57, .return_, 1)]
set_option maxRecDepth 20000 in
theorem D_X10_fill : ∀ q ∈ L_X10_fill, decode cX10_fill q.1 = .ok q.2 := by decide +kernel
def L_X10_give : List (Nat × Instr × Nat) := [(0, .aload_n 1, 1), (1, .getfield 83, 3), (4, .iload_n 2, 1), (5, .aaload, 1), (6, .astore 4, 2), (8, .iload_n 3, 1), (9, .ifCond .ne 4, 3), (12, .return_, 1), (13, .aload_n 0, 1), (14, .aload 4, 2), (16, .invokevirtual 187, 3), (19, .aload_n 0, 1), (20, .aload 4, 2), (22, .getfield 191, 3), (25, .invokevirtual 194, 3), (28, .lstore 5, 2), (30, .lload 5, 2), (32, .lconst 0, 1), (33, .lcmp, 1), (34, .ifCond .gt 4, 3), (37, .return_, 1), (38, .iload_n 3, 1), (39, .istore 7, 2), (41, .iconst 0, 1), (42, .istore 8, 2), (44, .iload 8, 2), (46, .aload_n 0, 1), (47, .getfield 198, 3), (50, .if_icmp .ge 64, 3), (53, .aload_n 0, 1), (54, .getfield 27, 3), (57, .iload 8, 2), (59, .iaload, 1), (60, .istore 9, 2), (62, .iload_n 3, 1), (63, .i2l, 1), (64, .aload_n 0, 1), (65, .getfield 34, 3), (68, .iload 9, 2), (70, .iaload, 1), (71, .i2l, 1), (72, .lmul, 1), (73, .lload 5, 2), (75, .ldiv, 1), (76, .aload_n 0, 1), (77, .iload 9, 2), (79, .invokevirtual 140, 3), (82, .i2l, 1), (83, .invokestatic 201, 3), (86, .lstore 10, 2), (88, .aload_n 0, 1), (89, .aload 4, 2), (91, .iload_n 2, 1), (92, .iload 9, 2), (94, .lload 10, 2), (96, .l2i, 1), (97, .invokevirtual 204, 3), (100, .iload 7, 2), (102, .lload 10, 2), (104, .l2i, 1), (105, .isub, 1), (106, .istore 7, 2), (108, .iinc 8 1, 3), (111, .goto (-67), 3), (114, .iload 7, 2), (116, .aload_n 0, 1), (117, .getfield 198, 3), (120, .if_icmp .ge 11, 3), (123, .aload_n 0, 1), (124, .aload_n 1, 1), (125, .iload_n 2, 1), (126, .iload 7, 2), (128, .invokevirtual 208, 3), (131, .return_, 1)]
set_option maxRecDepth 20000 in
theorem D_X10_give : ∀ q ∈ L_X10_give, decode cX10_give q.1 = .ok q.2 := by decide +kernel
def L_X10_hand : List (Nat × Instr × Nat) := [(0, .aload_n 0, 1), (1, .getfield 9, 3), (4, .iload_n 3, 1), (5, .dup2, 1), (6, .iaload, 1), (7, .iload 4, 2), (9, .isub, 1), (10, .iastore, 1), (11, .aload_n 0, 1), (12, .getfield 15, 3), (15, .iload_n 3, 1), (16, .dup2, 1), (17, .iaload, 1), (18, .iload 4, 2), (20, .isub, 1), (21, .iastore, 1), (22, .aload_n 0, 1), (23, .getfield 18, 3), (26, .iload_n 3, 1), (27, .dup2, 1), (28, .iaload, 1), (29, .iload 4, 2), (31, .iadd, 1), (32, .iastore, 1), (33, .iload_n 2, 1), (34, .aload_n 0, 1), (35, .getfield 60, 3), (38, .if_icmp .ne 14, 3), (41, .aload_n 0, 1), (42, .getfield 40, 3), (45, .iload_n 3, 1), (46, .dup2, 1), (47, .iaload, 1), (48, .iload 4, 2), (50, .iadd, 1), (51, .iastore, 1), (52, .aload_n 1, 1), (53, .getfield 127, 3), (56, .getstatic 130, 3), (59, .if_acmp .ne 28, 3), (62, .aload_n 0, 1), (63, .dup, 1), (64, .getfield 66, 3), (67, .iload 4, 2), (69, .isub, 1), (70, .putfield 66, 3), (73, .aload_n 0, 1), (74, .getfield 21, 3), (77, .iload_n 3, 1), (78, .dup2, 1), (79, .iaload, 1), (80, .iload 4, 2), (82, .iadd, 1), (83, .iastore, 1), (84, .goto 25, 3), (87, .aload_n 0, 1), (88, .dup, 1), (89, .getfield 69, 3), (92, .iload 4, 2), (94, .isub, 1), (95, .putfield 69, 3), (98, .aload_n 0, 1), (99, .getfield 24, 3), (102, .iload_n 3, 1), (103, .dup2, 1), (104, .iaload, 1), (105, .iload 4, 2), (107, .iadd, 1), (108, .iastore, 1), (109, .return_, 1)]
set_option maxRecDepth 20000 in
theorem D_X10_hand : ∀ q ∈ L_X10_hand, decode cX10_hand q.1 = .ok q.2 := by decide +kernel
def L_X10_handOnes : List (Nat × Instr × Nat) := [(0, .iload_n 3, 1), (1, .istore 6, 2), (3, .iconst 0, 1), (4, .istore 7, 2), (6, .iload 7, 2), (8, .aload_n 0, 1), (9, .getfield 198, 3), (12, .if_icmp .ge 58, 3), (15, .aload_n 0, 1), (16, .getfield 27, 3), (19, .iload 7, 2), (21, .iaload, 1), (22, .istore 8, 2), (24, .iload 6, 2), (26, .ifCond .le 38, 3), (29, .iload 8, 2), (31, .iload 4, 2), (33, .if_icmp .lt 31, 3), (36, .iload 8, 2), (38, .iload 5, 2), (40, .if_icmp .ge 24, 3), (43, .aload_n 0, 1), (44, .iload 8, 2), (46, .invokevirtual 140, 3), (49, .ifCond .le 15, 3), (52, .aload_n 0, 1), (53, .aload_n 1, 1), (54, .iload_n 2, 1), (55, .iload 8, 2), (57, .iconst 1, 1), (58, .invokevirtual 204, 3), (61, .iinc 6 (-1), 3), (64, .iinc 7 1, 3), (67, .goto (-61), 3), (70, .iload 6, 2), (72, .ireturn, 1)]
set_option maxRecDepth 20000 in
theorem D_X10_handOnes : ∀ q ∈ L_X10_handOnes, decode cX10_handOnes q.1 = .ok q.2 := by decide +kernel
def L_X10_handRest : List (Nat × Instr × Nat) := [(0, .iconst 0, 1), (1, .istore 4, 2), (3, .aload_n 1, 1), (4, .getfield 236, 3), (7, .getstatic 239, 3), (10, .if_acmp .ne 10, 3), (13, .aload_n 0, 1), (14, .invokevirtual 242, 3), (17, .goto 37, 3), (20, .aload_n 1, 1), (21, .getfield 236, 3), (24, .getstatic 245, 3), (27, .if_acmp .ne 27, 3), (30, .aload_n 0, 1), (31, .getfield 46, 3), (34, .getfield 137, 3), (37, .ifCond .le 17, 3), (40, .aload_n 0, 1), (41, .getfield 57, 3), (44, .aload_n 0, 1), (45, .getfield 46, 3), (48, .getfield 137, 3), (51, .irem, 1), (52, .istore 4, 2), (54, .aload_n 0, 1), (55, .aload_n 1, 1), (56, .getfield 83, 3), (59, .iload_n 2, 1), (60, .aaload, 1), (61, .iload_n 2, 1), (62, .iload_n 3, 1), (63, .iload 4, 2), (65, .bipush 12, 2), (67, .invokevirtual 248, 3), (70, .istore 5, 2), (72, .aload_n 0, 1), (73, .aload_n 1, 1), (74, .getfield 83, 3), (77, .iload_n 2, 1), (78, .aaload, 1), (79, .iload_n 2, 1), (80, .iload 5, 2), (82, .iconst 0, 1), (83, .iload 4, 2), (85, .invokevirtual 248, 3), (88, .pop, 1), (89, .return_, 1)]
set_option maxRecDepth 20000 in
theorem D_X10_handRest : ∀ q ∈ L_X10_handRest, decode cX10_handRest q.1 = .ok q.2 := by decide +kernel
def L_X10_init : List (Nat × Instr × Nat) := [(0, .aload_n 0, 1), (1, .invokespecial 3, 3), (4, .aload_n 0, 1), (5, .bipush 12, 2), (7, .newarray .int, 2), (9, .putfield 9, 3), (12, .aload_n 0, 1), (13, .bipush 12, 2), (15, .newarray .int, 2), (17, .putfield 15, 3), (20, .aload_n 0, 1), (21, .bipush 12, 2), (23, .newarray .int, 2), (25, .putfield 18, 3), (28, .aload_n 0, 1), (29, .bipush 12, 2), (31, .newarray .int, 2), (33, .putfield 21, 3), (36, .aload_n 0, 1), (37, .bipush 12, 2), (39, .newarray .int, 2), (41, .putfield 24, 3), (44, .aload_n 0, 1), (45, .bipush 12, 2), (47, .newarray .int, 2), (49, .putfield 27, 3), (52, .aload_n 0, 1), (53, .bipush 12, 2), (55, .newarray .boolean, 2), (57, .putfield 30, 3), (60, .aload_n 0, 1), (61, .bipush 12, 2), (63, .newarray .int, 2), (65, .putfield 34, 3), (68, .aload_n 0, 1), (69, .bipush 14, 2), (71, .newarray .int, 2), (73, .putfield 37, 3), (76, .aload_n 0, 1), (77, .bipush 12, 2), (79, .newarray .int, 2), (81, .putfield 40, 3), (84, .aload_n 0, 1), (85, .bipush 14, 2), (87, .newarray .int, 2), (89, .putfield 43, 3), (92, .aload_n 0, 1), (93, .aload_n 1, 1), (94, .putfield 46, 3), (97, .aload_n 0, 1), (98, .iload_n 2, 1), (99, .putfield 50, 3), (102, .aload_n 0, 1), (103, .iload_n 3, 1), (104, .putfield 54, 3), (107, .return_, 1)]
set_option maxRecDepth 20000 in
theorem D_X10_init : ∀ q ∈ L_X10_init, decode cX10_init q.1 = .ok q.2 := by decide +kernel
def L_X10_joined : List (Nat × Instr × Nat) := [(0, .iload_n 0, 1), (1, .getstatic 156, 3), (4, .getfield 159, 3), (7, .if_icmp .ne 7, 3), (10, .iload_n 1, 1), (11, .iload_n 2, 1), (12, .iadd, 1), (13, .ireturn, 1), (14, .iload_n 0, 1), (15, .getstatic 168, 3), (18, .getfield 159, 3), (21, .if_icmp .ne 7, 3), (24, .iload_n 1, 1), (25, .iload_n 2, 1), (26, .isub, 1), (27, .ireturn, 1), (28, .iload_n 0, 1), (29, .getstatic 171, 3), (32, .getfield 159, 3), (35, .if_icmp .ne 16, 3), (38, .iload_n 1, 1), (39, .iload_n 2, 1), (40, .if_icmp .ge 7, 3), (43, .iconst 1, 1), (44, .goto 17, 3), (47, .iconst 0, 1), (48, .goto 13, 3), (51, .iload_n 1, 1), (52, .iload_n 2, 1), (53, .if_icmp .ne 7, 3), (56, .iconst 1, 1), (57, .goto 4, 3), (60, .iconst 0, 1), (61, .istore_n 3, 1), (62, .iload_n 3, 1), (63, .ifCond .eq 7, 3), (66, .iconst 1, 1), (67, .goto 4, 3), (70, .iconst 0, 1), (71, .ireturn, 1)]
set_option maxRecDepth 20000 in
theorem D_X10_joined : ∀ q ∈ L_X10_joined, decode cX10_joined q.1 = .ok q.2 := by decide +kernel
def L_X10_keepLeast : List (Nat × Instr × Nat) := [(0, .iconst 0, 1), (1, .istore_n 2, 1), (2, .iload_n 2, 1), (3, .aload_n 0, 1), (4, .getfield 198, 3), (7, .if_icmp .ge 29, 3), (10, .aload_n 0, 1), (11, .getfield 30, 3), (14, .iload_n 2, 1), (15, .aload_n 0, 1), (16, .iload_n 2, 1), (17, .invokevirtual 224, 3), (20, .iload_n 1, 1), (21, .if_icmp .ge 7, 3), (24, .iconst 1, 1), (25, .goto 4, 3), (28, .iconst 0, 1), (29, .bastore, 1), (30, .iinc 2 1, 3), (33, .goto (-31), 3), (36, .iconst 0, 1), (37, .istore_n 2, 1), (38, .iconst 0, 1), (39, .istore_n 3, 1), (40, .iload_n 3, 1), (41, .aload_n 0, 1), (42, .getfield 198, 3), (45, .if_icmp .ge 33, 3), (48, .aload_n 0, 1), (49, .getfield 30, 3), (52, .iload_n 3, 1), (53, .baload, 1), (54, .ifCond .eq 18, 3), (57, .aload_n 0, 1), (58, .getfield 27, 3), (61, .iload_n 2, 1), (62, .aload_n 0, 1), (63, .getfield 27, 3), (66, .iload_n 3, 1), (67, .iaload, 1), (68, .iastore, 1), (69, .iinc 2 1, 3), (72, .iinc 3 1, 3), (75, .goto (-35), 3), (78, .aload_n 0, 1), (79, .iload_n 2, 1), (80, .putfield 198, 3), (83, .return_, 1)]
set_option maxRecDepth 20000 in
theorem D_X10_keepLeast : ∀ q ∈ L_X10_keepLeast, decode cX10_keepLeast q.1 = .ok q.2 := by decide +kernel
def L_X10_measured : List (Nat × Instr × Nat) := [(0, .iload_n 1, 1), (1, .getstatic 174, 3), (4, .getfield 159, 3), (7, .if_icmp .ne 11, 3), (10, .aload_n 0, 1), (11, .getfield 57, 3), (14, .bipush 24, 2), (16, .irem, 1), (17, .ireturn, 1), (18, .iload_n 1, 1), (19, .getstatic 177, 3), (22, .getfield 159, 3), (25, .if_icmp .ne 11, 3), (28, .aload_n 0, 1), (29, .getfield 57, 3), (32, .bipush 24, 2), (34, .idiv, 1), (35, .ireturn, 1), (36, .iload_n 1, 1), (37, .getstatic 130, 3), (40, .getfield 159, 3), (43, .if_icmp .ne 8, 3), (46, .aload_n 0, 1), (47, .getfield 66, 3), (50, .ireturn, 1), (51, .iload_n 1, 1), (52, .getstatic 180, 3), (55, .getfield 159, 3), (58, .if_icmp .ne 10, 3), (61, .aload_n 0, 1), (62, .getfield 69, 3), (65, .goto 7, 3), (68, .aload_n 0, 1), (69, .invokevirtual 183, 3), (72, .ireturn, 1)]
set_option maxRecDepth 20000 in
theorem D_X10_measured : ∀ q ∈ L_X10_measured, decode cX10_measured q.1 = .ok q.2 := by decide +kernel
def L_X10_room : List (Nat × Instr × Nat) := [(0, .aload_n 0, 1), (1, .getfield 9, 3), (4, .iload_n 1, 1), (5, .iaload, 1), (6, .aload_n 0, 1), (7, .getfield 15, 3), (10, .iload_n 1, 1), (11, .iaload, 1), (12, .if_icmp .ge 12, 3), (15, .aload_n 0, 1), (16, .getfield 9, 3), (19, .iload_n 1, 1), (20, .iaload, 1), (21, .goto 9, 3), (24, .aload_n 0, 1), (25, .getfield 15, 3), (28, .iload_n 1, 1), (29, .iaload, 1), (30, .ireturn, 1)]
set_option maxRecDepth 20000 in
theorem D_X10_room : ∀ q ∈ L_X10_room, decode cX10_room q.1 = .ok q.2 := by decide +kernel
def L_X10_sortByWant : List (Nat × Instr × Nat) := [(0, .iconst 1, 1), (1, .istore_n 1, 1), (2, .iload_n 1, 1), (3, .aload_n 0, 1), (4, .getfield 198, 3), (7, .if_icmp .ge 71, 3), (10, .aload_n 0, 1), (11, .getfield 27, 3), (14, .iload_n 1, 1), (15, .iaload, 1), (16, .istore_n 2, 1), (17, .iload_n 1, 1), (18, .istore_n 3, 1), (19, .iload_n 3, 1), (20, .ifCond .le 45, 3), (23, .aload_n 0, 1), (24, .getfield 9, 3), (27, .aload_n 0, 1), (28, .getfield 27, 3), (31, .iload_n 3, 1), (32, .iconst 1, 1), (33, .isub, 1), (34, .iaload, 1), (35, .iaload, 1), (36, .aload_n 0, 1), (37, .getfield 9, 3), (40, .iload_n 2, 1), (41, .iaload, 1), (42, .if_icmp .ge 23, 3), (45, .aload_n 0, 1), (46, .getfield 27, 3), (49, .iload_n 3, 1), (50, .aload_n 0, 1), (51, .getfield 27, 3), (54, .iload_n 3, 1), (55, .iconst 1, 1), (56, .isub, 1), (57, .iaload, 1), (58, .iastore, 1), (59, .iinc 3 (-1), 3), (62, .goto (-43), 3), (65, .aload_n 0, 1), (66, .getfield 27, 3), (69, .iload_n 3, 1), (70, .iload_n 2, 1), (71, .iastore, 1), (72, .iinc 1 1, 3), (75, .goto (-73), 3), (78, .return_, 1)]
set_option maxRecDepth 20000 in
theorem D_X10_sortByWant : ∀ q ∈ L_X10_sortByWant, decode cX10_sortByWant q.1 = .ok q.2 := by decide +kernel
def L_X10_value : List (Nat × Instr × Nat) := [(0, .iconst 0, 1), (1, .istore 4, 2), (3, .iload_n 2, 1), (4, .istore 5, 2), (6, .iload 5, 2), (8, .iload_n 3, 1), (9, .if_icmp .ge 104, 3), (12, .aload_n 1, 1), (13, .getfield 153, 3), (16, .iload 5, 2), (18, .iaload, 1), (19, .istore 6, 2), (21, .iload 6, 2), (23, .getstatic 156, 3), (26, .getfield 159, 3), (29, .if_icmp .gt 45, 3), (32, .iload 4, 2), (34, .iconst 2, 1), (35, .if_icmp .lt 72, 3), (38, .iinc 4 (-1), 3), (41, .aload_n 0, 1), (42, .getfield 37, 3), (45, .iload 4, 2), (47, .iconst 1, 1), (48, .isub, 1), (49, .iload 6, 2), (51, .aload_n 0, 1), (52, .getfield 37, 3), (55, .iload 4, 2), (57, .iconst 1, 1), (58, .isub, 1), (59, .iaload, 1), (60, .aload_n 0, 1), (61, .getfield 37, 3), (64, .iload 4, 2), (66, .iaload, 1), (67, .invokestatic 161, 3), (70, .iastore, 1), (71, .goto 36, 3), (74, .iload 4, 2), (76, .bipush 14, 2), (78, .if_icmp .ge 29, 3), (81, .aload_n 0, 1), (82, .getfield 37, 3), (85, .iload 4, 2), (87, .iload 6, 2), (89, .ifCond .lt 8, 3), (92, .iload 6, 2), (94, .goto 9, 3), (97, .aload_n 0, 1), (98, .iload 6, 2), (100, .invokevirtual 165, 3), (103, .iastore, 1), (104, .iinc 4 1, 3), (107, .iinc 5 1, 3), (110, .goto (-104), 3), (113, .aload_n 0, 1), (114, .getfield 37, 3), (117, .iconst 0, 1), (118, .iaload, 1), (119, .ireturn, 1)]
set_option maxRecDepth 20000 in
theorem D_X10_value : ∀ q ∈ L_X10_value, decode cX10_value q.1 = .ok q.2 := by decide +kernel
def L_X10_wantOfAll : List (Nat × Instr × Nat) := [(0, .iconst 0, 1), (1, .istore_n 1, 1), (2, .iconst 0, 1), (3, .istore_n 2, 1), (4, .iload_n 2, 1), (5, .aload_n 0, 1), (6, .getfield 46, 3), (9, .getfield 137, 3), (12, .if_icmp .ge 18, 3), (15, .iload_n 1, 1), (16, .aload_n 0, 1), (17, .getfield 9, 3), (20, .iload_n 2, 1), (21, .iaload, 1), (22, .iadd, 1), (23, .istore_n 1, 1), (24, .iinc 2 1, 3), (27, .goto (-23), 3), (30, .iload_n 1, 1), (31, .ireturn, 1)]
set_option maxRecDepth 20000 in
theorem D_X10_wantOfAll : ∀ q ∈ L_X10_wantOfAll, decode cX10_wantOfAll q.1 = .ok q.2 := by decide +kernel
def L_X10_weigh : List (Nat × Instr × Nat) := [(0, .lconst 0, 1), (1, .lstore_n 2, 1), (2, .iconst 0, 1), (3, .istore 4, 2), (5, .iload 4, 2), (7, .aload_n 0, 1), (8, .getfield 198, 3), (11, .if_icmp .ge 80, 3), (14, .aload_n 0, 1), (15, .getfield 27, 3), (18, .iload 4, 2), (20, .iaload, 1), (21, .istore 5, 2), (23, .aload_n 1, 1), (24, .getstatic 227, 3), (27, .if_acmp .ne 14, 3), (30, .aload_n 0, 1), (31, .getfield 34, 3), (34, .iload 5, 2), (36, .iconst 1, 1), (37, .iastore, 1), (38, .goto 36, 3), (41, .aload_n 0, 1), (42, .getfield 34, 3), (45, .iload 5, 2), (47, .aload_n 1, 1), (48, .getstatic 230, 3), (51, .if_acmp .ne 12, 3), (54, .aload_n 0, 1), (55, .iload 5, 2), (57, .invokevirtual 140, 3), (60, .goto 13, 3), (63, .aload_n 0, 1), (64, .getfield 46, 3), (67, .getfield 233, 3), (70, .iload 5, 2), (72, .iaload, 1), (73, .iastore, 1), (74, .lload_n 2, 1), (75, .aload_n 0, 1), (76, .getfield 34, 3), (79, .iload 5, 2), (81, .iaload, 1), (82, .i2l, 1), (83, .ladd, 1), (84, .lstore_n 2, 1), (85, .iinc 4 1, 3), (88, .goto (-83), 3), (91, .lload_n 2, 1), (92, .lreturn, 1)]
set_option maxRecDepth 20000 in
theorem D_X10_weigh : ∀ q ∈ L_X10_weigh, decode cX10_weigh q.1 = .ok q.2 := by decide +kernel
def L_X11_bill : List (Nat × Instr × Nat) := [(0, .iload_n 1, 1), (1, .iconst 0, 1), (2, .aload_n 0, 1), (3, .getfield 70, 3), (6, .getfield 187, 3), (9, .iconst 1, 1), (10, .isub, 1), (11, .invokestatic 40, 3), (14, .ifCond .eq 21, 3), (17, .iload_n 2, 1), (18, .bipush (-2), 2), (20, .aload_n 0, 1), (21, .getfield 10, 3), (24, .getfield 92, 3), (27, .iconst 1, 1), (28, .isub, 1), (29, .invokestatic 40, 3), (32, .ifCond .ne 11, 3), (35, .new 136, 3), (38, .dup, 1), (39, .invokespecial 138, 3), (42, .athrow, 1), (43, .aload_n 0, 1), (44, .getfield 70, 3), (47, .getfield 196, 3), (50, .iload_n 1, 1), (51, .iload_n 2, 1), (52, .invokestatic 199, 3), (55, .iaload, 1), (56, .ireturn, 1)]
set_option maxRecDepth 20000 in
theorem D_X11_bill : ∀ q ∈ L_X11_bill, decode cX11_bill q.1 = .ok q.2 := by decide +kernel
def L_X11_bills : List (Nat × Instr × Nat) := [(0, .aload_n 0, 1), (1, .getfield 70, 3), (4, .getfield 187, 3), (7, .istore_n 1, 1), (8, .iload_n 1, 1), (9, .bipush 10, 2), (11, .if_icmp .lt 5, 3), (14, .iconst (-1), 1), (15, .ireturn, 1), (16, .iload_n 1, 1), (17, .iconst 1, 1), (18, .iadd, 1), (19, .bipush 24, 2), (21, .imul, 1), (22, .istore_n 2, 1), (23, .aload_n 0, 1), (24, .getfield 63, 3), (27, .iload_n 2, 1), (28, .iconst 1, 1), (29, .isub, 1), (30, .aload_n 0, 1), (31, .getfield 104, 3), (34, .invokevirtual 143, 3), (37, .bipush (-2), 2), (39, .istore_n 3, 1), (40, .iload_n 3, 1), (41, .aload_n 0, 1), (42, .getfield 10, 3), (45, .getfield 92, 3), (48, .if_icmp .ge 26, 3), (51, .aload_n 0, 1), (52, .getfield 70, 3), (55, .iload_n 3, 1), (56, .aload_n 0, 1), (57, .getfield 63, 3), (60, .iload_n 3, 1), (61, .iload_n 2, 1), (62, .invokevirtual 190, 3), (65, .invokevirtual 193, 3), (68, .iinc 3 1, 3), (71, .goto (-31), 3), (74, .aload_n 0, 1), (75, .getfield 70, 3), (78, .dup, 1), (79, .getfield 187, 3), (82, .iconst 1, 1), (83, .iadd, 1), (84, .putfield 187, 3), (87, .iload_n 1, 1), (88, .ireturn, 1)]
set_option maxRecDepth 20000 in
theorem D_X11_bills : ∀ q ∈ L_X11_bills, decode cX11_bills q.1 = .ok q.2 := by decide +kernel
def L_X11_by : List (Nat × Instr × Nat) := [(0, .iload_n 1, 1), (1, .invokestatic 101, 3), (4, .ifCond .eq 19, 3), (7, .iload_n 3, 1), (8, .iconst (-1), 1), (9, .if_icmp .eq 16, 3), (12, .aload_n 0, 1), (13, .getfield 10, 3), (16, .iload_n 3, 1), (17, .invokevirtual 97, 3), (20, .ifCond .ne 5, 3), (23, .iconst (-1), 1), (24, .ireturn, 1), (25, .aload_n 0, 1), (26, .getfield 54, 3), (29, .iload_n 1, 1), (30, .aload_n 0, 1), (31, .invokevirtual 139, 3), (34, .invokevirtual 154, 3), (37, .astore 4, 2), (39, .aload 4, 2), (41, .ifnull 18, 3), (44, .iload_n 2, 1), (45, .iconst 0, 1), (46, .aload 4, 2), (48, .getfield 158, 3), (51, .iconst 1, 1), (52, .isub, 1), (53, .invokestatic 40, 3), (56, .ifCond .ne 5, 3), (59, .iconst (-1), 1), (60, .ireturn, 1), (61, .iload_n 3, 1), (62, .iconst (-1), 1), (63, .if_icmp .ne 21, 3), (66, .aload 4, 2), (68, .getfield 159, 3), (71, .iload_n 2, 1), (72, .aaload, 1), (73, .getfield 163, 3), (76, .getstatic 169, 3), (79, .if_acmp .eq 5, 3), (82, .iconst (-1), 1), (83, .ireturn, 1), (84, .aload_n 0, 1), (85, .getfield 63, 3), (88, .iload_n 1, 1), (89, .aload_n 0, 1), (90, .invokevirtual 139, 3), (93, .invokevirtual 143, 3), (96, .aload_n 0, 1), (97, .getfield 63, 3), (100, .iload_n 1, 1), (101, .iload_n 2, 1), (102, .invokevirtual 174, 3), (105, .iload_n 3, 1), (106, .iconst (-1), 1), (107, .if_icmp .ne 13, 3), (110, .aload_n 0, 1), (111, .getfield 47, 3), (114, .getfield 177, 3), (117, .goto 12, 3), (120, .aload_n 0, 1), (121, .getfield 47, 3), (124, .getfield 180, 3), (127, .iload_n 3, 1), (128, .iaload, 1), (129, .ireturn, 1)]
set_option maxRecDepth 20000 in
theorem D_X11_by : ∀ q ∈ L_X11_by, decode cX11_by q.1 = .ok q.2 := by decide +kernel
def L_X11_count : List (Nat × Instr × Nat) := [(0, .iload_n 1, 1), (1, .tableswitch 117 0 8 #[51, 59, 67, 72, 80, 88, 96, 104, 112], 51), (52, .aload_n 0, 1), (53, .getfield 10, 3), (56, .getfield 92, 3), (59, .ireturn, 1), (60, .aload_n 0, 1), (61, .getfield 19, 3), (64, .getfield 88, 3), (67, .ireturn, 1), (68, .aload_n 0, 1), (69, .getfield 104, 3), (72, .ireturn, 1), (73, .aload_n 0, 1), (74, .getfield 54, 3), (77, .getfield 91, 3), (80, .ireturn, 1), (81, .aload_n 0, 1), (82, .getfield 70, 3), (85, .getfield 187, 3), (88, .ireturn, 1), (89, .aload_n 0, 1), (90, .getfield 26, 3), (93, .getfield 121, 3), (96, .ireturn, 1), (97, .aload_n 0, 1), (98, .getfield 54, 3), (101, .invokevirtual 202, 3), (104, .ireturn, 1), (105, .aload_n 0, 1), (106, .getfield 74, 3), (109, .getfield 91, 3), (112, .ireturn, 1), (113, .aload_n 0, 1), (114, .getfield 84, 3), (117, .ireturn, 1), (118, .iconst (-1), 1), (119, .ireturn, 1)]
set_option maxRecDepth 20000 in
theorem D_X11_count : ∀ q ∈ L_X11_count, decode cX11_count q.1 = .ok q.2 := by decide +kernel
def L_X11_dayOfLooks : List (Nat × Instr × Nat) := [(0, .aload_n 0, 1), (1, .getfield 84, 3), (4, .iconst (-1), 1), (5, .if_icmp .ne 10, 3), (8, .aload_n 0, 1), (9, .getfield 104, 3), (12, .goto 7, 3), (15, .aload_n 0, 1), (16, .getfield 84, 3), (19, .ireturn, 1)]
set_option maxRecDepth 20000 in
theorem D_X11_dayOfLooks : ∀ q ∈ L_X11_dayOfLooks, decode cX11_dayOfLooks q.1 = .ok q.2 := by decide +kernel
def L_X11_days : List (Nat × Instr × Nat) := [(0, .iload_n 1, 1), (1, .iconst 0, 1), (2, .bipush 100, 2), (4, .invokestatic 40, 3), (7, .ifCond .ne 5, 3), (10, .iconst (-1), 1), (11, .ireturn, 1), (12, .aload_n 0, 1), (13, .dup, 1), (14, .getfield 104, 3), (17, .iload_n 1, 1), (18, .iadd, 1), (19, .putfield 104, 3), (22, .aload_n 0, 1), (23, .getfield 104, 3), (26, .ireturn, 1)]
set_option maxRecDepth 20000 in
theorem D_X11_days : ∀ q ∈ L_X11_days, decode cX11_days q.1 = .ok q.2 := by decide +kernel
def L_X11_feed : List (Nat × Instr × Nat) := [(0, .aload_n 0, 1), (1, .getfield 26, 3), (4, .lload_n 1, 1), (5, .invokevirtual 117, 3), (8, .aload_n 0, 1), (9, .getfield 26, 3), (12, .lload_n 3, 1), (13, .invokevirtual 117, 3), (16, .aload_n 0, 1), (17, .getfield 26, 3), (20, .lload 5, 2), (22, .invokevirtual 117, 3), (25, .aload_n 0, 1), (26, .getfield 26, 3), (29, .getfield 121, 3), (32, .ireturn, 1)]
set_option maxRecDepth 20000 in
theorem D_X11_feed : ∀ q ∈ L_X11_feed, decode cX11_feed q.1 = .ok q.2 := by decide +kernel
def L_X11_had : List (Nat × Instr × Nat) := [(0, .aload_n 0, 1), (1, .getfield 10, 3), (4, .iload_n 1, 1), (5, .invokevirtual 97, 3), (8, .ifCond .eq 20, 3), (11, .iload_n 2, 1), (12, .invokestatic 101, 3), (15, .ifCond .eq 13, 3), (18, .iload_n 3, 1), (19, .iconst 0, 1), (20, .bipush 8, 2), (22, .invokestatic 40, 3), (25, .ifCond .ne 11, 3), (28, .new 136, 3), (31, .dup, 1), (32, .invokespecial 138, 3), (35, .athrow, 1), (36, .aload_n 0, 1), (37, .getfield 63, 3), (40, .iload_n 2, 1), (41, .aload_n 0, 1), (42, .invokevirtual 139, 3), (45, .invokevirtual 143, 3), (48, .aload_n 0, 1), (49, .getfield 63, 3), (52, .iload_n 1, 1), (53, .iload_n 2, 1), (54, .iload_n 3, 1), (55, .invokevirtual 147, 3), (58, .ireturn, 1)]
set_option maxRecDepth 20000 in
theorem D_X11_had : ∀ q ∈ L_X11_had, decode cX11_had q.1 = .ok q.2 := by decide +kernel
def L_X11_house : List (Nat × Instr × Nat) := [(0, .aload_n 0, 1), (1, .getfield 19, 3), (4, .getfield 88, 3), (7, .ifCond .gt 23, 3), (10, .aload_n 0, 1), (11, .getfield 54, 3), (14, .getfield 91, 3), (17, .ifCond .gt 13, 3), (20, .aload_n 0, 1), (21, .getfield 74, 3), (24, .getfield 91, 3), (27, .ifCond .le 7, 3), (30, .iconst 1, 1), (31, .goto 4, 3), (34, .iconst 0, 1), (35, .istore_n 3, 1), (36, .iload_n 1, 1), (37, .iconst 1, 1), (38, .sipush 1000, 3), (41, .invokestatic 40, 3), (44, .ifCond .eq 18, 3), (47, .iload_n 2, 1), (48, .iconst 0, 1), (49, .sipush 5000, 3), (52, .invokestatic 40, 3), (55, .ifCond .eq 7, 3), (58, .iconst 1, 1), (59, .goto 4, 3), (62, .iconst 0, 1), (63, .istore 4, 2), (65, .iload_n 3, 1), (66, .ifCond .ne 20, 3), (69, .iload 4, 2), (71, .ifCond .eq 15, 3), (74, .aload_n 0, 1), (75, .getfield 10, 3), (78, .getfield 92, 3), (81, .bipush 12, 2), (83, .if_icmp .lt 5, 3), (86, .iconst (-1), 1), (87, .ireturn, 1), (88, .aload_n 0, 1), (89, .getfield 10, 3), (92, .iload_n 1, 1), (93, .iload_n 2, 1), (94, .invokevirtual 93, 3), (97, .ireturn, 1)]
set_option maxRecDepth 20000 in
theorem D_X11_house : ∀ q ∈ L_X11_house, decode cX11_house q.1 = .ok q.2 := by decide +kernel
def L_X11_init : List (Nat × Instr × Nat) := [(0, .aload_n 0, 1), (1, .invokespecial 1, 3), (4, .aload_n 0, 1), (5, .new 7, 3), (8, .dup, 1), (9, .invokespecial 9, 3), (12, .putfield 10, 3), (15, .aload_n 0, 1), (16, .new 16, 3), (19, .dup, 1), (20, .invokespecial 18, 3), (23, .putfield 19, 3), (26, .aload_n 0, 1), (27, .new 23, 3), (30, .dup, 1), (31, .invokespecial 25, 3), (34, .putfield 26, 3), (37, .aload_n 0, 1), (38, .new 30, 3), (41, .dup, 1), (42, .invokespecial 32, 3), (45, .putfield 33, 3), (48, .aload_n 0, 1), (49, .new 37, 3), (52, .dup, 1), (53, .aload_n 0, 1), (54, .getfield 10, 3), (57, .iload_n 1, 1), (58, .iconst 0, 1), (59, .ldc 39, 2), (61, .invokestatic 40, 3), (64, .ifCond .eq 7, 3), (67, .iload_n 1, 1), (68, .goto 6, 3), (71, .sipush 1000, 3), (74, .iload_n 2, 1), (75, .iconst 0, 1), (76, .sipush 500, 3), (79, .invokestatic 40, 3), (82, .ifCond .eq 7, 3), (85, .iload_n 2, 1), (86, .goto 4, 3), (89, .iconst 0, 1), (90, .invokespecial 44, 3), (93, .putfield 47, 3), (96, .aload_n 0, 1), (97, .new 51, 3), (100, .dup, 1), (101, .invokespecial 53, 3), (104, .putfield 54, 3), (107, .aload_n 0, 1), (108, .new 58, 3), (111, .dup, 1), (112, .aload_n 0, 1), (113, .getfield 10, 3), (116, .aload_n 0, 1), (117, .getfield 19, 3), (120, .aload_n 0, 1), (121, .getfield 54, 3), (124, .aload_n 0, 1), (125, .getfield 47, 3), (128, .invokespecial 60, 3), (131, .putfield 63, 3), (134, .aload_n 0, 1), (135, .new 67, 3), (138, .dup, 1), (139, .invokespecial 69, 3), (142, .putfield 70, 3), (145, .aload_n 0, 1), (146, .new 51, 3), (149, .dup, 1), (150, .invokespecial 53, 3), (153, .putfield 74, 3), (156, .aload_n 0, 1), (157, .new 77, 3), (160, .dup, 1), (161, .invokespecial 79, 3), (164, .putfield 80, 3), (167, .aload_n 0, 1), (168, .iconst (-1), 1), (169, .putfield 84, 3), (172, .return_, 1)]
set_option maxRecDepth 20000 in
theorem D_X11_init : ∀ q ∈ L_X11_init, decode cX11_init q.1 = .ok q.2 := by decide +kernel
def L_X11_isIn : List (Nat × Instr × Nat) := [(0, .iload_n 0, 1), (1, .iload_n 1, 1), (2, .if_icmp .lt 12, 3), (5, .iload_n 0, 1), (6, .iload_n 2, 1), (7, .if_icmp .gt 7, 3), (10, .iconst 1, 1), (11, .goto 4, 3), (14, .iconst 0, 1), (15, .ireturn, 1)]
set_option maxRecDepth 20000 in
theorem D_X11_isIn : ∀ q ∈ L_X11_isIn, decode cX11_isIn q.1 = .ok q.2 := by decide +kernel
def L_X11_isQuarter : List (Nat × Instr × Nat) := [(0, .iload_n 0, 1), (1, .iconst 0, 1), (2, .sipush 239, 3), (5, .invokestatic 40, 3), (8, .ireturn, 1)]
set_option maxRecDepth 20000 in
theorem D_X11_isQuarter : ∀ q ∈ L_X11_isQuarter, decode cX11_isQuarter q.1 = .ok q.2 := by decide +kernel
def L_X11_known : List (Nat × Instr × Nat) := [(0, .iload_n 1, 1), (1, .iconst (-1), 1), (2, .if_icmp .eq 17, 3), (5, .iload_n 1, 1), (6, .iconst 0, 1), (7, .aload_n 0, 1), (8, .getfield 104, 3), (11, .invokestatic 40, 3), (14, .ifCond .ne 5, 3), (17, .iconst 0, 1), (18, .ireturn, 1), (19, .aload_n 0, 1), (20, .iload_n 1, 1), (21, .putfield 84, 3), (24, .iconst 1, 1), (25, .ireturn, 1)]
set_option maxRecDepth 20000 in
theorem D_X11_known : ∀ q ∈ L_X11_known, decode cX11_known q.1 = .ok q.2 := by decide +kernel
def L_X11_other : List (Nat × Instr × Nat) := [(0, .aload_n 0, 1), (1, .getfield 33, 3), (4, .aload_n 0, 1), (5, .getfield 26, 3), (8, .aload_n 0, 1), (9, .getfield 10, 3), (12, .getfield 92, 3), (15, .aload_n 0, 1), (16, .getfield 80, 3), (19, .invokevirtual 125, 3), (22, .istore_n 1, 1), (23, .iload_n 1, 1), (24, .ifCond .ne 76, 3), (27, .aload_n 0, 1), (28, .getfield 74, 3), (31, .aload_n 0, 1), (32, .getfield 80, 3), (35, .invokevirtual 132, 3), (38, .astore_n 2, 1), (39, .aload_n 0, 1), (40, .aload_n 2, 1), (41, .ifnonnull 13, 3), (44, .new 77, 3), (47, .dup, 1), (48, .invokespecial 79, 3), (51, .goto 4, 3), (54, .aload_n 2, 1), (55, .putfield 80, 3), (58, .aload_n 0, 1), (59, .getfield 114, 3), (62, .ifnonnull 30, 3), (65, .aload_n 0, 1), (66, .new 58, 3), (69, .dup, 1), (70, .aload_n 0, 1), (71, .getfield 10, 3), (74, .aload_n 0, 1), (75, .getfield 19, 3), (78, .aload_n 0, 1), (79, .getfield 74, 3), (82, .aload_n 0, 1), (83, .getfield 47, 3), (86, .invokespecial 60, 3), (89, .putfield 114, 3), (92, .aload_n 0, 1), (93, .getfield 114, 3), (96, .iconst 0, 1), (97, .invokevirtual 110, 3), (100, .iload_n 1, 1), (101, .ireturn, 1)]
set_option maxRecDepth 20000 in
theorem D_X11_other : ∀ q ∈ L_X11_other, decode cX11_other q.1 = .ok q.2 := by decide +kernel
def L_X11_quarter : List (Nat × Instr × Nat) := [(0, .iload_n 1, 1), (1, .invokestatic 101, 3), (4, .ifCond .eq 13, 3), (7, .iload_n 2, 1), (8, .iconst 0, 1), (9, .bipush 13, 2), (11, .invokestatic 40, 3), (14, .ifCond .ne 11, 3), (17, .new 136, 3), (20, .dup, 1), (21, .invokespecial 138, 3), (24, .athrow, 1), (25, .aload_n 0, 1), (26, .getfield 63, 3), (29, .iload_n 1, 1), (30, .aload_n 0, 1), (31, .invokevirtual 139, 3), (34, .invokevirtual 143, 3), (37, .aload_n 0, 1), (38, .getfield 63, 3), (41, .iload_n 1, 1), (42, .iload_n 2, 1), (43, .invokevirtual 151, 3), (46, .ireturn, 1)]
set_option maxRecDepth 20000 in
theorem D_X11_quarter : ∀ q ∈ L_X11_quarter, decode cX11_quarter q.1 = .ok q.2 := by decide +kernel
def L_X11_read : List (Nat × Instr × Nat) := [(0, .aload_n 0, 1), (1, .getfield 10, 3), (4, .iload_n 1, 1), (5, .invokevirtual 97, 3), (8, .ifCond .eq 14, 3), (11, .iload_n 2, 1), (12, .invokestatic 101, 3), (15, .ifCond .eq 7, 3), (18, .iconst 1, 1), (19, .goto 4, 3), (22, .iconst 0, 1), (23, .istore 5, 2), (25, .iload_n 3, 1), (26, .iconst 0, 1), (27, .sipush 5000, 3), (30, .invokestatic 40, 3), (33, .ifCond .eq 19, 3), (36, .iload 4, 2), (38, .iconst 0, 1), (39, .sipush 5000, 3), (42, .invokestatic 40, 3), (45, .ifCond .eq 7, 3), (48, .iconst 1, 1), (49, .goto 4, 3), (52, .iconst 0, 1), (53, .istore 6, 2), (55, .iload 5, 2), (57, .ifCond .eq 21, 3), (60, .iload 6, 2), (62, .ifCond .eq 16, 3), (65, .aload_n 0, 1), (66, .getfield 19, 3), (69, .getfield 88, 3), (72, .sipush 400, 3), (75, .if_icmp .lt 5, 3), (78, .iconst 0, 1), (79, .ireturn, 1), (80, .aload_n 0, 1), (81, .getfield 19, 3), (84, .iload_n 1, 1), (85, .iload_n 2, 1), (86, .iload_n 3, 1), (87, .iload 4, 2), (89, .aload_n 0, 1), (90, .getfield 104, 3), (93, .invokevirtual 107, 3), (96, .aload_n 0, 1), (97, .getfield 63, 3), (100, .iload_n 2, 1), (101, .invokevirtual 110, 3), (104, .aload_n 0, 1), (105, .getfield 114, 3), (108, .ifnull 11, 3), (111, .aload_n 0, 1), (112, .getfield 114, 3), (115, .iload_n 2, 1), (116, .invokevirtual 110, 3), (119, .iconst 1, 1), (120, .ireturn, 1)]
set_option maxRecDepth 20000 in
theorem D_X11_read : ∀ q ∈ L_X11_read, decode cX11_read q.1 = .ok q.2 := by decide +kernel
def L_X11_text : List (Nat × Instr × Nat) := [(0, .iload_n 1, 1), (1, .invokestatic 101, 3), (4, .ifCond .eq 14, 3), (7, .aload_n 0, 1), (8, .getfield 54, 3), (11, .iload_n 1, 1), (12, .invokevirtual 122, 3), (15, .ifCond .ne 13, 3), (18, .aload_n 0, 1), (19, .getfield 26, 3), (22, .iconst 0, 1), (23, .putfield 121, 3), (26, .iconst (-1), 1), (27, .ireturn, 1), (28, .aload_n 0, 1), (29, .getfield 33, 3), (32, .aload_n 0, 1), (33, .getfield 26, 3), (36, .aload_n 0, 1), (37, .getfield 10, 3), (40, .getfield 92, 3), (43, .aload_n 0, 1), (44, .getfield 80, 3), (47, .invokevirtual 125, 3), (50, .istore_n 2, 1), (51, .iload_n 2, 1), (52, .ifCond .ne 38, 3), (55, .aload_n 0, 1), (56, .getfield 54, 3), (59, .aload_n 0, 1), (60, .getfield 80, 3), (63, .iload_n 1, 1), (64, .aload_n 0, 1), (65, .getfield 104, 3), (68, .invokevirtual 129, 3), (71, .aload_n 0, 1), (72, .new 77, 3), (75, .dup, 1), (76, .invokespecial 79, 3), (79, .putfield 80, 3), (82, .aload_n 0, 1), (83, .getfield 63, 3), (86, .iload_n 1, 1), (87, .invokevirtual 110, 3), (90, .iload_n 2, 1), (91, .ireturn, 1)]
set_option maxRecDepth 20000 in
theorem D_X11_text : ∀ q ∈ L_X11_text, decode cX11_text q.1 = .ok q.2 := by decide +kernel
def L_X11_would : List (Nat × Instr × Nat) := [(0, .aload_n 0, 1), (1, .getfield 114, 3), (4, .ifnull 21, 3), (7, .aload_n 0, 1), (8, .getfield 10, 3), (11, .iload_n 1, 1), (12, .invokevirtual 97, 3), (15, .ifCond .eq 10, 3), (18, .iload_n 2, 1), (19, .invokestatic 101, 3), (22, .ifCond .ne 5, 3), (25, .iconst (-1), 1), (26, .ireturn, 1), (27, .aload_n 0, 1), (28, .getfield 114, 3), (31, .iload_n 2, 1), (32, .aload_n 0, 1), (33, .invokevirtual 139, 3), (36, .invokevirtual 143, 3), (39, .aload_n 0, 1), (40, .getfield 114, 3), (43, .iload_n 1, 1), (44, .iload_n 2, 1), (45, .invokevirtual 184, 3), (48, .ireturn, 1)]
set_option maxRecDepth 20000 in
theorem D_X11_would : ∀ q ∈ L_X11_would, decode cX11_would q.1 = .ok q.2 := by decide +kernel
def L_X12_bill : List (Nat × Instr × Nat) := [(0, .aload_n 0, 1), (1, .iload_n 1, 1), (2, .ifCond .lt 29, 3), (5, .iload_n 1, 1), (6, .aload_n 0, 1), (7, .getfield 431, 3), (10, .if_icmp .ge 21, 3), (13, .iload_n 2, 1), (14, .bipush (-2), 2), (16, .if_icmp .lt 15, 3), (19, .iload_n 2, 1), (20, .aload_n 0, 1), (21, .getfield 300, 3), (24, .if_icmp .ge 7, 3), (27, .iconst 0, 1), (28, .goto 4, 3), (31, .iconst 1, 1), (32, .putfield 1, 3), (35, .aload_n 0, 1), (36, .getfield 1, 3), (39, .ifCond .le 7, 3), (42, .iconst 0, 1), (43, .goto 35, 3), (46, .aload_n 0, 1), (47, .getfield 215, 3), (50, .bipush 14, 2), (52, .iload_n 1, 1), (53, .imul, 1), (54, .iload_n 2, 1), (55, .iconst (-1), 1), (56, .if_icmp .ne 8, 3), (59, .bipush 12, 2), (61, .goto 15, 3), (64, .iload_n 2, 1), (65, .bipush (-2), 2), (67, .if_icmp .ne 8, 3), (70, .bipush 13, 2), (72, .goto 4, 3), (75, .iload_n 2, 1), (76, .iadd, 1), (77, .iaload, 1), (78, .ireturn, 1)]
set_option maxRecDepth 20000 in
theorem D_X12_bill : ∀ q ∈ L_X12_bill, decode cX12_bill q.1 = .ok q.2 := by decide +kernel
def L_X12_bills : List (Nat × Instr × Nat) := [(0, .aload_n 0, 1), (1, .iconst 0, 1), (2, .putfield 1, 3), (5, .aload_n 0, 1), (6, .getfield 431, 3), (9, .bipush 10, 2), (11, .if_icmp .ne 5, 3), (14, .iconst (-1), 1), (15, .ireturn, 1), (16, .aload_n 0, 1), (17, .bipush 24, 2), (19, .aload_n 0, 1), (20, .getfield 431, 3), (23, .imul, 1), (24, .bipush 23, 2), (26, .iadd, 1), (27, .aload_n 0, 1), (28, .getfield 337, 3), (31, .iconst 0, 1), (32, .invokevirtual 427, 3), (35, .iconst 0, 1), (36, .istore_n 1, 1), (37, .iload_n 1, 1), (38, .bipush 14, 2), (40, .if_icmp .ge 63, 3), (43, .iconst 0, 1), (44, .istore_n 2, 1), (45, .iconst 0, 1), (46, .istore_n 3, 1), (47, .iload_n 3, 1), (48, .aload_n 0, 1), (49, .getfield 431, 3), (52, .if_icmp .ge 23, 3), (55, .iload_n 2, 1), (56, .aload_n 0, 1), (57, .getfield 215, 3), (60, .bipush 14, 2), (62, .iload_n 3, 1), (63, .imul, 1), (64, .iload_n 1, 1), (65, .iadd, 1), (66, .iaload, 1), (67, .iadd, 1), (68, .istore_n 2, 1), (69, .iinc 3 1, 3), (72, .goto (-25), 3), (75, .aload_n 0, 1), (76, .getfield 215, 3), (79, .bipush 14, 2), (81, .aload_n 0, 1), (82, .getfield 431, 3), (85, .imul, 1), (86, .iload_n 1, 1), (87, .iadd, 1), (88, .aload_n 0, 1), (89, .getfield 199, 3), (92, .iload_n 1, 1), (93, .iaload, 1), (94, .iload_n 2, 1), (95, .isub, 1), (96, .iastore, 1), (97, .iinc 1 1, 3), (100, .goto (-63), 3), (103, .aload_n 0, 1), (104, .dup, 1), (105, .getfield 431, 3), (108, .iconst 1, 1), (109, .iadd, 1), (110, .putfield 431, 3), (113, .aload_n 0, 1), (114, .getfield 431, 3), (117, .iconst 1, 1), (118, .isub, 1), (119, .ireturn, 1)]
set_option maxRecDepth 20000 in
theorem D_X12_bills : ∀ q ∈ L_X12_bills, decode cX12_bills q.1 = .ok q.2 := by decide +kernel
def L_X12_by : List (Nat × Instr × Nat) := [(0, .aload_n 0, 1), (1, .iconst 0, 1), (2, .putfield 1, 3), (5, .iload_n 1, 1), (6, .ifCond .lt 27, 3), (9, .iload_n 1, 1), (10, .sipush 239, 3), (13, .if_icmp .gt 20, 3), (16, .iload_n 3, 1), (17, .iconst (-1), 1), (18, .if_icmp .lt 15, 3), (21, .iload_n 3, 1), (22, .aload_n 0, 1), (23, .getfield 300, 3), (26, .if_icmp .ge 7, 3), (29, .iload_n 2, 1), (30, .ifCond .ge 5, 3), (33, .iconst (-1), 1), (34, .ireturn, 1), (35, .aload_n 0, 1), (36, .iload_n 1, 1), (37, .aload_n 0, 1), (38, .invokevirtual 424, 3), (41, .iconst 0, 1), (42, .invokevirtual 427, 3), (45, .aload_n 0, 1), (46, .getfield 360, 3), (49, .ifCond .lt 16, 3), (52, .iload_n 2, 1), (53, .aload_n 0, 1), (54, .getfield 85, 3), (57, .aload_n 0, 1), (58, .getfield 360, 3), (61, .iaload, 1), (62, .if_icmp .lt 5, 3), (65, .iconst (-1), 1), (66, .ireturn, 1), (67, .iload_n 3, 1), (68, .ifCond .ge 38, 3), (71, .aload_n 0, 1), (72, .getfield 94, 3), (75, .bipush 24, 2), (77, .aload_n 0, 1), (78, .getfield 360, 3), (81, .imul, 1), (82, .iload_n 2, 1), (83, .iadd, 1), (84, .iaload, 1), (85, .iconst 5, 1), (86, .if_icmp .ne 18, 3), (89, .aload_n 0, 1), (90, .getfield 196, 3), (93, .bipush 13, 2), (95, .iload_n 2, 1), (96, .imul, 1), (97, .bipush 12, 2), (99, .iadd, 1), (100, .iaload, 1), (101, .goto 4, 3), (104, .iconst (-1), 1), (105, .ireturn, 1), (106, .aload_n 0, 1), (107, .getfield 196, 3), (110, .bipush 13, 2), (112, .iload_n 2, 1), (113, .imul, 1), (114, .iload_n 3, 1), (115, .iadd, 1), (116, .iaload, 1), (117, .ireturn, 1)]
set_option maxRecDepth 20000 in
theorem D_X12_by : ∀ q ∈ L_X12_by, decode cX12_by q.1 = .ok q.2 := by decide +kernel
def L_X12_can : List (Nat × Instr × Nat) := [(0, .aload_n 0, 1), (1, .getfield 172, 3), (4, .iload_n 1, 1), (5, .iaload, 1), (6, .ifCond .le 16, 3), (9, .aload_n 0, 1), (10, .getfield 175, 3), (13, .iload_n 1, 1), (14, .iaload, 1), (15, .ifCond .le 7, 3), (18, .iconst 1, 1), (19, .goto 4, 3), (22, .iconst 0, 1), (23, .ireturn, 1)]
set_option maxRecDepth 20000 in
theorem D_X12_can : ∀ q ∈ L_X12_can, decode cX12_can q.1 = .ok q.2 := by decide +kernel
def L_X12_chooses : List (Nat × Instr × Nat) := [(0, .iconst 0, 1), (1, .istore_n 2, 1), (2, .iconst 0, 1), (3, .istore_n 3, 1), (4, .iload_n 3, 1), (5, .aload_n 0, 1), (6, .getfield 300, 3), (9, .if_icmp .ge 65, 3), (12, .aload_n 0, 1), (13, .getfield 205, 3), (16, .iload_n 3, 1), (17, .aload_n 0, 1), (18, .iload_n 3, 1), (19, .invokevirtual 404, 3), (22, .ifCond .eq 27, 3), (25, .aload_n 0, 1), (26, .getfield 103, 3), (29, .iload_n 1, 1), (30, .iaload, 1), (31, .iconst 1, 1), (32, .if_icmp .ne 13, 3), (35, .aload_n 0, 1), (36, .getfield 106, 3), (39, .iload_n 1, 1), (40, .iaload, 1), (41, .iload_n 3, 1), (42, .if_icmp .ne 7, 3), (45, .iconst 1, 1), (46, .goto 4, 3), (49, .iconst 0, 1), (50, .bastore, 1), (51, .iload_n 2, 1), (52, .aload_n 0, 1), (53, .getfield 205, 3), (56, .iload_n 3, 1), (57, .baload, 1), (58, .ifCond .eq 7, 3), (61, .iconst 1, 1), (62, .goto 4, 3), (65, .iconst 0, 1), (66, .iadd, 1), (67, .istore_n 2, 1), (68, .iinc 3 1, 3), (71, .goto (-67), 3), (74, .aload_n 0, 1), (75, .getfield 103, 3), (78, .iload_n 1, 1), (79, .iaload, 1), (80, .iconst 2, 1), (81, .if_icmp .ne 83, 3), (84, .iload_n 2, 1), (85, .aload_n 0, 1), (86, .getfield 106, 3), (89, .iload_n 1, 1), (90, .iaload, 1), (91, .if_icmp .le 73, 3), (94, .iconst (-1), 1), (95, .istore_n 3, 1), (96, .iconst 0, 1), (97, .istore 4, 2), (99, .iload 4, 2), (101, .aload_n 0, 1), (102, .getfield 300, 3), (105, .if_icmp .ge 46, 3), (108, .aload_n 0, 1), (109, .getfield 205, 3), (112, .iload 4, 2), (114, .baload, 1), (115, .ifCond .eq 28, 3), (118, .iload_n 3, 1), (119, .ifCond .lt 19, 3), (122, .aload_n 0, 1), (123, .getfield 190, 3), (126, .iload 4, 2), (128, .iaload, 1), (129, .aload_n 0, 1), (130, .getfield 190, 3), (133, .iload_n 3, 1), (134, .iaload, 1), (135, .if_icmp .lt 8, 3), (138, .iload 4, 2), (140, .goto 4, 3), (143, .iload_n 3, 1), (144, .istore_n 3, 1), (145, .iinc 4 1, 3), (148, .goto (-49), 3), (151, .aload_n 0, 1), (152, .getfield 205, 3), (155, .iload_n 3, 1), (156, .iconst 0, 1), (157, .bastore, 1), (158, .iinc 2 (-1), 3), (161, .goto (-87), 3), (164, .iload_n 2, 1), (165, .ireturn, 1)]
set_option maxRecDepth 20000 in
theorem D_X12_chooses : ∀ q ∈ L_X12_chooses, decode cX12_chooses q.1 = .ok q.2 := by decide +kernel
def L_X12_code : List (Nat × Instr × Nat) := [(0, .aload_n 0, 1), (1, .getfield 118, 3), (4, .bipush 7, 2), (6, .iaload, 1), (7, .istore_n 1, 1), (8, .aload_n 0, 1), (9, .iconst 0, 1), (10, .putfield 303, 3), (13, .aload_n 0, 1), (14, .invokevirtual 306, 3), (17, .aload_n 0, 1), (18, .iconst 0, 1), (19, .iconst 0, 1), (20, .invokevirtual 309, 3), (23, .iload_n 1, 1), (24, .ireturn, 1)]
set_option maxRecDepth 20000 in
theorem D_X12_code : ∀ q ∈ L_X12_code, decode cX12_code q.1 = .ok q.2 := by decide +kernel
def L_X12_count : List (Nat × Instr × Nat) := [(0, .aload_n 0, 1), (1, .iconst 0, 1), (2, .putfield 1, 3), (5, .iload_n 1, 1), (6, .tableswitch 121 0 8 #[50, 55, 60, 65, 70, 75, 80, 103, 116], 50), (56, .aload_n 0, 1), (57, .getfield 300, 3), (60, .ireturn, 1), (61, .aload_n 0, 1), (62, .getfield 344, 3), (65, .ireturn, 1), (66, .aload_n 0, 1), (67, .getfield 337, 3), (70, .ireturn, 1), (71, .aload_n 0, 1), (72, .getfield 328, 3), (75, .ireturn, 1), (76, .aload_n 0, 1), (77, .getfield 431, 3), (80, .ireturn, 1), (81, .aload_n 0, 1), (82, .getfield 11, 3), (85, .ireturn, 1), (86, .aload_n 0, 1), (87, .getfield 328, 3), (90, .ifCond .le 17, 3), (93, .aload_n 0, 1), (94, .getfield 85, 3), (97, .aload_n 0, 1), (98, .getfield 328, 3), (101, .iconst 1, 1), (102, .isub, 1), (103, .iaload, 1), (104, .goto 4, 3), (107, .iconst 0, 1), (108, .ireturn, 1), (109, .aload_n 0, 1), (110, .getfield 340, 3), (113, .ifCond .eq 7, 3), (116, .iconst 1, 1), (117, .goto 4, 3), (120, .iconst 0, 1), (121, .ireturn, 1), (122, .aload_n 0, 1), (123, .getfield 154, 3), (126, .ireturn, 1), (127, .iconst (-1), 1), (128, .ireturn, 1)]
set_option maxRecDepth 20000 in
theorem D_X12_count : ∀ q ∈ L_X12_count, decode cX12_count q.1 = .ok q.2 := by decide +kernel
def L_X12_cutAll : List (Nat × Instr × Nat) := [(0, .aload_n 0, 1), (1, .aload_n 0, 1), (2, .getfield 11, 3), (5, .putfield 229, 3), (8, .aload_n 0, 1), (9, .iconst 0, 1), (10, .putfield 11, 3), (13, .iconst 0, 1), (14, .istore_n 1, 1), (15, .iconst 0, 1), (16, .istore_n 2, 1), (17, .iload_n 2, 1), (18, .aload_n 0, 1), (19, .getfield 229, 3), (22, .if_icmp .ge 259, 3), (25, .aload_n 0, 1), (26, .getfield 14, 3), (29, .iload_n 2, 1), (30, .iaload, 1), (31, .istore_n 3, 1), (32, .iload_n 3, 1), (33, .bipush 10, 2), (35, .if_icmp .eq 9, 3), (38, .iload_n 3, 1), (39, .bipush 32, 2), (41, .if_icmp .ne 9, 3), (44, .iinc 2 1, 3), (47, .goto (-30), 3), (50, .iload_n 2, 1), (51, .istore 4, 2), (53, .lconst 0, 1), (54, .lstore 5, 2), (56, .aload_n 0, 1), (57, .getfield 27, 3), (60, .iload_n 1, 1), (61, .iload_n 2, 1), (62, .iastore, 1), (63, .iload_n 3, 1), (64, .invokestatic 225, 3), (67, .ifCond .eq 85, 3), (70, .iload_n 2, 1), (71, .aload_n 0, 1), (72, .getfield 229, 3), (75, .if_icmp .ge 54, 3), (78, .aload_n 0, 1), (79, .getfield 14, 3), (82, .iload_n 2, 1), (83, .iaload, 1), (84, .invokestatic 225, 3), (87, .ifCond .eq 42, 3), (90, .iload_n 2, 1), (91, .iload 4, 2), (93, .isub, 1), (94, .bipush 8, 2), (96, .if_icmp .ge 23, 3), (99, .ldc2_w 232, 3), (102, .lload 5, 2), (104, .lmul, 1), (105, .aload_n 0, 1), (106, .getfield 14, 3), (109, .iload_n 2, 1), (110, .iaload, 1), (111, .invokestatic 234, 3), (114, .i2l, 1), (115, .ladd, 1), (116, .goto 5, 3), (119, .lload 5, 2), (121, .lstore 5, 2), (123, .iinc 2 1, 3), (126, .goto (-56), 3), (129, .aload_n 0, 1), (130, .getfield 24, 3), (133, .iload_n 1, 1), (134, .iload_n 2, 1), (135, .iload 4, 2), (137, .isub, 1), (138, .bipush 8, 2), (140, .if_icmp .le 7, 3), (143, .iconst 4, 1), (144, .goto 4, 3), (147, .iconst 1, 1), (148, .iastore, 1), (149, .goto 118, 3), (152, .iload_n 3, 1), (153, .invokestatic 238, 3), (156, .ifCond .eq 86, 3), (159, .iload_n 2, 1), (160, .aload_n 0, 1), (161, .getfield 229, 3), (164, .if_icmp .ge 55, 3), (167, .aload_n 0, 1), (168, .getfield 14, 3), (171, .iload_n 2, 1), (172, .iaload, 1), (173, .invokestatic 238, 3), (176, .ifCond .eq 43, 3), (179, .iload_n 2, 1), (180, .iload 4, 2), (182, .isub, 1), (183, .bipush 6, 2), (185, .if_icmp .ge 24, 3), (188, .ldc2_w 241, 3), (191, .lload 5, 2), (193, .lmul, 1), (194, .aload_n 0, 1), (195, .getfield 14, 3), (198, .iload_n 2, 1), (199, .iaload, 1), (200, .i2l, 1), (201, .ladd, 1), (202, .ldc2_w 243, 3), (205, .lsub, 1), (206, .goto 5, 3), (209, .lload 5, 2), (211, .lstore 5, 2), (213, .iinc 2 1, 3), (216, .goto (-57), 3), (219, .aload_n 0, 1), (220, .getfield 24, 3), (223, .iload_n 1, 1), (224, .iload_n 2, 1), (225, .iload 4, 2), (227, .isub, 1), (228, .bipush 6, 2), (230, .if_icmp .le 7, 3), (233, .iconst 4, 1), (234, .goto 4, 3), (237, .iconst 2, 1), (238, .iastore, 1), (239, .goto 28, 3), (242, .iload_n 3, 1), (243, .i2l, 1), (244, .lstore 5, 2), (246, .aload_n 0, 1), (247, .getfield 24, 3), (250, .iload_n 1, 1), (251, .iload_n 3, 1), (252, .invokestatic 245, 3), (255, .ifCond .eq 7, 3), (258, .iconst 3, 1), (259, .goto 4, 3), (262, .iconst 4, 1), (263, .iastore, 1), (264, .iinc 2 1, 3), (267, .aload_n 0, 1), (268, .getfield 30, 3), (271, .iload_n 1, 1), (272, .lload 5, 2), (274, .lastore, 1), (275, .iinc 1 1, 3), (278, .goto (-261), 3), (281, .aload_n 0, 1), (282, .getfield 24, 3), (285, .iload_n 1, 1), (286, .iconst 0, 1), (287, .iastore, 1), (288, .aload_n 0, 1), (289, .getfield 27, 3), (292, .iload_n 1, 1), (293, .aload_n 0, 1), (294, .getfield 229, 3), (297, .iastore, 1), (298, .aload_n 0, 1), (299, .iconst 0, 1), (300, .putfield 248, 3), (303, .aload_n 0, 1), (304, .iconst 0, 1), (305, .putfield 251, 3), (308, .return_, 1)]
set_option maxRecDepth 20000 in
theorem D_X12_cutAll : ∀ q ∈ L_X12_cutAll, decode cX12_cutAll q.1 = .ok q.2 := by decide +kernel
def L_X12_days : List (Nat × Instr × Nat) := [(0, .aload_n 0, 1), (1, .iconst 0, 1), (2, .putfield 1, 3), (5, .iload_n 1, 1), (6, .ifCond .lt 9, 3), (9, .iload_n 1, 1), (10, .bipush 100, 2), (12, .if_icmp .le 5, 3), (15, .iconst (-1), 1), (16, .ireturn, 1), (17, .aload_n 0, 1), (18, .dup, 1), (19, .getfield 337, 3), (22, .iload_n 1, 1), (23, .iadd, 1), (24, .putfield 337, 3), (27, .aload_n 0, 1), (28, .getfield 337, 3), (31, .ireturn, 1)]
set_option maxRecDepth 20000 in
theorem D_X12_days : ∀ q ∈ L_X12_days, decode cX12_days q.1 = .ok q.2 := by decide +kernel
def L_X12_emit : List (Nat × Instr × Nat) := [(0, .sipush 9100, 3), (3, .aload_n 0, 1), (4, .getfield 118, 3), (7, .bipush 7, 2), (9, .iaload, 1), (10, .iadd, 1), (11, .istore_n 3, 1), (12, .aload_n 0, 1), (13, .getfield 112, 3), (16, .iload_n 3, 1), (17, .iload_n 1, 1), (18, .iastore, 1), (19, .aload_n 0, 1), (20, .getfield 115, 3), (23, .iload_n 3, 1), (24, .iload_n 2, 1), (25, .iastore, 1), (26, .aload_n 0, 1), (27, .getfield 118, 3), (30, .bipush 7, 2), (32, .dup2, 1), (33, .iaload, 1), (34, .iconst 1, 1), (35, .iadd, 1), (36, .iastore, 1), (37, .return_, 1)]
set_option maxRecDepth 20000 in
theorem D_X12_emit : ∀ q ∈ L_X12_emit, decode cX12_emit q.1 = .ok q.2 := by decide +kernel
def L_X12_expression : List (Nat × Instr × Nat) := [(0, .aload_n 0, 1), (1, .invokevirtual 313, 3), (4, .iconst 1, 1), (5, .istore_n 1, 1), (6, .iload_n 1, 1), (7, .ifCond .eq 33, 3), (10, .aload_n 0, 1), (11, .getfield 251, 3), (14, .ifCond .ne 26, 3), (17, .aload_n 0, 1), (18, .invokevirtual 316, 3), (21, .ifCond .ne 10, 3), (24, .aload_n 0, 1), (25, .invokevirtual 319, 3), (28, .ifCond .eq 7, 3), (31, .iconst 1, 1), (32, .goto 4, 3), (35, .iconst 0, 1), (36, .istore_n 1, 1), (37, .goto (-31), 3), (40, .return_, 1)]
set_option maxRecDepth 20000 in
theorem D_X12_expression : ∀ q ∈ L_X12_expression, decode cX12_expression q.1 = .ok q.2 := by decide +kernel
def L_X12_feed : List (Nat × Instr × Nat) := [(0, .aload_n 0, 1), (1, .iconst 0, 1), (2, .putfield 1, 3), (5, .aload_n 0, 1), (6, .lload_n 1, 1), (7, .invokevirtual 7, 3), (10, .aload_n 0, 1), (11, .lload_n 3, 1), (12, .invokevirtual 7, 3), (15, .aload_n 0, 1), (16, .lload 5, 2), (18, .invokevirtual 7, 3), (21, .aload_n 0, 1), (22, .getfield 11, 3), (25, .ireturn, 1)]
set_option maxRecDepth 20000 in
theorem D_X12_feed : ∀ q ∈ L_X12_feed, decode cX12_feed q.1 = .ok q.2 := by decide +kernel
def L_X12_givesBy : List (Nat × Instr × Nat) := [(0, .aload_n 0, 1), (1, .getfield 100, 3), (4, .iload_n 2, 1), (5, .iaload, 1), (6, .ifCond .ne 10, 3), (9, .aload_n 0, 1), (10, .getfield 369, 3), (13, .goto 7, 3), (16, .aload_n 0, 1), (17, .getfield 350, 3), (20, .istore_n 3, 1), (21, .aload_n 0, 1), (22, .getfield 97, 3), (25, .iload_n 2, 1), (26, .iaload, 1), (27, .ifCond .ge 7, 3), (30, .iload_n 3, 1), (31, .goto 13, 3), (34, .aload_n 0, 1), (35, .aload_n 0, 1), (36, .getfield 97, 3), (39, .iload_n 2, 1), (40, .iaload, 1), (41, .invokevirtual 398, 3), (44, .istore 4, 2), (46, .iload 4, 2), (48, .ifCond .ge 7, 3), (51, .iconst 0, 1), (52, .goto 15, 3), (55, .iload 4, 2), (57, .iload_n 3, 1), (58, .if_icmp .le 7, 3), (61, .iload_n 3, 1), (62, .goto 5, 3), (65, .iload 4, 2), (67, .istore 4, 2), (69, .aload_n 0, 1), (70, .iload_n 2, 1), (71, .invokevirtual 407, 3), (74, .istore 5, 2), (76, .lconst 0, 1), (77, .lstore 6, 2), (79, .iconst 0, 1), (80, .istore 8, 2), (82, .iload 8, 2), (84, .aload_n 0, 1), (85, .getfield 300, 3), (88, .if_icmp .ge 93, 3), (91, .aload_n 0, 1), (92, .getfield 212, 3), (95, .iload 8, 2), (97, .aload_n 0, 1), (98, .getfield 205, 3), (101, .iload 8, 2), (103, .baload, 1), (104, .ifCond .ne 7, 3), (107, .iconst 0, 1), (108, .goto 53, 3), (111, .aload_n 0, 1), (112, .getfield 109, 3), (115, .iload_n 2, 1), (116, .iaload, 1), (117, .ifCond .ne 7, 3), (120, .iconst 1, 1), (121, .goto 40, 3), (124, .aload_n 0, 1), (125, .getfield 109, 3), (128, .iload_n 2, 1), (129, .iaload, 1), (130, .iconst 1, 1), (131, .if_icmp .ne 23, 3), (134, .aload_n 0, 1), (135, .getfield 172, 3), (138, .iload 8, 2), (140, .iaload, 1), (141, .aload_n 0, 1), (142, .getfield 175, 3), (145, .iload 8, 2), (147, .iaload, 1), (148, .invokestatic 410, 3), (151, .goto 10, 3), (154, .aload_n 0, 1), (155, .getfield 133, 3), (158, .iload 8, 2), (160, .iaload, 1), (161, .iastore, 1), (162, .lload 6, 2), (164, .aload_n 0, 1), (165, .getfield 212, 3), (168, .iload 8, 2), (170, .iaload, 1), (171, .i2l, 1), (172, .ladd, 1), (173, .lstore 6, 2), (175, .iinc 8 1, 3), (178, .goto (-96), 3), (181, .iload 4, 2), (183, .istore 8, 2), (185, .iconst 0, 1), (186, .istore 9, 2), (188, .iload 9, 2), (190, .aload_n 0, 1), (191, .getfield 300, 3), (194, .if_icmp .ge 106, 3), (197, .aload_n 0, 1), (198, .getfield 205, 3), (201, .iload 9, 2), (203, .baload, 1), (204, .ifCond .eq 21, 3), (207, .iload 4, 2), (209, .i2l, 1), (210, .aload_n 0, 1), (211, .getfield 212, 3), (214, .iload 9, 2), (216, .iaload, 1), (217, .i2l, 1), (218, .lmul, 1), (219, .lload 6, 2), (221, .ldiv, 1), (222, .goto 4, 3), (225, .lconst 0, 1), (226, .lstore 10, 2), (228, .aload_n 0, 1), (229, .getfield 209, 3), (232, .iload 9, 2), (234, .lload 10, 2), (236, .aload_n 0, 1), (237, .getfield 172, 3), (240, .iload 9, 2), (242, .iaload, 1), (243, .aload_n 0, 1), (244, .getfield 175, 3), (247, .iload 9, 2), (249, .iaload, 1), (250, .invokestatic 410, 3), (253, .i2l, 1), (254, .lcmp, 1), (255, .ifCond .le 23, 3), (258, .aload_n 0, 1), (259, .getfield 172, 3), (262, .iload 9, 2), (264, .iaload, 1), (265, .aload_n 0, 1), (266, .getfield 175, 3), (269, .iload 9, 2), (271, .iaload, 1), (272, .invokestatic 410, 3), (275, .goto 6, 3), (278, .lload 10, 2), (280, .l2i, 1), (281, .iastore, 1), (282, .iload 8, 2), (284, .aload_n 0, 1), (285, .getfield 209, 3), (288, .iload 9, 2), (290, .iaload, 1), (291, .isub, 1), (292, .istore 8, 2), (294, .iinc 9 1, 3), (297, .goto (-109), 3), (300, .iconst 0, 1), (301, .istore 9, 2), (303, .iload 9, 2), (305, .aload_n 0, 1), (306, .getfield 300, 3), (309, .if_icmp .ge 24, 3), (312, .aload_n 0, 1), (313, .iload_n 1, 1), (314, .iload_n 2, 1), (315, .iload 9, 2), (317, .aload_n 0, 1), (318, .getfield 209, 3), (321, .iload 9, 2), (323, .iaload, 1), (324, .invokevirtual 413, 3), (327, .iinc 9 1, 3), (330, .goto (-27), 3), (333, .iload 8, 2), (335, .ifCond .le 18, 3), (338, .iload 8, 2), (340, .iload 5, 2), (342, .if_icmp .ge 11, 3), (345, .aload_n 0, 1), (346, .iload_n 1, 1), (347, .iload_n 2, 1), (348, .iload 8, 2), (350, .invokevirtual 417, 3), (353, .return_, 1)]
set_option maxRecDepth 20000 in
theorem D_X12_givesBy : ∀ q ∈ L_X12_givesBy, decode cX12_givesBy q.1 = .ok q.2 := by decide +kernel
def L_X12_goesOn : List (Nat × Instr × Nat) := [(0, .aload_n 0, 1), (1, .getfield 251, 3), (4, .ifCond .ne 203, 3), (7, .aload_n 0, 1), (8, .getfield 127, 3), (11, .aload_n 0, 1), (12, .getfield 303, 3), (15, .iaload, 1), (16, .ifCond .eq 27, 3), (19, .aload_n 0, 1), (20, .aload_n 0, 1), (21, .getfield 127, 3), (24, .aload_n 0, 1), (25, .getfield 303, 3), (28, .iaload, 1), (29, .iconst 0, 1), (30, .invokevirtual 309, 3), (33, .aload_n 0, 1), (34, .getfield 127, 3), (37, .aload_n 0, 1), (38, .getfield 303, 3), (41, .iconst 0, 1), (42, .iastore, 1), (43, .aload_n 0, 1), (44, .bipush 43, 2), (46, .invokevirtual 254, 3), (49, .ifCond .ne 12, 3), (52, .aload_n 0, 1), (53, .bipush 45, 2), (55, .invokevirtual 254, 3), (58, .ifCond .eq 38, 3), (61, .aload_n 0, 1), (62, .getfield 127, 3), (65, .aload_n 0, 1), (66, .getfield 303, 3), (69, .aload_n 0, 1), (70, .bipush 43, 2), (72, .invokevirtual 254, 3), (75, .ifCond .eq 7, 3), (78, .iconst 3, 1), (79, .goto 4, 3), (82, .iconst 4, 1), (83, .iastore, 1), (84, .aload_n 0, 1), (85, .dup, 1), (86, .getfield 248, 3), (89, .iconst 1, 1), (90, .iadd, 1), (91, .putfield 248, 3), (94, .iconst 1, 1), (95, .ireturn, 1), (96, .aload_n 0, 1), (97, .getfield 130, 3), (100, .aload_n 0, 1), (101, .getfield 303, 3), (104, .iaload, 1), (105, .ifCond .eq 20, 3), (108, .aload_n 0, 1), (109, .aload_n 0, 1), (110, .getfield 130, 3), (113, .aload_n 0, 1), (114, .getfield 303, 3), (117, .iaload, 1), (118, .iconst 0, 1), (119, .invokevirtual 309, 3), (122, .goto 57, 3), (125, .aload_n 0, 1), (126, .bipush 60, 2), (128, .invokevirtual 254, 3), (131, .ifCond .ne 12, 3), (134, .aload_n 0, 1), (135, .bipush 61, 2), (137, .invokevirtual 254, 3), (140, .ifCond .eq 39, 3), (143, .aload_n 0, 1), (144, .getfield 130, 3), (147, .aload_n 0, 1), (148, .getfield 303, 3), (151, .aload_n 0, 1), (152, .bipush 60, 2), (154, .invokevirtual 254, 3), (157, .ifCond .eq 7, 3), (160, .iconst 5, 1), (161, .goto 5, 3), (164, .bipush 6, 2), (166, .iastore, 1), (167, .aload_n 0, 1), (168, .dup, 1), (169, .getfield 248, 3), (172, .iconst 1, 1), (173, .iadd, 1), (174, .putfield 248, 3), (177, .iconst 1, 1), (178, .ireturn, 1), (179, .aload_n 0, 1), (180, .getfield 303, 3), (183, .ifCond .ne 5, 3), (186, .iconst 0, 1), (187, .ireturn, 1), (188, .aload_n 0, 1), (189, .bipush 41, 2), (191, .invokevirtual 280, 3), (194, .aload_n 0, 1), (195, .dup, 1), (196, .getfield 303, 3), (199, .iconst 1, 1), (200, .isub, 1), (201, .putfield 303, 3), (204, .goto (-204), 3), (207, .iconst 0, 1), (208, .ireturn, 1)]
set_option maxRecDepth 20000 in
theorem D_X12_goesOn : ∀ q ∈ L_X12_goesOn, decode cX12_goesOn q.1 = .ok q.2 := by decide +kernel
def L_X12_had : List (Nat × Instr × Nat) := [(0, .aload_n 0, 1), (1, .iload_n 1, 1), (2, .ifCond .lt 36, 3), (5, .iload_n 1, 1), (6, .aload_n 0, 1), (7, .getfield 300, 3), (10, .if_icmp .ge 28, 3), (13, .iload_n 2, 1), (14, .ifCond .lt 24, 3), (17, .iload_n 2, 1), (18, .sipush 239, 3), (21, .if_icmp .gt 17, 3), (24, .iload_n 3, 1), (25, .ifCond .lt 13, 3), (28, .iload_n 3, 1), (29, .bipush 8, 2), (31, .if_icmp .gt 7, 3), (34, .iconst 0, 1), (35, .goto 4, 3), (38, .iconst 1, 1), (39, .putfield 1, 3), (42, .aload_n 0, 1), (43, .getfield 1, 3), (46, .ifCond .le 5, 3), (49, .iconst 0, 1), (50, .ireturn, 1), (51, .aload_n 0, 1), (52, .iload_n 2, 1), (53, .aload_n 0, 1), (54, .invokevirtual 424, 3), (57, .iconst 0, 1), (58, .invokevirtual 427, 3), (61, .iload_n 3, 1), (62, .tableswitch 102 0 7 #[46, 53, 60, 67, 74, 81, 88, 95], 46), (108, .aload_n 0, 1), (109, .getfield 160, 3), (112, .iload_n 1, 1), (113, .iaload, 1), (114, .ireturn, 1), (115, .aload_n 0, 1), (116, .getfield 163, 3), (119, .iload_n 1, 1), (120, .iaload, 1), (121, .ireturn, 1), (122, .aload_n 0, 1), (123, .getfield 169, 3), (126, .iload_n 1, 1), (127, .iaload, 1), (128, .ireturn, 1), (129, .aload_n 0, 1), (130, .getfield 181, 3), (133, .iload_n 1, 1), (134, .iaload, 1), (135, .ireturn, 1), (136, .aload_n 0, 1), (137, .getfield 184, 3), (140, .iload_n 1, 1), (141, .iaload, 1), (142, .ireturn, 1), (143, .aload_n 0, 1), (144, .getfield 187, 3), (147, .iload_n 1, 1), (148, .iaload, 1), (149, .ireturn, 1), (150, .aload_n 0, 1), (151, .getfield 172, 3), (154, .iload_n 1, 1), (155, .iaload, 1), (156, .ireturn, 1), (157, .aload_n 0, 1), (158, .getfield 166, 3), (161, .iload_n 1, 1), (162, .iaload, 1), (163, .ireturn, 1), (164, .aload_n 0, 1), (165, .getfield 193, 3), (168, .iload_n 1, 1), (169, .iaload, 1), (170, .ireturn, 1)]
set_option maxRecDepth 20000 in
theorem D_X12_had : ∀ q ∈ L_X12_had, decode cX12_had q.1 = .ok q.2 := by decide +kernel
def L_X12_hands : List (Nat × Instr × Nat) := [(0, .aload_n 0, 1), (1, .getfield 172, 3), (4, .iload_n 3, 1), (5, .dup2, 1), (6, .iaload, 1), (7, .iload 4, 2), (9, .isub, 1), (10, .iastore, 1), (11, .aload_n 0, 1), (12, .getfield 175, 3), (15, .iload_n 3, 1), (16, .dup2, 1), (17, .iaload, 1), (18, .iload 4, 2), (20, .isub, 1), (21, .iastore, 1), (22, .aload_n 0, 1), (23, .getfield 190, 3), (26, .iload_n 3, 1), (27, .dup2, 1), (28, .iaload, 1), (29, .iload 4, 2), (31, .iadd, 1), (32, .iastore, 1), (33, .aload_n 0, 1), (34, .getfield 196, 3), (37, .bipush 13, 2), (39, .iload_n 1, 1), (40, .imul, 1), (41, .iload_n 3, 1), (42, .iadd, 1), (43, .dup2, 1), (44, .iaload, 1), (45, .iload 4, 2), (47, .iadd, 1), (48, .iastore, 1), (49, .aload_n 0, 1), (50, .getfield 100, 3), (53, .iload_n 2, 1), (54, .iaload, 1), (55, .ifCond .ne 28, 3), (58, .aload_n 0, 1), (59, .getfield 181, 3), (62, .iload_n 3, 1), (63, .dup2, 1), (64, .iaload, 1), (65, .iload 4, 2), (67, .iadd, 1), (68, .iastore, 1), (69, .aload_n 0, 1), (70, .dup, 1), (71, .getfield 369, 3), (74, .iload 4, 2), (76, .isub, 1), (77, .putfield 369, 3), (80, .goto 25, 3), (83, .aload_n 0, 1), (84, .getfield 184, 3), (87, .iload_n 3, 1), (88, .dup2, 1), (89, .iaload, 1), (90, .iload 4, 2), (92, .iadd, 1), (93, .iastore, 1), (94, .aload_n 0, 1), (95, .dup, 1), (96, .getfield 350, 3), (99, .iload 4, 2), (101, .isub, 1), (102, .putfield 350, 3), (105, .return_, 1)]
set_option maxRecDepth 20000 in
theorem D_X12_hands : ∀ q ∈ L_X12_hands, decode cX12_hands q.1 = .ok q.2 := by decide +kernel
def L_X12_hasSign : List (Nat × Instr × Nat) := [(0, .aload_n 0, 1), (1, .iload_n 1, 1), (2, .invokevirtual 254, 3), (5, .istore_n 2, 1), (6, .aload_n 0, 1), (7, .dup, 1), (8, .getfield 248, 3), (11, .iload_n 2, 1), (12, .ifCond .eq 7, 3), (15, .iconst 1, 1), (16, .goto 4, 3), (19, .iconst 0, 1), (20, .iadd, 1), (21, .putfield 248, 3), (24, .iload_n 2, 1), (25, .ireturn, 1)]
set_option maxRecDepth 20000 in
theorem D_X12_hasSign : ∀ q ∈ L_X12_hasSign, decode cX12_hasSign q.1 = .ok q.2 := by decide +kernel
def L_X12_hasWord : List (Nat × Instr × Nat) := [(0, .aload_n 0, 1), (1, .iload_n 1, 1), (2, .invokevirtual 261, 3), (5, .istore_n 2, 1), (6, .aload_n 0, 1), (7, .dup, 1), (8, .getfield 248, 3), (11, .iload_n 2, 1), (12, .ifCond .eq 7, 3), (15, .iconst 1, 1), (16, .goto 4, 3), (19, .iconst 0, 1), (20, .iadd, 1), (21, .putfield 248, 3), (24, .iload_n 2, 1), (25, .ireturn, 1)]
set_option maxRecDepth 20000 in
theorem D_X12_hasWord : ∀ q ∈ L_X12_hasWord, decode cX12_hasWord q.1 = .ok q.2 := by decide +kernel
def L_X12_house : List (Nat × Instr × Nat) := [(0, .aload_n 0, 1), (1, .iconst 0, 1), (2, .putfield 1, 3), (5, .iload_n 1, 1), (6, .iconst 1, 1), (7, .if_icmp .lt 51, 3), (10, .iload_n 1, 1), (11, .sipush 1000, 3), (14, .if_icmp .gt 44, 3), (17, .iload_n 2, 1), (18, .ifCond .lt 40, 3), (21, .iload_n 2, 1), (22, .sipush 5000, 3), (25, .if_icmp .gt 33, 3), (28, .aload_n 0, 1), (29, .getfield 300, 3), (32, .bipush 12, 2), (34, .if_icmp .eq 24, 3), (37, .aload_n 0, 1), (38, .getfield 344, 3), (41, .ifCond .gt 17, 3), (44, .aload_n 0, 1), (45, .getfield 328, 3), (48, .ifCond .gt 10, 3), (51, .aload_n 0, 1), (52, .getfield 340, 3), (55, .ifCond .eq 5, 3), (58, .iconst (-1), 1), (59, .ireturn, 1), (60, .aload_n 0, 1), (61, .getfield 133, 3), (64, .aload_n 0, 1), (65, .getfield 300, 3), (68, .iload_n 1, 1), (69, .iastore, 1), (70, .aload_n 0, 1), (71, .getfield 136, 3), (74, .aload_n 0, 1), (75, .getfield 300, 3), (78, .iload_n 2, 1), (79, .iastore, 1), (80, .aload_n 0, 1), (81, .dup, 1), (82, .getfield 300, 3), (85, .iconst 1, 1), (86, .iadd, 1), (87, .putfield 300, 3), (90, .aload_n 0, 1), (91, .getfield 300, 3), (94, .iconst 1, 1), (95, .isub, 1), (96, .ireturn, 1)]
set_option maxRecDepth 20000 in
theorem D_X12_house : ∀ q ∈ L_X12_house, decode cX12_house q.1 = .ok q.2 := by decide +kernel
def L_X12_init : List (Nat × Instr × Nat) := [(0, .aload_n 0, 1), (1, .invokespecial 18, 3), (4, .aload_n 0, 1), (5, .sipush 1200, 3), (8, .newarray .int, 2), (10, .putfield 14, 3), (13, .aload_n 0, 1), (14, .sipush 1202, 3), (17, .newarray .int, 2), (19, .putfield 24, 3), (22, .aload_n 0, 1), (23, .sipush 1202, 3), (26, .newarray .int, 2), (28, .putfield 27, 3), (31, .aload_n 0, 1), (32, .sipush 1202, 3), (35, .newarray .long, 2), (37, .putfield 30, 3), (40, .aload_n 0, 1), (41, .bipush 24, 2), (43, .newarray .long, 2), (45, .dup, 1), (46, .iconst 0, 1), (47, .ldc2_w 34, 3), (50, .lastore, 1), (51, .dup, 1), (52, .iconst 1, 1), (53, .ldc2_w 36, 3), (56, .lastore, 1), (57, .dup, 1), (58, .iconst 2, 1), (59, .ldc2_w 38, 3), (62, .lastore, 1), (63, .dup, 1), (64, .iconst 3, 1), (65, .ldc2_w 40, 3), (68, .lastore, 1), (69, .dup, 1), (70, .iconst 4, 1), (71, .ldc2_w 42, 3), (74, .lastore, 1), (75, .dup, 1), (76, .iconst 5, 1), (77, .ldc2_w 44, 3), (80, .lastore, 1), (81, .dup, 1), (82, .bipush 6, 2), (84, .ldc2_w 46, 3), (87, .lastore, 1), (88, .dup, 1), (89, .bipush 7, 2), (91, .ldc2_w 48, 3), (94, .lastore, 1), (95, .dup, 1), (96, .bipush 8, 2), (98, .ldc2_w 50, 3), (101, .lastore, 1), (102, .dup, 1), (103, .bipush 9, 2), (105, .ldc2_w 52, 3), (108, .lastore, 1), (109, .dup, 1), (110, .bipush 10, 2), (112, .ldc2_w 54, 3), (115, .lastore, 1), (116, .dup, 1), (117, .bipush 11, 2), (119, .ldc2_w 56, 3), (122, .lastore, 1), (123, .dup, 1), (124, .bipush 12, 2), (126, .ldc2_w 58, 3), (129, .lastore, 1), (130, .dup, 1), (131, .bipush 13, 2), (133, .ldc2_w 60, 3), (136, .lastore, 1), (137, .dup, 1), (138, .bipush 14, 2), (140, .ldc2_w 62, 3), (143, .lastore, 1), (144, .dup, 1), (145, .bipush 15, 2), (147, .ldc2_w 64, 3), (150, .lastore, 1), (151, .dup, 1), (152, .bipush 16, 2), (154, .ldc2_w 66, 3), (157, .lastore, 1), (158, .dup, 1), (159, .bipush 17, 2), (161, .ldc2_w 68, 3), (164, .lastore, 1), (165, .dup, 1), (166, .bipush 18, 2), (168, .ldc2_w 70, 3), (171, .lastore, 1), (172, .dup, 1), (173, .bipush 19, 2), (175, .ldc2_w 72, 3), (178, .lastore, 1), (179, .dup, 1), (180, .bipush 20, 2), (182, .ldc2_w 74, 3), (185, .lastore, 1), (186, .dup, 1), (187, .bipush 21, 2), (189, .ldc2_w 76, 3), (192, .lastore, 1), (193, .dup, 1), (194, .bipush 22, 2), (196, .ldc2_w 78, 3), (199, .lastore, 1), (200, .dup, 1), (201, .bipush 23, 2), (203, .ldc2_w 80, 3), (206, .lastore, 1), (207, .putfield 82, 3), (210, .aload_n 0, 1), (211, .bipush 8, 2), (213, .newarray .int, 2), (215, .putfield 85, 3), (218, .aload_n 0, 1), (219, .bipush 8, 2), (221, .newarray .int, 2), (223, .putfield 88, 3), (226, .aload_n 0, 1), (227, .sipush 192, 3), (230, .newarray .int, 2), (232, .putfield 91, 3), (235, .aload_n 0, 1), (236, .sipush 192, 3), (239, .newarray .int, 2), (241, .putfield 94, 3), (244, .aload_n 0, 1), (245, .sipush 192, 3), (248, .newarray .int, 2), (250, .putfield 97, 3), (253, .aload_n 0, 1), (254, .sipush 192, 3), (257, .newarray .int, 2), (259, .putfield 100, 3), (262, .aload_n 0, 1), (263, .sipush 192, 3), (266, .newarray .int, 2), (268, .putfield 103, 3), (271, .aload_n 0, 1), (272, .sipush 192, 3), (275, .newarray .int, 2), (277, .putfield 106, 3), (280, .aload_n 0, 1), (281, .sipush 192, 3), (284, .newarray .int, 2), (286, .putfield 109, 3), (289, .aload_n 0, 1), (290, .sipush 10400, 3), (293, .newarray .int, 2), (295, .putfield 112, 3), (298, .aload_n 0, 1), (299, .sipush 10400, 3), (302, .newarray .int, 2), (304, .putfield 115, 3), (307, .aload_n 0, 1), (308, .bipush 8, 2), (310, .newarray .int, 2), (312, .putfield 118, 3), (315, .aload_n 0, 1), (316, .bipush 6, 2), (318, .newarray .int, 2), (320, .putfield 121, 3), (323, .aload_n 0, 1), (324, .bipush 6, 2), (326, .newarray .int, 2), (328, .putfield 124, 3), (331, .aload_n 0, 1), (332, .bipush 8, 2), (334, .newarray .int, 2), (336, .putfield 127, 3), (339, .aload_n 0, 1), (340, .bipush 8, 2), (342, .newarray .int, 2), (344, .putfield 130, 3), (347, .aload_n 0, 1), (348, .bipush 12, 2), (350, .newarray .int, 2), (352, .putfield 133, 3), (355, .aload_n 0, 1), (356, .bipush 12, 2), (358, .newarray .int, 2), (360, .putfield 136, 3), (363, .aload_n 0, 1), (364, .sipush 400, 3), (367, .newarray .int, 2), (369, .putfield 139, 3), (372, .aload_n 0, 1), (373, .sipush 400, 3), (376, .newarray .int, 2), (378, .putfield 142, 3), (381, .aload_n 0, 1), (382, .sipush 400, 3), (385, .newarray .int, 2), (387, .putfield 145, 3), (390, .aload_n 0, 1), (391, .sipush 400, 3), (394, .newarray .int, 2), (396, .putfield 148, 3), (399, .aload_n 0, 1), (400, .sipush 400, 3), (403, .newarray .int, 2), (405, .putfield 151, 3), (408, .aload_n 0, 1), (409, .iconst (-1), 1), (410, .putfield 154, 3), (413, .aload_n 0, 1), (414, .iconst 4, 1), (415, .newarray .int, 2), (417, .putfield 157, 3), (420, .aload_n 0, 1), (421, .bipush 12, 2), (423, .newarray .int, 2), (425, .putfield 160, 3), (428, .aload_n 0, 1), (429, .bipush 12, 2), (431, .newarray .int, 2), (433, .putfield 163, 3), (436, .aload_n 0, 1), (437, .bipush 12, 2), (439, .newarray .int, 2), (441, .putfield 166, 3), (444, .aload_n 0, 1), (445, .bipush 12, 2), (447, .newarray .int, 2), (449, .putfield 169, 3), (452, .aload_n 0, 1), (453, .bipush 12, 2), (455, .newarray .int, 2), (457, .putfield 172, 3), (460, .aload_n 0, 1), (461, .bipush 12, 2), (463, .newarray .int, 2), (465, .putfield 175, 3), (468, .aload_n 0, 1), (469, .bipush 12, 2), (471, .newarray .int, 2), (473, .putfield 178, 3), (476, .aload_n 0, 1), (477, .bipush 12, 2), (479, .newarray .int, 2), (481, .putfield 181, 3), (484, .aload_n 0, 1), (485, .bipush 12, 2), (487, .newarray .int, 2), (489, .putfield 184, 3), (492, .aload_n 0, 1), (493, .bipush 12, 2), (495, .newarray .int, 2), (497, .putfield 187, 3), (500, .aload_n 0, 1), (501, .bipush 12, 2), (503, .newarray .int, 2), (505, .putfield 190, 3), (508, .aload_n 0, 1), (509, .bipush 12, 2), (511, .newarray .int, 2), (513, .putfield 193, 3), (516, .aload_n 0, 1), (517, .sipush 312, 3), (520, .newarray .int, 2), (522, .putfield 196, 3), (525, .aload_n 0, 1), (526, .bipush 14, 2), (528, .newarray .int, 2), (530, .putfield 199, 3), (533, .aload_n 0, 1), (534, .sipush 700, 3), (537, .newarray .int, 2), (539, .putfield 202, 3), (542, .aload_n 0, 1), (543, .bipush 12, 2), (545, .newarray .boolean, 2), (547, .putfield 205, 3), (550, .aload_n 0, 1), (551, .bipush 12, 2), (553, .newarray .int, 2), (555, .putfield 209, 3), (558, .aload_n 0, 1), (559, .bipush 12, 2), (561, .newarray .int, 2), (563, .putfield 212, 3), (566, .aload_n 0, 1), (567, .sipush 140, 3), (570, .newarray .int, 2), (572, .putfield 215, 3), (575, .aload_n 0, 1), (576, .iload_n 1, 1), (577, .ifCond .lt 9, 3), (580, .iload_n 1, 1), (581, .ldc 218, 2), (583, .if_icmp .le 9, 3), (586, .sipush 1000, 3), (589, .goto 4, 3), (592, .iload_n 1, 1), (593, .putfield 219, 3), (596, .aload_n 0, 1), (597, .iload_n 2, 1), (598, .ifCond .lt 10, 3), (601, .iload_n 2, 1), (602, .sipush 500, 3), (605, .if_icmp .le 7, 3), (608, .iconst 0, 1), (609, .goto 4, 3), (612, .iload_n 2, 1), (613, .putfield 222, 3), (616, .return_, 1)]
set_option maxRecDepth 20000 in
theorem D_X12_init : ∀ q ∈ L_X12_init, decode cX12_init q.1 = .ok q.2 := by decide +kernel
def L_X12_isDigit : List (Nat × Instr × Nat) := [(0, .iload_n 0, 1), (1, .bipush 48, 2), (3, .if_icmp .lt 13, 3), (6, .iload_n 0, 1), (7, .bipush 57, 2), (9, .if_icmp .gt 7, 3), (12, .iconst 1, 1), (13, .goto 4, 3), (16, .iconst 0, 1), (17, .ireturn, 1)]
set_option maxRecDepth 20000 in
theorem D_X12_isDigit : ∀ q ∈ L_X12_isDigit, decode cX12_isDigit q.1 = .ok q.2 := by decide +kernel
def L_X12_isLetter : List (Nat × Instr × Nat) := [(0, .iload_n 0, 1), (1, .bipush 97, 2), (3, .if_icmp .lt 13, 3), (6, .iload_n 0, 1), (7, .bipush 122, 2), (9, .if_icmp .gt 7, 3), (12, .iconst 1, 1), (13, .goto 4, 3), (16, .iconst 0, 1), (17, .ireturn, 1)]
set_option maxRecDepth 20000 in
theorem D_X12_isLetter : ∀ q ∈ L_X12_isLetter, decode cX12_isLetter q.1 = .ok q.2 := by decide +kernel
def L_X12_isPart : List (Nat × Instr × Nat) := [(0, .aload_n 0, 1), (1, .getfield 251, 3), (4, .ifCond .ne 74, 3), (7, .aload_n 0, 1), (8, .getfield 24, 3), (11, .aload_n 0, 1), (12, .getfield 248, 3), (15, .iaload, 1), (16, .iconst 2, 1), (17, .if_icmp .eq 57, 3), (20, .aload_n 0, 1), (21, .bipush 40, 2), (23, .invokevirtual 254, 3), (26, .ifCond .ne 48, 3), (29, .aload_n 0, 1), (30, .bipush 18, 2), (32, .invokevirtual 261, 3), (35, .ifCond .ne 39, 3), (38, .aload_n 0, 1), (39, .bipush 19, 2), (41, .invokevirtual 261, 3), (44, .ifCond .ne 30, 3), (47, .aload_n 0, 1), (48, .bipush 9, 2), (50, .invokevirtual 261, 3), (53, .ifCond .ne 21, 3), (56, .aload_n 0, 1), (57, .bipush 10, 2), (59, .invokevirtual 261, 3), (62, .ifCond .ne 12, 3), (65, .aload_n 0, 1), (66, .bipush 20, 2), (68, .invokevirtual 261, 3), (71, .ifCond .eq 7, 3), (74, .iconst 1, 1), (75, .goto 4, 3), (78, .iconst 0, 1), (79, .ireturn, 1)]
set_option maxRecDepth 20000 in
theorem D_X12_isPart : ∀ q ∈ L_X12_isPart, decode cX12_isPart q.1 = .ok q.2 := by decide +kernel
def L_X12_isRule : List (Nat × Instr × Nat) := [(0, .aload_n 0, 1), (1, .iconst 0, 1), (2, .invokevirtual 261, 3), (5, .ifCond .ne 28, 3), (8, .aload_n 0, 1), (9, .iconst 1, 1), (10, .invokevirtual 261, 3), (13, .ifCond .ne 20, 3), (16, .aload_n 0, 1), (17, .iconst 5, 1), (18, .invokevirtual 261, 3), (21, .ifCond .ne 12, 3), (24, .aload_n 0, 1), (25, .bipush 6, 2), (27, .invokevirtual 261, 3), (30, .ifCond .eq 7, 3), (33, .iconst 1, 1), (34, .goto 4, 3), (37, .iconst 0, 1), (38, .ireturn, 1)]
set_option maxRecDepth 20000 in
theorem D_X12_isRule : ∀ q ∈ L_X12_isRule, decode cX12_isRule q.1 = .ok q.2 := by decide +kernel
def L_X12_isSign : List (Nat × Instr × Nat) := [(0, .aload_n 0, 1), (1, .getfield 251, 3), (4, .ifCond .ne 35, 3), (7, .aload_n 0, 1), (8, .getfield 24, 3), (11, .aload_n 0, 1), (12, .getfield 248, 3), (15, .iaload, 1), (16, .iconst 3, 1), (17, .if_icmp .ne 22, 3), (20, .aload_n 0, 1), (21, .getfield 30, 3), (24, .aload_n 0, 1), (25, .getfield 248, 3), (28, .laload, 1), (29, .iload_n 1, 1), (30, .i2l, 1), (31, .lcmp, 1), (32, .ifCond .ne 7, 3), (35, .iconst 1, 1), (36, .goto 4, 3), (39, .iconst 0, 1), (40, .ireturn, 1)]
set_option maxRecDepth 20000 in
theorem D_X12_isSign : ∀ q ∈ L_X12_isSign, decode cX12_isSign q.1 = .ok q.2 := by decide +kernel
def L_X12_isSignOf : List (Nat × Instr × Nat) := [(0, .iload_n 0, 1), (1, .bipush 40, 2), (3, .if_icmp .eq 39, 3), (6, .iload_n 0, 1), (7, .bipush 41, 2), (9, .if_icmp .eq 33, 3), (12, .iload_n 0, 1), (13, .bipush 59, 2), (15, .if_icmp .eq 27, 3), (18, .iload_n 0, 1), (19, .bipush 61, 2), (21, .if_icmp .eq 21, 3), (24, .iload_n 0, 1), (25, .bipush 60, 2), (27, .if_icmp .eq 15, 3), (30, .iload_n 0, 1), (31, .bipush 43, 2), (33, .if_icmp .eq 9, 3), (36, .iload_n 0, 1), (37, .bipush 45, 2), (39, .if_icmp .ne 7, 3), (42, .iconst 1, 1), (43, .goto 4, 3), (46, .iconst 0, 1), (47, .ireturn, 1)]
set_option maxRecDepth 20000 in
theorem D_X12_isSignOf : ∀ q ∈ L_X12_isSignOf, decode cX12_isSignOf q.1 = .ok q.2 := by decide +kernel
def L_X12_isWord : List (Nat × Instr × Nat) := [(0, .aload_n 0, 1), (1, .getfield 251, 3), (4, .ifCond .ne 39, 3), (7, .aload_n 0, 1), (8, .getfield 24, 3), (11, .aload_n 0, 1), (12, .getfield 248, 3), (15, .iaload, 1), (16, .iconst 1, 1), (17, .if_icmp .ne 26, 3), (20, .aload_n 0, 1), (21, .getfield 30, 3), (24, .aload_n 0, 1), (25, .getfield 248, 3), (28, .laload, 1), (29, .aload_n 0, 1), (30, .getfield 82, 3), (33, .iload_n 1, 1), (34, .laload, 1), (35, .lcmp, 1), (36, .ifCond .ne 7, 3), (39, .iconst 1, 1), (40, .goto 4, 3), (43, .iconst 0, 1), (44, .ireturn, 1)]
set_option maxRecDepth 20000 in
theorem D_X12_isWord : ∀ q ∈ L_X12_isWord, decode cX12_isWord q.1 = .ok q.2 := by decide +kernel
def L_X12_keep : List (Nat × Instr × Nat) := [(0, .aload_n 0, 1), (1, .getfield 85, 3), (4, .iload_n 1, 1), (5, .aload_n 0, 1), (6, .getfield 85, 3), (9, .bipush 7, 2), (11, .iaload, 1), (12, .iastore, 1), (13, .aload_n 0, 1), (14, .getfield 88, 3), (17, .iload_n 1, 1), (18, .aload_n 0, 1), (19, .getfield 88, 3), (22, .bipush 7, 2), (24, .iaload, 1), (25, .iastore, 1), (26, .aload_n 0, 1), (27, .getfield 118, 3), (30, .iload_n 1, 1), (31, .aload_n 0, 1), (32, .getfield 118, 3), (35, .bipush 7, 2), (37, .iaload, 1), (38, .iastore, 1), (39, .iconst 0, 1), (40, .istore_n 2, 1), (41, .iload_n 2, 1), (42, .bipush 24, 2), (44, .if_icmp .ge 114, 3), (47, .bipush 24, 2), (49, .iload_n 1, 1), (50, .imul, 1), (51, .iload_n 2, 1), (52, .iadd, 1), (53, .istore_n 3, 1), (54, .sipush 168, 3), (57, .iload_n 2, 1), (58, .iadd, 1), (59, .istore 4, 2), (61, .aload_n 0, 1), (62, .getfield 91, 3), (65, .iload_n 3, 1), (66, .aload_n 0, 1), (67, .getfield 91, 3), (70, .iload 4, 2), (72, .iaload, 1), (73, .iastore, 1), (74, .aload_n 0, 1), (75, .getfield 94, 3), (78, .iload_n 3, 1), (79, .aload_n 0, 1), (80, .getfield 94, 3), (83, .iload 4, 2), (85, .iaload, 1), (86, .iastore, 1), (87, .aload_n 0, 1), (88, .getfield 97, 3), (91, .iload_n 3, 1), (92, .aload_n 0, 1), (93, .getfield 97, 3), (96, .iload 4, 2), (98, .iaload, 1), (99, .iastore, 1), (100, .aload_n 0, 1), (101, .getfield 100, 3), (104, .iload_n 3, 1), (105, .aload_n 0, 1), (106, .getfield 100, 3), (109, .iload 4, 2), (111, .iaload, 1), (112, .iastore, 1), (113, .aload_n 0, 1), (114, .getfield 103, 3), (117, .iload_n 3, 1), (118, .aload_n 0, 1), (119, .getfield 103, 3), (122, .iload 4, 2), (124, .iaload, 1), (125, .iastore, 1), (126, .aload_n 0, 1), (127, .getfield 106, 3), (130, .iload_n 3, 1), (131, .aload_n 0, 1), (132, .getfield 106, 3), (135, .iload 4, 2), (137, .iaload, 1), (138, .iastore, 1), (139, .aload_n 0, 1), (140, .getfield 109, 3), (143, .iload_n 3, 1), (144, .aload_n 0, 1), (145, .getfield 109, 3), (148, .iload 4, 2), (150, .iaload, 1), (151, .iastore, 1), (152, .iinc 2 1, 3), (155, .goto (-114), 3), (158, .iconst 0, 1), (159, .istore_n 2, 1), (160, .iload_n 2, 1), (161, .aload_n 0, 1), (162, .getfield 118, 3), (165, .bipush 7, 2), (167, .iaload, 1), (168, .if_icmp .ge 53, 3), (171, .aload_n 0, 1), (172, .getfield 112, 3), (175, .sipush 1300, 3), (178, .iload_n 1, 1), (179, .imul, 1), (180, .iload_n 2, 1), (181, .iadd, 1), (182, .aload_n 0, 1), (183, .getfield 112, 3), (186, .sipush 9100, 3), (189, .iload_n 2, 1), (190, .iadd, 1), (191, .iaload, 1), (192, .iastore, 1), (193, .aload_n 0, 1), (194, .getfield 115, 3), (197, .sipush 1300, 3), (200, .iload_n 1, 1), (201, .imul, 1), (202, .iload_n 2, 1), (203, .iadd, 1), (204, .aload_n 0, 1), (205, .getfield 115, 3), (208, .sipush 9100, 3), (211, .iload_n 2, 1), (212, .iadd, 1), (213, .iaload, 1), (214, .iastore, 1), (215, .iinc 2 1, 3), (218, .goto (-58), 3), (221, .return_, 1)]
set_option maxRecDepth 20000 in
theorem D_X12_keep : ∀ q ∈ L_X12_keep, decode cX12_keep q.1 = .ok q.2 := by decide +kernel
def L_X12_known : List (Nat × Instr × Nat) := [(0, .aload_n 0, 1), (1, .iconst 0, 1), (2, .putfield 1, 3), (5, .iload_n 1, 1), (6, .iconst (-1), 1), (7, .if_icmp .lt 11, 3), (10, .iload_n 1, 1), (11, .aload_n 0, 1), (12, .getfield 337, 3), (15, .if_icmp .le 5, 3), (18, .iconst 0, 1), (19, .ireturn, 1), (20, .aload_n 0, 1), (21, .iload_n 1, 1), (22, .putfield 154, 3), (25, .iconst 1, 1), (26, .ireturn, 1)]
set_option maxRecDepth 20000 in
theorem D_X12_known : ∀ q ∈ L_X12_known, decode cX12_known q.1 = .ok q.2 := by decide +kernel
def L_X12_lay : List (Nat × Instr × Nat) := [(0, .bipush 56, 2), (2, .istore_n 3, 1), (3, .iload_n 3, 1), (4, .ifCond .lt 71, 3), (7, .lload_n 1, 1), (8, .iload_n 3, 1), (9, .lshr, 1), (10, .l2i, 1), (11, .sipush 255, 3), (14, .iand, 1), (15, .istore 4, 2), (17, .iload 4, 2), (19, .bipush 10, 2), (21, .if_icmp .eq 17, 3), (24, .iload 4, 2), (26, .bipush 32, 2), (28, .if_icmp .lt 41, 3), (31, .iload 4, 2), (33, .bipush 126, 2), (35, .if_icmp .gt 34, 3), (38, .aload_n 0, 1), (39, .getfield 11, 3), (42, .sipush 1200, 3), (45, .if_icmp .ge 24, 3), (48, .aload_n 0, 1), (49, .getfield 14, 3), (52, .aload_n 0, 1), (53, .getfield 11, 3), (56, .iload 4, 2), (58, .iastore, 1), (59, .aload_n 0, 1), (60, .dup, 1), (61, .getfield 11, 3), (64, .iconst 1, 1), (65, .iadd, 1), (66, .putfield 11, 3), (69, .iinc 3 (-8), 3), (72, .goto (-69), 3), (75, .return_, 1)]
set_option maxRecDepth 20000 in
theorem D_X12_lay : ∀ q ∈ L_X12_lay, decode cX12_lay q.1 = .ok q.2 := by decide +kernel
def L_X12_least : List (Nat × Instr × Nat) := [(0, .iload_n 0, 1), (1, .iload_n 1, 1), (2, .if_icmp .ge 7, 3), (5, .iload_n 0, 1), (6, .goto 4, 3), (9, .iload_n 1, 1), (10, .ireturn, 1)]
set_option maxRecDepth 20000 in
theorem D_X12_least : ∀ q ∈ L_X12_least, decode cX12_least q.1 = .ok q.2 := by decide +kernel
def L_X12_lookDay : List (Nat × Instr × Nat) := [(0, .aload_n 0, 1), (1, .getfield 154, 3), (4, .ifCond .ge 10, 3), (7, .aload_n 0, 1), (8, .getfield 337, 3), (11, .goto 7, 3), (14, .aload_n 0, 1), (15, .getfield 154, 3), (18, .ireturn, 1)]
set_option maxRecDepth 20000 in
theorem D_X12_lookDay : ∀ q ∈ L_X12_lookDay, decode cX12_lookDay q.1 = .ok q.2 := by decide +kernel
def L_X12_nextOf : List (Nat × Instr × Nat) := [(0, .iconst (-1), 1), (1, .istore_n 1, 1), (2, .aload_n 0, 1), (3, .getfield 88, 3), (6, .aload_n 0, 1), (7, .getfield 360, 3), (10, .iaload, 1), (11, .iconst 2, 1), (12, .if_icmp .ne 15, 3), (15, .aload_n 0, 1), (16, .getfield 353, 3), (19, .aload_n 0, 1), (20, .getfield 300, 3), (23, .irem, 1), (24, .goto 4, 3), (27, .iconst 0, 1), (28, .istore_n 2, 1), (29, .iconst 0, 1), (30, .istore_n 3, 1), (31, .iload_n 3, 1), (32, .aload_n 0, 1), (33, .getfield 300, 3), (36, .if_icmp .ge 77, 3), (39, .iload_n 2, 1), (40, .iload_n 3, 1), (41, .iadd, 1), (42, .aload_n 0, 1), (43, .getfield 300, 3), (46, .irem, 1), (47, .istore 4, 2), (49, .aload_n 0, 1), (50, .getfield 205, 3), (53, .iload 4, 2), (55, .baload, 1), (56, .ifCond .eq 51, 3), (59, .aload_n 0, 1), (60, .iload 4, 2), (62, .invokevirtual 404, 3), (65, .ifCond .ne 6, 3), (68, .goto 39, 3), (71, .iload_n 1, 1), (72, .ifCond .lt 32, 3), (75, .aload_n 0, 1), (76, .getfield 88, 3), (79, .aload_n 0, 1), (80, .getfield 360, 3), (83, .iaload, 1), (84, .iconst 1, 1), (85, .if_icmp .ne 22, 3), (88, .aload_n 0, 1), (89, .getfield 172, 3), (92, .iload 4, 2), (94, .iaload, 1), (95, .aload_n 0, 1), (96, .getfield 172, 3), (99, .iload_n 1, 1), (100, .iaload, 1), (101, .if_icmp .le 6, 3), (104, .iload 4, 2), (106, .istore_n 1, 1), (107, .iinc 3 1, 3), (110, .goto (-79), 3), (113, .iload_n 1, 1), (114, .ireturn, 1)]
set_option maxRecDepth 20000 in
theorem D_X12_nextOf : ∀ q ∈ L_X12_nextOf, decode cX12_nextOf q.1 = .ok q.2 := by decide +kernel
def L_X12_oneByOne : List (Nat × Instr × Nat) := [(0, .iload_n 3, 1), (1, .istore 4, 2), (3, .iload 4, 2), (5, .ifCond .le 38, 3), (8, .aload_n 0, 1), (9, .invokevirtual 421, 3), (12, .istore 5, 2), (14, .iload 5, 2), (16, .ifCond .ge 4, 3), (19, .return_, 1), (20, .aload_n 0, 1), (21, .getfield 205, 3), (24, .iload 5, 2), (26, .iconst 0, 1), (27, .bastore, 1), (28, .aload_n 0, 1), (29, .iload_n 1, 1), (30, .iload_n 2, 1), (31, .iload 5, 2), (33, .iconst 1, 1), (34, .invokevirtual 413, 3), (37, .iinc 4 (-1), 3), (40, .goto (-37), 3), (43, .return_, 1)]
set_option maxRecDepth 20000 in
theorem D_X12_oneByOne : ∀ q ∈ L_X12_oneByOne, decode cX12_oneByOne q.1 = .ok q.2 := by decide +kernel
def L_X12_oneOf : List (Nat × Instr × Nat) := [(0, .iconst 0, 1), (1, .istore_n 3, 1), (2, .iload_n 3, 1), (3, .iload_n 2, 1), (4, .if_icmp .ge 21, 3), (7, .aload_n 0, 1), (8, .iload_n 1, 1), (9, .iload_n 3, 1), (10, .iadd, 1), (11, .invokevirtual 264, 3), (14, .ifCond .eq 5, 3), (17, .iload_n 3, 1), (18, .ireturn, 1), (19, .iinc 3 1, 3), (22, .goto (-20), 3), (25, .aload_n 0, 1), (26, .iconst 1, 1), (27, .invokevirtual 257, 3), (30, .iconst 0, 1), (31, .ireturn, 1)]
set_option maxRecDepth 20000 in
theorem D_X12_oneOf : ∀ q ∈ L_X12_oneOf, decode cX12_oneOf q.1 = .ok q.2 := by decide +kernel
def L_X12_opens : List (Nat × Instr × Nat) := [(0, .aload_n 0, 1), (1, .getfield 127, 3), (4, .aload_n 0, 1), (5, .getfield 303, 3), (8, .iconst 0, 1), (9, .iastore, 1), (10, .aload_n 0, 1), (11, .getfield 130, 3), (14, .aload_n 0, 1), (15, .getfield 303, 3), (18, .iconst 0, 1), (19, .iastore, 1), (20, .return_, 1)]
set_option maxRecDepth 20000 in
theorem D_X12_opens : ∀ q ∈ L_X12_opens, decode cX12_opens q.1 = .ok q.2 := by decide +kernel
def L_X12_other : List (Nat × Instr × Nat) := [(0, .aload_n 0, 1), (1, .iconst 0, 1), (2, .putfield 1, 3), (5, .aload_n 0, 1), (6, .invokevirtual 331, 3), (9, .aload_n 0, 1), (10, .getfield 251, 3), (13, .ifCond .ne 14, 3), (16, .aload_n 0, 1), (17, .bipush 6, 2), (19, .invokevirtual 334, 3), (22, .aload_n 0, 1), (23, .iconst 1, 1), (24, .putfield 340, 3), (27, .aload_n 0, 1), (28, .getfield 251, 3), (31, .ireturn, 1)]
set_option maxRecDepth 20000 in
theorem D_X12_other : ∀ q ∈ L_X12_other, decode cX12_other q.1 = .ok q.2 := by decide +kernel
def L_X12_part : List (Nat × Instr × Nat) := [(0, .aload_n 0, 1), (1, .invokevirtual 322, 3), (4, .ifCond .ne 11, 3), (7, .aload_n 0, 1), (8, .iconst 1, 1), (9, .invokevirtual 257, 3), (12, .goto 17, 3), (15, .aload_n 0, 1), (16, .getfield 303, 3), (19, .bipush 6, 2), (21, .if_icmp .ne 8, 3), (24, .aload_n 0, 1), (25, .iconst 5, 1), (26, .invokevirtual 257, 3), (29, .aload_n 0, 1), (30, .getfield 251, 3), (33, .ifCond .le 5, 3), (36, .iconst 0, 1), (37, .ireturn, 1), (38, .aload_n 0, 1), (39, .getfield 24, 3), (42, .aload_n 0, 1), (43, .getfield 248, 3), (46, .iaload, 1), (47, .iconst 2, 1), (48, .if_icmp .ne 31, 3), (51, .aload_n 0, 1), (52, .iconst 1, 1), (53, .aload_n 0, 1), (54, .getfield 30, 3), (57, .aload_n 0, 1), (58, .getfield 248, 3), (61, .laload, 1), (62, .l2i, 1), (63, .invokevirtual 309, 3), (66, .aload_n 0, 1), (67, .dup, 1), (68, .getfield 248, 3), (71, .iconst 1, 1), (72, .iadd, 1), (73, .putfield 248, 3), (76, .goto 99, 3), (79, .aload_n 0, 1), (80, .bipush 40, 2), (82, .invokevirtual 325, 3), (85, .ifCond .eq 19, 3), (88, .aload_n 0, 1), (89, .dup, 1), (90, .getfield 303, 3), (93, .iconst 1, 1), (94, .iadd, 1), (95, .putfield 303, 3), (98, .aload_n 0, 1), (99, .invokevirtual 313, 3), (102, .iconst 1, 1), (103, .ireturn, 1), (104, .aload_n 0, 1), (105, .bipush 18, 2), (107, .invokevirtual 264, 3), (110, .ifCond .eq 7, 3), (113, .iconst 0, 1), (114, .goto 43, 3), (117, .aload_n 0, 1), (118, .bipush 19, 2), (120, .invokevirtual 264, 3), (123, .ifCond .eq 7, 3), (126, .iconst 1, 1), (127, .goto 30, 3), (130, .aload_n 0, 1), (131, .bipush 9, 2), (133, .invokevirtual 264, 3), (136, .ifCond .eq 7, 3), (139, .iconst 2, 1), (140, .goto 17, 3), (143, .aload_n 0, 1), (144, .bipush 10, 2), (146, .invokevirtual 264, 3), (149, .ifCond .eq 7, 3), (152, .iconst 3, 1), (153, .goto 4, 3), (156, .iconst 4, 1), (157, .istore_n 1, 1), (158, .iload_n 1, 1), (159, .iconst 4, 1), (160, .if_icmp .ne 9, 3), (163, .aload_n 0, 1), (164, .bipush 20, 2), (166, .invokevirtual 273, 3), (169, .aload_n 0, 1), (170, .iconst 2, 1), (171, .iload_n 1, 1), (172, .invokevirtual 309, 3), (175, .iconst 0, 1), (176, .ireturn, 1)]
set_option maxRecDepth 20000 in
theorem D_X12_part : ∀ q ∈ L_X12_part, decode cX12_part q.1 = .ok q.2 := by decide +kernel
def L_X12_partOf : List (Nat × Instr × Nat) := [(0, .iload_n 1, 1), (1, .iconst 4, 1), (2, .if_icmp .ge 49, 3), (5, .iload_n 1, 1), (6, .ifCond .ne 13, 3), (9, .aload_n 0, 1), (10, .getfield 353, 3), (13, .bipush 24, 2), (15, .irem, 1), (16, .goto 34, 3), (19, .iload_n 1, 1), (20, .iconst 1, 1), (21, .if_icmp .ne 13, 3), (24, .aload_n 0, 1), (25, .getfield 353, 3), (28, .bipush 24, 2), (30, .idiv, 1), (31, .goto 19, 3), (34, .iload_n 1, 1), (35, .iconst 2, 1), (36, .if_icmp .ne 10, 3), (39, .aload_n 0, 1), (40, .getfield 369, 3), (43, .goto 7, 3), (46, .aload_n 0, 1), (47, .getfield 350, 3), (50, .ireturn, 1), (51, .iconst 0, 1), (52, .istore_n 2, 1), (53, .iconst 0, 1), (54, .istore_n 3, 1), (55, .iload_n 3, 1), (56, .aload_n 0, 1), (57, .getfield 300, 3), (60, .if_icmp .ge 18, 3), (63, .iload_n 2, 1), (64, .aload_n 0, 1), (65, .getfield 172, 3), (68, .iload_n 3, 1), (69, .iaload, 1), (70, .iadd, 1), (71, .istore_n 2, 1), (72, .iinc 3 1, 3), (75, .goto (-20), 3), (78, .iload_n 2, 1), (79, .ireturn, 1)]
set_option maxRecDepth 20000 in
theorem D_X12_partOf : ∀ q ∈ L_X12_partOf, decode cX12_partOf q.1 = .ok q.2 := by decide +kernel
def L_X12_quarter : List (Nat × Instr × Nat) := [(0, .aload_n 0, 1), (1, .iload_n 1, 1), (2, .ifCond .lt 24, 3), (5, .iload_n 1, 1), (6, .sipush 239, 3), (9, .if_icmp .gt 17, 3), (12, .iload_n 2, 1), (13, .ifCond .lt 13, 3), (16, .iload_n 2, 1), (17, .bipush 13, 2), (19, .if_icmp .gt 7, 3), (22, .iconst 0, 1), (23, .goto 4, 3), (26, .iconst 1, 1), (27, .putfield 1, 3), (30, .aload_n 0, 1), (31, .getfield 1, 3), (34, .ifCond .le 5, 3), (37, .iconst 0, 1), (38, .ireturn, 1), (39, .aload_n 0, 1), (40, .iload_n 1, 1), (41, .aload_n 0, 1), (42, .invokevirtual 424, 3), (45, .iconst 0, 1), (46, .invokevirtual 427, 3), (49, .iconst 0, 1), (50, .istore_n 3, 1), (51, .iconst 0, 1), (52, .istore 4, 2), (54, .iconst 0, 1), (55, .istore 5, 2), (57, .iload 5, 2), (59, .aload_n 0, 1), (60, .getfield 300, 3), (63, .if_icmp .ge 31, 3), (66, .iload_n 3, 1), (67, .aload_n 0, 1), (68, .getfield 181, 3), (71, .iload 5, 2), (73, .iaload, 1), (74, .iadd, 1), (75, .istore_n 3, 1), (76, .iload 4, 2), (78, .aload_n 0, 1), (79, .getfield 172, 3), (82, .iload 5, 2), (84, .iaload, 1), (85, .iadd, 1), (86, .istore 4, 2), (88, .iinc 5 1, 3), (91, .goto (-34), 3), (94, .iload_n 2, 1), (95, .tableswitch 98 0 9 #[53, 58, 60, 65, 70, 75, 80, 85, 88, 93], 53), (148, .aload_n 0, 1), (149, .getfield 375, 3), (152, .ireturn, 1), (153, .iload_n 3, 1), (154, .ireturn, 1), (155, .aload_n 0, 1), (156, .getfield 372, 3), (159, .ireturn, 1), (160, .aload_n 0, 1), (161, .getfield 381, 3), (164, .ireturn, 1), (165, .aload_n 0, 1), (166, .getfield 350, 3), (169, .ireturn, 1), (170, .aload_n 0, 1), (171, .getfield 392, 3), (174, .ireturn, 1), (175, .aload_n 0, 1), (176, .getfield 378, 3), (179, .ireturn, 1), (180, .iload 4, 2), (182, .ireturn, 1), (183, .aload_n 0, 1), (184, .getfield 384, 3), (187, .ireturn, 1), (188, .aload_n 0, 1), (189, .getfield 387, 3), (192, .ireturn, 1), (193, .aload_n 0, 1), (194, .getfield 157, 3), (197, .iload_n 2, 1), (198, .bipush 10, 2), (200, .isub, 1), (201, .iaload, 1), (202, .ireturn, 1)]
set_option maxRecDepth 20000 in
theorem D_X12_quarter : ∀ q ∈ L_X12_quarter, decode cX12_quarter q.1 = .ok q.2 := by decide +kernel
def L_X12_quarterBegins : List (Nat × Instr × Nat) := [(0, .aload_n 0, 1), (1, .iload_n 1, 1), (2, .ifCond .eq 8, 3), (5, .bipush 6, 2), (7, .goto 4, 3), (10, .iconst (-1), 1), (11, .putfield 360, 3), (14, .iconst 0, 1), (15, .istore_n 2, 1), (16, .iload_n 2, 1), (17, .aload_n 0, 1), (18, .getfield 328, 3), (21, .if_icmp .ge 51, 3), (24, .iload_n 1, 1), (25, .ifCond .ne 47, 3), (28, .aload_n 0, 1), (29, .aload_n 0, 1), (30, .getfield 121, 3), (33, .iload_n 2, 1), (34, .iaload, 1), (35, .aload_n 0, 1), (36, .getfield 353, 3), (39, .if_icmp .gt 20, 3), (42, .aload_n 0, 1), (43, .getfield 124, 3), (46, .iload_n 2, 1), (47, .iaload, 1), (48, .aload_n 0, 1), (49, .getfield 347, 3), (52, .if_icmp .gt 7, 3), (55, .iload_n 2, 1), (56, .goto 7, 3), (59, .aload_n 0, 1), (60, .getfield 360, 3), (63, .putfield 360, 3), (66, .iinc 2 1, 3), (69, .goto (-53), 3), (72, .iconst 0, 1), (73, .istore_n 2, 1), (74, .iload_n 2, 1), (75, .aload_n 0, 1), (76, .getfield 300, 3), (79, .if_icmp .ge 42, 3), (82, .aload_n 0, 1), (83, .getfield 166, 3), (86, .iload_n 2, 1), (87, .iconst 1, 1), (88, .iastore, 1), (89, .aload_n 0, 1), (90, .getfield 190, 3), (93, .iload_n 2, 1), (94, .aload_n 0, 1), (95, .getfield 353, 3), (98, .bipush 24, 2), (100, .irem, 1), (101, .ifCond .ne 7, 3), (104, .iconst 0, 1), (105, .goto 9, 3), (108, .aload_n 0, 1), (109, .getfield 190, 3), (112, .iload_n 2, 1), (113, .iaload, 1), (114, .iastore, 1), (115, .iinc 2 1, 3), (118, .goto (-44), 3), (121, .iconst 0, 1), (122, .istore_n 2, 1), (123, .iload_n 2, 1), (124, .aload_n 0, 1), (125, .getfield 344, 3), (128, .if_icmp .ge 81, 3), (131, .aload_n 0, 1), (132, .getfield 142, 3), (135, .iload_n 2, 1), (136, .iaload, 1), (137, .aload_n 0, 1), (138, .getfield 353, 3), (141, .if_icmp .ne 62, 3), (144, .aload_n 0, 1), (145, .getfield 151, 3), (148, .iload_n 2, 1), (149, .iaload, 1), (150, .aload_n 0, 1), (151, .getfield 347, 3), (154, .if_icmp .gt 49, 3), (157, .aload_n 0, 1), (158, .getfield 160, 3), (161, .aload_n 0, 1), (162, .getfield 139, 3), (165, .iload_n 2, 1), (166, .iaload, 1), (167, .aload_n 0, 1), (168, .getfield 145, 3), (171, .iload_n 2, 1), (172, .iaload, 1), (173, .iastore, 1), (174, .aload_n 0, 1), (175, .getfield 163, 3), (178, .aload_n 0, 1), (179, .getfield 139, 3), (182, .iload_n 2, 1), (183, .iaload, 1), (184, .aload_n 0, 1), (185, .getfield 148, 3), (188, .iload_n 2, 1), (189, .iaload, 1), (190, .iastore, 1), (191, .aload_n 0, 1), (192, .getfield 166, 3), (195, .aload_n 0, 1), (196, .getfield 139, 3), (199, .iload_n 2, 1), (200, .iaload, 1), (201, .iconst 0, 1), (202, .iastore, 1), (203, .iinc 2 1, 3), (206, .goto (-83), 3), (209, .aload_n 0, 1), (210, .iconst 0, 1), (211, .putfield 369, 3), (214, .aload_n 0, 1), (215, .iconst 0, 1), (216, .putfield 372, 3), (219, .iconst 0, 1), (220, .istore_n 2, 1), (221, .iload_n 2, 1), (222, .aload_n 0, 1), (223, .getfield 300, 3), (226, .if_icmp .ge 124, 3), (229, .aload_n 0, 1), (230, .getfield 169, 3), (233, .iload_n 2, 1), (234, .aload_n 0, 1), (235, .getfield 160, 3), (238, .iload_n 2, 1), (239, .iaload, 1), (240, .aload_n 0, 1), (241, .getfield 163, 3), (244, .iload_n 2, 1), (245, .iaload, 1), (246, .if_icmp .ge 12, 3), (249, .aload_n 0, 1), (250, .getfield 160, 3), (253, .iload_n 2, 1), (254, .iaload, 1), (255, .goto 9, 3), (258, .aload_n 0, 1), (259, .getfield 163, 3), (262, .iload_n 2, 1), (263, .iaload, 1), (264, .iastore, 1), (265, .aload_n 0, 1), (266, .getfield 172, 3), (269, .iload_n 2, 1), (270, .aload_n 0, 1), (271, .getfield 160, 3), (274, .iload_n 2, 1), (275, .iaload, 1), (276, .aload_n 0, 1), (277, .getfield 169, 3), (280, .iload_n 2, 1), (281, .iaload, 1), (282, .isub, 1), (283, .iastore, 1), (284, .aload_n 0, 1), (285, .getfield 178, 3), (288, .iload_n 2, 1), (289, .aload_n 0, 1), (290, .getfield 163, 3), (293, .iload_n 2, 1), (294, .iaload, 1), (295, .aload_n 0, 1), (296, .getfield 169, 3), (299, .iload_n 2, 1), (300, .iaload, 1), (301, .isub, 1), (302, .iastore, 1), (303, .aload_n 0, 1), (304, .getfield 175, 3), (307, .iload_n 2, 1), (308, .aload_n 0, 1), (309, .getfield 136, 3), (312, .iload_n 2, 1), (313, .iaload, 1), (314, .iastore, 1), (315, .aload_n 0, 1), (316, .getfield 181, 3), (319, .iload_n 2, 1), (320, .iconst 0, 1), (321, .iastore, 1), (322, .aload_n 0, 1), (323, .getfield 184, 3), (326, .iload_n 2, 1), (327, .iconst 0, 1), (328, .iastore, 1), (329, .aload_n 0, 1), (330, .dup, 1), (331, .getfield 369, 3), (334, .aload_n 0, 1), (335, .getfield 178, 3), (338, .iload_n 2, 1), (339, .iaload, 1), (340, .iadd, 1), (341, .putfield 369, 3), (344, .iinc 2 1, 3), (347, .goto (-126), 3), (350, .aload_n 0, 1), (351, .aload_n 0, 1), (352, .getfield 369, 3), (355, .putfield 375, 3), (358, .iconst 0, 1), (359, .istore_n 2, 1), (360, .iload_n 2, 1), (361, .sipush 312, 3), (364, .if_icmp .ge 16, 3), (367, .aload_n 0, 1), (368, .getfield 196, 3), (371, .iload_n 2, 1), (372, .iconst 0, 1), (373, .iastore, 1), (374, .iinc 2 1, 3), (377, .goto (-17), 3), (380, .return_, 1)]
set_option maxRecDepth 20000 in
theorem D_X12_quarterBegins : ∀ q ∈ L_X12_quarterBegins, decode cX12_quarterBegins q.1 = .ok q.2 := by decide +kernel
def L_X12_quarterEnds : List (Nat × Instr × Nat) := [(0, .aload_n 0, 1), (1, .iconst 0, 1), (2, .putfield 378, 3), (5, .iconst 0, 1), (6, .istore_n 1, 1), (7, .iconst 0, 1), (8, .istore_n 2, 1), (9, .iload_n 2, 1), (10, .aload_n 0, 1), (11, .getfield 300, 3), (14, .if_icmp .ge 160, 3), (17, .aload_n 0, 1), (18, .getfield 187, 3), (21, .iload_n 2, 1), (22, .aload_n 0, 1), (23, .getfield 172, 3), (26, .iload_n 2, 1), (27, .iaload, 1), (28, .aload_n 0, 1), (29, .getfield 175, 3), (32, .iload_n 2, 1), (33, .iaload, 1), (34, .if_icmp .ge 12, 3), (37, .aload_n 0, 1), (38, .getfield 172, 3), (41, .iload_n 2, 1), (42, .iaload, 1), (43, .goto 9, 3), (46, .aload_n 0, 1), (47, .getfield 175, 3), (50, .iload_n 2, 1), (51, .iaload, 1), (52, .iastore, 1), (53, .aload_n 0, 1), (54, .getfield 172, 3), (57, .iload_n 2, 1), (58, .dup2, 1), (59, .iaload, 1), (60, .aload_n 0, 1), (61, .getfield 187, 3), (64, .iload_n 2, 1), (65, .iaload, 1), (66, .isub, 1), (67, .iastore, 1), (68, .aload_n 0, 1), (69, .dup, 1), (70, .getfield 378, 3), (73, .aload_n 0, 1), (74, .getfield 187, 3), (77, .iload_n 2, 1), (78, .iaload, 1), (79, .iadd, 1), (80, .putfield 378, 3), (83, .aload_n 0, 1), (84, .getfield 193, 3), (87, .iload_n 2, 1), (88, .aload_n 0, 1), (89, .getfield 181, 3), (92, .iload_n 2, 1), (93, .iaload, 1), (94, .aload_n 0, 1), (95, .getfield 157, 3), (98, .iconst 0, 1), (99, .iaload, 1), (100, .imul, 1), (101, .aload_n 0, 1), (102, .getfield 184, 3), (105, .iload_n 2, 1), (106, .iaload, 1), (107, .aload_n 0, 1), (108, .getfield 157, 3), (111, .iconst 1, 1), (112, .iaload, 1), (113, .imul, 1), (114, .iadd, 1), (115, .aload_n 0, 1), (116, .getfield 187, 3), (119, .iload_n 2, 1), (120, .iaload, 1), (121, .aload_n 0, 1), (122, .getfield 157, 3), (125, .iconst 2, 1), (126, .iaload, 1), (127, .imul, 1), (128, .iadd, 1), (129, .aload_n 0, 1), (130, .getfield 178, 3), (133, .iload_n 2, 1), (134, .iaload, 1), (135, .aload_n 0, 1), (136, .getfield 157, 3), (139, .iconst 0, 1), (140, .iaload, 1), (141, .imul, 1), (142, .isub, 1), (143, .iastore, 1), (144, .iload_n 1, 1), (145, .aload_n 0, 1), (146, .getfield 193, 3), (149, .iload_n 2, 1), (150, .iaload, 1), (151, .iadd, 1), (152, .istore_n 1, 1), (153, .aload_n 0, 1), (154, .getfield 199, 3), (157, .iload_n 2, 1), (158, .dup2, 1), (159, .iaload, 1), (160, .aload_n 0, 1), (161, .getfield 193, 3), (164, .iload_n 2, 1), (165, .iaload, 1), (166, .iadd, 1), (167, .iastore, 1), (168, .iinc 2 1, 3), (171, .goto (-162), 3), (174, .aload_n 0, 1), (175, .aload_n 0, 1), (176, .getfield 369, 3), (179, .putfield 381, 3), (182, .aload_n 0, 1), (183, .aload_n 0, 1), (184, .getfield 381, 3), (187, .aload_n 0, 1), (188, .getfield 157, 3), (191, .iconst 3, 1), (192, .iaload, 1), (193, .imul, 1), (194, .aload_n 0, 1), (195, .getfield 378, 3), (198, .aload_n 0, 1), (199, .getfield 157, 3), (202, .iconst 2, 1), (203, .iaload, 1), (204, .imul, 1), (205, .isub, 1), (206, .putfield 384, 3), (209, .aload_n 0, 1), (210, .iload_n 1, 1), (211, .aload_n 0, 1), (212, .getfield 384, 3), (215, .iadd, 1), (216, .ineg, 1), (217, .putfield 387, 3), (220, .aload_n 0, 1), (221, .getfield 199, 3), (224, .bipush 12, 2), (226, .dup2, 1), (227, .iaload, 1), (228, .aload_n 0, 1), (229, .getfield 384, 3), (232, .iadd, 1), (233, .iastore, 1), (234, .aload_n 0, 1), (235, .getfield 199, 3), (238, .bipush 13, 2), (240, .dup2, 1), (241, .iaload, 1), (242, .aload_n 0, 1), (243, .getfield 387, 3), (246, .iadd, 1), (247, .iastore, 1), (248, .aload_n 0, 1), (249, .aload_n 0, 1), (250, .getfield 350, 3), (253, .i2l, 1), (254, .aload_n 0, 1), (255, .getfield 222, 3), (258, .i2l, 1), (259, .lmul, 1), (260, .ldc2_w 390, 3), (263, .ldiv, 1), (264, .l2i, 1), (265, .putfield 392, 3), (268, .aload_n 0, 1), (269, .dup, 1), (270, .getfield 350, 3), (273, .aload_n 0, 1), (274, .getfield 392, 3), (277, .isub, 1), (278, .putfield 350, 3), (281, .return_, 1)]
set_option maxRecDepth 20000 in
theorem D_X12_quarterEnds : ∀ q ∈ L_X12_quarterEnds, decode cX12_quarterEnds q.1 = .ok q.2 := by decide +kernel
def L_X12_rank : List (Nat × Instr × Nat) := [(0, .iload_n 0, 1), (1, .invokestatic 225, 3), (4, .ifCond .eq 10, 3), (7, .iload_n 0, 1), (8, .bipush 96, 2), (10, .isub, 1), (11, .goto 7, 3), (14, .iload_n 0, 1), (15, .bipush 21, 2), (17, .isub, 1), (18, .ireturn, 1)]
set_option maxRecDepth 20000 in
theorem D_X12_rank : ∀ q ∈ L_X12_rank, decode cX12_rank q.1 = .ok q.2 := by decide +kernel
def L_X12_read : List (Nat × Instr × Nat) := [(0, .aload_n 0, 1), (1, .iconst 0, 1), (2, .putfield 1, 3), (5, .iload_n 1, 1), (6, .ifCond .lt 56, 3), (9, .iload_n 1, 1), (10, .aload_n 0, 1), (11, .getfield 300, 3), (14, .if_icmp .ge 48, 3), (17, .iload_n 2, 1), (18, .ifCond .lt 44, 3), (21, .iload_n 2, 1), (22, .sipush 239, 3), (25, .if_icmp .gt 37, 3), (28, .iload_n 3, 1), (29, .ifCond .lt 33, 3), (32, .iload_n 3, 1), (33, .sipush 5000, 3), (36, .if_icmp .gt 26, 3), (39, .iload 4, 2), (41, .ifCond .lt 21, 3), (44, .iload 4, 2), (46, .sipush 5000, 3), (49, .if_icmp .gt 13, 3), (52, .aload_n 0, 1), (53, .getfield 344, 3), (56, .sipush 400, 3), (59, .if_icmp .ne 5, 3), (62, .iconst 0, 1), (63, .ireturn, 1), (64, .aload_n 0, 1), (65, .getfield 139, 3), (68, .aload_n 0, 1), (69, .getfield 344, 3), (72, .iload_n 1, 1), (73, .iastore, 1), (74, .aload_n 0, 1), (75, .getfield 142, 3), (78, .aload_n 0, 1), (79, .getfield 344, 3), (82, .iload_n 2, 1), (83, .iastore, 1), (84, .aload_n 0, 1), (85, .getfield 145, 3), (88, .aload_n 0, 1), (89, .getfield 344, 3), (92, .iload_n 3, 1), (93, .iastore, 1), (94, .aload_n 0, 1), (95, .getfield 148, 3), (98, .aload_n 0, 1), (99, .getfield 344, 3), (102, .iload 4, 2), (104, .iastore, 1), (105, .aload_n 0, 1), (106, .getfield 151, 3), (109, .aload_n 0, 1), (110, .getfield 344, 3), (113, .aload_n 0, 1), (114, .getfield 337, 3), (117, .iastore, 1), (118, .aload_n 0, 1), (119, .dup, 1), (120, .getfield 344, 3), (123, .iconst 1, 1), (124, .iadd, 1), (125, .putfield 344, 3), (128, .iconst 1, 1), (129, .ireturn, 1)]
set_option maxRecDepth 20000 in
theorem D_X12_read : ∀ q ∈ L_X12_read, decode cX12_read q.1 = .ok q.2 := by decide +kernel
def L_X12_readAmount : List (Nat × Instr × Nat) := [(0, .aload_n 0, 1), (1, .getfield 97, 3), (4, .iload_n 1, 1), (5, .aload_n 0, 1), (6, .bipush 8, 2), (8, .invokevirtual 264, 3), (11, .ifCond .eq 7, 3), (14, .iconst (-1), 1), (15, .goto 7, 3), (18, .aload_n 0, 1), (19, .invokevirtual 287, 3), (22, .iastore, 1), (23, .return_, 1)]
set_option maxRecDepth 20000 in
theorem D_X12_readAmount : ∀ q ∈ L_X12_readAmount, decode cX12_readAmount q.1 = .ok q.2 := by decide +kernel
def L_X12_readRule : List (Nat × Instr × Nat) := [(0, .aload_n 0, 1), (1, .invokevirtual 283, 3), (4, .ifCond .ne 11, 3), (7, .aload_n 0, 1), (8, .iconst 1, 1), (9, .invokevirtual 257, 3), (12, .goto 20, 3), (15, .aload_n 0, 1), (16, .getfield 85, 3), (19, .bipush 7, 2), (21, .iaload, 1), (22, .bipush 24, 2), (24, .if_icmp .ne 8, 3), (27, .aload_n 0, 1), (28, .iconst 5, 1), (29, .invokevirtual 257, 3), (32, .aload_n 0, 1), (33, .getfield 251, 3), (36, .ifCond .le 4, 3), (39, .return_, 1), (40, .sipush 168, 3), (43, .aload_n 0, 1), (44, .getfield 85, 3), (47, .bipush 7, 2), (49, .iaload, 1), (50, .iadd, 1), (51, .istore_n 1, 1), (52, .aload_n 0, 1), (53, .getfield 91, 3), (56, .iload_n 1, 1), (57, .aload_n 0, 1), (58, .iconst 0, 1), (59, .invokevirtual 264, 3), (62, .ifCond .eq 10, 3), (65, .aload_n 0, 1), (66, .invokevirtual 287, 3), (69, .goto 4, 3), (72, .iconst (-1), 1), (73, .iastore, 1), (74, .aload_n 0, 1), (75, .iconst 1, 1), (76, .invokevirtual 264, 3), (79, .ifCond .eq 64, 3), (82, .aload_n 0, 1), (83, .getfield 94, 3), (86, .iload_n 1, 1), (87, .iconst 1, 1), (88, .iastore, 1), (89, .aload_n 0, 1), (90, .iload_n 1, 1), (91, .invokevirtual 291, 3), (94, .aload_n 0, 1), (95, .iconst 2, 1), (96, .invokevirtual 273, 3), (99, .aload_n 0, 1), (100, .getfield 100, 3), (103, .iload_n 1, 1), (104, .aload_n 0, 1), (105, .bipush 9, 2), (107, .iconst 2, 1), (108, .invokevirtual 276, 3), (111, .iastore, 1), (112, .aload_n 0, 1), (113, .iconst 3, 1), (114, .invokevirtual 273, 3), (117, .aload_n 0, 1), (118, .iload_n 1, 1), (119, .invokevirtual 294, 3), (122, .aload_n 0, 1), (123, .iconst 4, 1), (124, .invokevirtual 273, 3), (127, .aload_n 0, 1), (128, .getfield 109, 3), (131, .iload_n 1, 1), (132, .aload_n 0, 1), (133, .bipush 13, 2), (135, .iconst 3, 1), (136, .invokevirtual 276, 3), (139, .iastore, 1), (140, .goto 96, 3), (143, .aload_n 0, 1), (144, .iconst 5, 1), (145, .invokevirtual 264, 3), (148, .ifCond .eq 18, 3), (151, .aload_n 0, 1), (152, .getfield 94, 3), (155, .iload_n 1, 1), (156, .iconst 5, 1), (157, .iastore, 1), (158, .aload_n 0, 1), (159, .iload_n 1, 1), (160, .invokevirtual 291, 3), (163, .goto 73, 3), (166, .aload_n 0, 1), (167, .bipush 6, 2), (169, .invokevirtual 273, 3), (172, .aload_n 0, 1), (173, .getfield 94, 3), (176, .iload_n 1, 1), (177, .bipush 6, 2), (179, .iastore, 1), (180, .aload_n 0, 1), (181, .getfield 100, 3), (184, .iload_n 1, 1), (185, .aload_n 0, 1), (186, .bipush 9, 2), (188, .invokevirtual 261, 3), (191, .ifCond .ne 12, 3), (194, .aload_n 0, 1), (195, .bipush 10, 2), (197, .invokevirtual 261, 3), (200, .ifCond .eq 13, 3), (203, .aload_n 0, 1), (204, .bipush 9, 2), (206, .iconst 2, 1), (207, .invokevirtual 276, 3), (210, .goto 12, 3), (213, .iconst 2, 1), (214, .aload_n 0, 1), (215, .bipush 16, 2), (217, .iconst 2, 1), (218, .invokevirtual 276, 3), (221, .iadd, 1), (222, .iastore, 1), (223, .aload_n 0, 1), (224, .getfield 106, 3), (227, .iload_n 1, 1), (228, .aload_n 0, 1), (229, .iconst 0, 1), (230, .bipush 100, 2), (232, .invokevirtual 297, 3), (235, .iastore, 1), (236, .aload_n 0, 1), (237, .bipush 59, 2), (239, .invokevirtual 280, 3), (242, .aload_n 0, 1), (243, .getfield 85, 3), (246, .bipush 7, 2), (248, .dup2, 1), (249, .iaload, 1), (250, .iconst 1, 1), (251, .iadd, 1), (252, .iastore, 1), (253, .return_, 1)]
set_option maxRecDepth 20000 in
theorem D_X12_readRule : ∀ q ∈ L_X12_readRule, decode cX12_readRule q.1 = .ok q.2 := by decide +kernel
def L_X12_readText : List (Nat × Instr × Nat) := [(0, .aload_n 0, 1), (1, .invokevirtual 267, 3), (4, .aload_n 0, 1), (5, .getfield 85, 3), (8, .bipush 7, 2), (10, .iconst 0, 1), (11, .iastore, 1), (12, .aload_n 0, 1), (13, .getfield 118, 3), (16, .bipush 7, 2), (18, .iconst 0, 1), (19, .iastore, 1), (20, .aload_n 0, 1), (21, .getfield 251, 3), (24, .ifCond .ne 19, 3), (27, .aload_n 0, 1), (28, .bipush 7, 2), (30, .invokevirtual 261, 3), (33, .ifCond .ne 10, 3), (36, .aload_n 0, 1), (37, .invokevirtual 270, 3), (40, .goto (-20), 3), (43, .aload_n 0, 1), (44, .bipush 7, 2), (46, .invokevirtual 273, 3), (49, .aload_n 0, 1), (50, .getfield 88, 3), (53, .bipush 7, 2), (55, .aload_n 0, 1), (56, .bipush 21, 2), (58, .iconst 3, 1), (59, .invokevirtual 276, 3), (62, .iastore, 1), (63, .aload_n 0, 1), (64, .bipush 59, 2), (66, .invokevirtual 280, 3), (69, .aload_n 0, 1), (70, .getfield 251, 3), (73, .ifCond .ne 20, 3), (76, .aload_n 0, 1), (77, .getfield 24, 3), (80, .aload_n 0, 1), (81, .getfield 248, 3), (84, .iaload, 1), (85, .ifCond .eq 8, 3), (88, .aload_n 0, 1), (89, .iconst 1, 1), (90, .invokevirtual 257, 3), (93, .return_, 1)]
set_option maxRecDepth 20000 in
theorem D_X12_readText : ∀ q ∈ L_X12_readText, decode cX12_readText q.1 = .ok q.2 := by decide +kernel
def L_X12_readWhom : List (Nat × Instr × Nat) := [(0, .aload_n 0, 1), (1, .getfield 106, 3), (4, .iload_n 1, 1), (5, .iconst 0, 1), (6, .iastore, 1), (7, .aload_n 0, 1), (8, .bipush 8, 2), (10, .invokevirtual 264, 3), (13, .ifCond .eq 13, 3), (16, .aload_n 0, 1), (17, .getfield 103, 3), (20, .iload_n 1, 1), (21, .iconst 0, 1), (22, .iastore, 1), (23, .goto 65, 3), (26, .aload_n 0, 1), (27, .bipush 11, 2), (29, .invokevirtual 264, 3), (32, .ifCond .eq 30, 3), (35, .aload_n 0, 1), (36, .getfield 103, 3), (39, .iload_n 1, 1), (40, .iconst 1, 1), (41, .iastore, 1), (42, .aload_n 0, 1), (43, .getfield 106, 3), (46, .iload_n 1, 1), (47, .aload_n 0, 1), (48, .iconst 0, 1), (49, .aload_n 0, 1), (50, .getfield 300, 3), (53, .iconst 1, 1), (54, .isub, 1), (55, .invokevirtual 297, 3), (58, .iastore, 1), (59, .goto 29, 3), (62, .aload_n 0, 1), (63, .bipush 12, 2), (65, .invokevirtual 273, 3), (68, .aload_n 0, 1), (69, .getfield 103, 3), (72, .iload_n 1, 1), (73, .iconst 2, 1), (74, .iastore, 1), (75, .aload_n 0, 1), (76, .getfield 106, 3), (79, .iload_n 1, 1), (80, .aload_n 0, 1), (81, .iconst 1, 1), (82, .bipush 12, 2), (84, .invokevirtual 297, 3), (87, .iastore, 1), (88, .return_, 1)]
set_option maxRecDepth 20000 in
theorem D_X12_readWhom : ∀ q ∈ L_X12_readWhom, decode cX12_readWhom q.1 = .ok q.2 := by decide +kernel
def L_X12_rule : List (Nat × Instr × Nat) := [(0, .bipush 24, 2), (2, .aload_n 0, 1), (3, .getfield 360, 3), (6, .imul, 1), (7, .iload_n 1, 1), (8, .iadd, 1), (9, .istore_n 2, 1), (10, .aload_n 0, 1), (11, .getfield 91, 3), (14, .iload_n 2, 1), (15, .iaload, 1), (16, .ifCond .lt 17, 3), (19, .aload_n 0, 1), (20, .aload_n 0, 1), (21, .getfield 91, 3), (24, .iload_n 2, 1), (25, .iaload, 1), (26, .invokevirtual 398, 3), (29, .ifCond .ne 4, 3), (32, .return_, 1), (33, .aload_n 0, 1), (34, .getfield 94, 3), (37, .iload_n 2, 1), (38, .iaload, 1), (39, .bipush 6, 2), (41, .if_icmp .ne 23, 3), (44, .aload_n 0, 1), (45, .getfield 157, 3), (48, .aload_n 0, 1), (49, .getfield 100, 3), (52, .iload_n 2, 1), (53, .iaload, 1), (54, .aload_n 0, 1), (55, .getfield 106, 3), (58, .iload_n 2, 1), (59, .iaload, 1), (60, .iastore, 1), (61, .goto 146, 3), (64, .aload_n 0, 1), (65, .getfield 94, 3), (68, .iload_n 2, 1), (69, .iaload, 1), (70, .iconst 5, 1), (71, .if_icmp .ne 130, 3), (74, .aload_n 0, 1), (75, .getfield 97, 3), (78, .iload_n 2, 1), (79, .iaload, 1), (80, .ifCond .ge 10, 3), (83, .aload_n 0, 1), (84, .getfield 369, 3), (87, .goto 13, 3), (90, .aload_n 0, 1), (91, .aload_n 0, 1), (92, .getfield 97, 3), (95, .iload_n 2, 1), (96, .iaload, 1), (97, .invokevirtual 398, 3), (100, .istore_n 3, 1), (101, .iload_n 3, 1), (102, .aload_n 0, 1), (103, .getfield 369, 3), (106, .if_icmp .le 10, 3), (109, .aload_n 0, 1), (110, .getfield 369, 3), (113, .goto 4, 3), (116, .iload_n 3, 1), (117, .istore_n 3, 1), (118, .iload_n 3, 1), (119, .aload_n 0, 1), (120, .getfield 219, 3), (123, .aload_n 0, 1), (124, .getfield 350, 3), (127, .isub, 1), (128, .if_icmp .le 15, 3), (131, .aload_n 0, 1), (132, .getfield 219, 3), (135, .aload_n 0, 1), (136, .getfield 350, 3), (139, .isub, 1), (140, .goto 4, 3), (143, .iload_n 3, 1), (144, .istore_n 3, 1), (145, .iload_n 3, 1), (146, .ifCond .ge 7, 3), (149, .iconst 0, 1), (150, .goto 4, 3), (153, .iload_n 3, 1), (154, .istore_n 3, 1), (155, .aload_n 0, 1), (156, .dup, 1), (157, .getfield 369, 3), (160, .iload_n 3, 1), (161, .isub, 1), (162, .putfield 369, 3), (165, .aload_n 0, 1), (166, .dup, 1), (167, .getfield 350, 3), (170, .iload_n 3, 1), (171, .iadd, 1), (172, .putfield 350, 3), (175, .aload_n 0, 1), (176, .dup, 1), (177, .getfield 372, 3), (180, .iload_n 3, 1), (181, .iadd, 1), (182, .putfield 372, 3), (185, .aload_n 0, 1), (186, .getfield 196, 3), (189, .bipush 13, 2), (191, .iload_n 1, 1), (192, .imul, 1), (193, .bipush 12, 2), (195, .iadd, 1), (196, .iload_n 3, 1), (197, .iastore, 1), (198, .goto 9, 3), (201, .aload_n 0, 1), (202, .iload_n 1, 1), (203, .iload_n 2, 1), (204, .invokevirtual 401, 3), (207, .return_, 1)]
set_option maxRecDepth 20000 in
theorem D_X12_rule : ∀ q ∈ L_X12_rule, decode cX12_rule q.1 = .ok q.2 := by decide +kernel
def L_X12_takeNumber : List (Nat × Instr × Nat) := [(0, .aload_n 0, 1), (1, .getfield 251, 3), (4, .ifCond .ne 24, 3), (7, .aload_n 0, 1), (8, .getfield 24, 3), (11, .aload_n 0, 1), (12, .getfield 248, 3), (15, .iaload, 1), (16, .iconst 2, 1), (17, .if_icmp .eq 11, 3), (20, .aload_n 0, 1), (21, .iconst 1, 1), (22, .invokevirtual 257, 3), (25, .goto 45, 3), (28, .aload_n 0, 1), (29, .getfield 251, 3), (32, .ifCond .ne 38, 3), (35, .aload_n 0, 1), (36, .getfield 30, 3), (39, .aload_n 0, 1), (40, .getfield 248, 3), (43, .laload, 1), (44, .iload_n 1, 1), (45, .i2l, 1), (46, .lcmp, 1), (47, .ifCond .lt 18, 3), (50, .aload_n 0, 1), (51, .getfield 30, 3), (54, .aload_n 0, 1), (55, .getfield 248, 3), (58, .laload, 1), (59, .iload_n 2, 1), (60, .i2l, 1), (61, .lcmp, 1), (62, .ifCond .le 8, 3), (65, .aload_n 0, 1), (66, .iconst 4, 1), (67, .invokevirtual 257, 3), (70, .aload_n 0, 1), (71, .dup, 1), (72, .getfield 248, 3), (75, .iconst 1, 1), (76, .iadd, 1), (77, .putfield 248, 3), (80, .aload_n 0, 1), (81, .getfield 251, 3), (84, .ifCond .le 7, 3), (87, .iconst 0, 1), (88, .goto 15, 3), (91, .aload_n 0, 1), (92, .getfield 30, 3), (95, .aload_n 0, 1), (96, .getfield 248, 3), (99, .iconst 1, 1), (100, .isub, 1), (101, .laload, 1), (102, .l2i, 1), (103, .ireturn, 1)]
set_option maxRecDepth 20000 in
theorem D_X12_takeNumber : ∀ q ∈ L_X12_takeNumber, decode cX12_takeNumber q.1 = .ok q.2 := by decide +kernel
def L_X12_takeSign : List (Nat × Instr × Nat) := [(0, .aload_n 0, 1), (1, .iload_n 1, 1), (2, .invokevirtual 254, 3), (5, .ifCond .eq 16, 3), (8, .aload_n 0, 1), (9, .dup, 1), (10, .getfield 248, 3), (13, .iconst 1, 1), (14, .iadd, 1), (15, .putfield 248, 3), (18, .goto 8, 3), (21, .aload_n 0, 1), (22, .iconst 1, 1), (23, .invokevirtual 257, 3), (26, .return_, 1)]
set_option maxRecDepth 20000 in
theorem D_X12_takeSign : ∀ q ∈ L_X12_takeSign, decode cX12_takeSign q.1 = .ok q.2 := by decide +kernel
def L_X12_takeWord : List (Nat × Instr × Nat) := [(0, .aload_n 0, 1), (1, .iload_n 1, 1), (2, .invokevirtual 264, 3), (5, .ifCond .ne 8, 3), (8, .aload_n 0, 1), (9, .iconst 1, 1), (10, .invokevirtual 257, 3), (13, .return_, 1)]
set_option maxRecDepth 20000 in
theorem D_X12_takeWord : ∀ q ∈ L_X12_takeWord, decode cX12_takeWord q.1 = .ok q.2 := by decide +kernel
def L_X12_text : List (Nat × Instr × Nat) := [(0, .aload_n 0, 1), (1, .iconst 0, 1), (2, .putfield 1, 3), (5, .iload_n 1, 1), (6, .ifCond .lt 41, 3), (9, .iload_n 1, 1), (10, .sipush 239, 3), (13, .if_icmp .gt 34, 3), (16, .aload_n 0, 1), (17, .getfield 328, 3), (20, .bipush 6, 2), (22, .if_icmp .eq 25, 3), (25, .aload_n 0, 1), (26, .getfield 328, 3), (29, .ifCond .le 25, 3), (32, .iload_n 1, 1), (33, .aload_n 0, 1), (34, .getfield 121, 3), (37, .aload_n 0, 1), (38, .getfield 328, 3), (41, .iconst 1, 1), (42, .isub, 1), (43, .iaload, 1), (44, .if_icmp .gt 10, 3), (47, .aload_n 0, 1), (48, .iconst 0, 1), (49, .putfield 11, 3), (52, .iconst (-1), 1), (53, .ireturn, 1), (54, .aload_n 0, 1), (55, .invokevirtual 331, 3), (58, .aload_n 0, 1), (59, .getfield 251, 3), (62, .ifCond .le 8, 3), (65, .aload_n 0, 1), (66, .getfield 251, 3), (69, .ireturn, 1), (70, .aload_n 0, 1), (71, .aload_n 0, 1), (72, .getfield 328, 3), (75, .invokevirtual 334, 3), (78, .aload_n 0, 1), (79, .getfield 121, 3), (82, .aload_n 0, 1), (83, .getfield 328, 3), (86, .iload_n 1, 1), (87, .iastore, 1), (88, .aload_n 0, 1), (89, .getfield 124, 3), (92, .aload_n 0, 1), (93, .getfield 328, 3), (96, .aload_n 0, 1), (97, .getfield 337, 3), (100, .iastore, 1), (101, .aload_n 0, 1), (102, .dup, 1), (103, .getfield 328, 3), (106, .iconst 1, 1), (107, .iadd, 1), (108, .putfield 328, 3), (111, .iconst 0, 1), (112, .ireturn, 1)]
set_option maxRecDepth 20000 in
theorem D_X12_text : ∀ q ∈ L_X12_text, decode cX12_text q.1 = .ok q.2 := by decide +kernel
def L_X12_thrown : List (Nat × Instr × Nat) := [(0, .aload_n 0, 1), (1, .getfield 1, 3), (4, .ireturn, 1)]
set_option maxRecDepth 20000 in
theorem D_X12_thrown : ∀ q ∈ L_X12_thrown, decode cX12_thrown q.1 = .ok q.2 := by decide +kernel
def L_X12_works : List (Nat × Instr × Nat) := [(0, .aload_n 0, 1), (1, .iload_n 2, 1), (2, .putfield 347, 3), (5, .aload_n 0, 1), (6, .iconst 0, 1), (7, .putfield 350, 3), (10, .iconst 0, 1), (11, .istore 4, 2), (13, .iload 4, 2), (15, .iconst 4, 1), (16, .if_icmp .ge 17, 3), (19, .aload_n 0, 1), (20, .getfield 157, 3), (23, .iload 4, 2), (25, .iconst 0, 1), (26, .iastore, 1), (27, .iinc 4 1, 3), (30, .goto (-17), 3), (33, .iconst 0, 1), (34, .istore 4, 2), (36, .iload 4, 2), (38, .bipush 12, 2), (40, .if_icmp .ge 33, 3), (43, .aload_n 0, 1), (44, .getfield 160, 3), (47, .iload 4, 2), (49, .iconst 0, 1), (50, .iastore, 1), (51, .aload_n 0, 1), (52, .getfield 163, 3), (55, .iload 4, 2), (57, .iconst 0, 1), (58, .iastore, 1), (59, .aload_n 0, 1), (60, .getfield 190, 3), (63, .iload 4, 2), (65, .iconst 0, 1), (66, .iastore, 1), (67, .iinc 4 1, 3), (70, .goto (-34), 3), (73, .iconst 0, 1), (74, .istore 4, 2), (76, .iload 4, 2), (78, .bipush 14, 2), (80, .if_icmp .ge 17, 3), (83, .aload_n 0, 1), (84, .getfield 199, 3), (87, .iload 4, 2), (89, .iconst 0, 1), (90, .iastore, 1), (91, .iinc 4 1, 3), (94, .goto (-18), 3), (97, .aload_n 0, 1), (98, .iconst 0, 1), (99, .putfield 353, 3), (102, .aload_n 0, 1), (103, .getfield 353, 3), (106, .iload_n 1, 1), (107, .if_icmp .gt 61, 3), (110, .aload_n 0, 1), (111, .iload_n 3, 1), (112, .invokevirtual 356, 3), (115, .iconst 0, 1), (116, .istore 4, 2), (118, .aload_n 0, 1), (119, .getfield 360, 3), (122, .ifCond .lt 29, 3), (125, .iload 4, 2), (127, .aload_n 0, 1), (128, .getfield 85, 3), (131, .aload_n 0, 1), (132, .getfield 360, 3), (135, .iaload, 1), (136, .if_icmp .ge 15, 3), (139, .aload_n 0, 1), (140, .iload 4, 2), (142, .invokevirtual 363, 3), (145, .iinc 4 1, 3), (148, .goto (-30), 3), (151, .aload_n 0, 1), (152, .invokevirtual 366, 3), (155, .aload_n 0, 1), (156, .dup, 1), (157, .getfield 353, 3), (160, .iconst 1, 1), (161, .iadd, 1), (162, .putfield 353, 3), (165, .goto (-63), 3), (168, .aload_n 0, 1), (169, .iload_n 1, 1), (170, .putfield 353, 3), (173, .return_, 1)]
set_option maxRecDepth 20000 in
theorem D_X12_works : ∀ q ∈ L_X12_works, decode cX12_works q.1 = .ok q.2 := by decide +kernel
def L_X12_worth : List (Nat × Instr × Nat) := [(0, .sipush 1300, 3), (3, .aload_n 0, 1), (4, .getfield 360, 3), (7, .imul, 1), (8, .iload_n 1, 1), (9, .iadd, 1), (10, .istore_n 2, 1), (11, .iconst 0, 1), (12, .istore_n 3, 1), (13, .aload_n 0, 1), (14, .getfield 112, 3), (17, .iload_n 2, 1), (18, .iaload, 1), (19, .ifCond .eq 156, 3), (22, .aload_n 0, 1), (23, .getfield 112, 3), (26, .iload_n 2, 1), (27, .iaload, 1), (28, .istore 4, 2), (30, .iload 4, 2), (32, .iconst 1, 1), (33, .if_icmp .eq 9, 3), (36, .iload 4, 2), (38, .iconst 2, 1), (39, .if_icmp .ne 40, 3), (42, .aload_n 0, 1), (43, .getfield 202, 3), (46, .iload_n 3, 1), (47, .iload 4, 2), (49, .iconst 1, 1), (50, .if_icmp .ne 12, 3), (53, .aload_n 0, 1), (54, .getfield 115, 3), (57, .iload_n 2, 1), (58, .iaload, 1), (59, .goto 13, 3), (62, .aload_n 0, 1), (63, .aload_n 0, 1), (64, .getfield 115, 3), (67, .iload_n 2, 1), (68, .iaload, 1), (69, .invokevirtual 395, 3), (72, .iastore, 1), (73, .iinc 3 1, 3), (76, .goto 93, 3), (79, .iinc 3 (-1), 3), (82, .aload_n 0, 1), (83, .getfield 202, 3), (86, .iload_n 3, 1), (87, .iaload, 1), (88, .istore 5, 2), (90, .aload_n 0, 1), (91, .getfield 202, 3), (94, .iload_n 3, 1), (95, .iconst 1, 1), (96, .isub, 1), (97, .iaload, 1), (98, .istore 6, 2), (100, .aload_n 0, 1), (101, .getfield 202, 3), (104, .iload_n 3, 1), (105, .iconst 1, 1), (106, .isub, 1), (107, .iload 4, 2), (109, .iconst 3, 1), (110, .if_icmp .ne 11, 3), (113, .iload 6, 2), (115, .iload 5, 2), (117, .iadd, 1), (118, .goto 50, 3), (121, .iload 4, 2), (123, .iconst 4, 1), (124, .if_icmp .ne 11, 3), (127, .iload 6, 2), (129, .iload 5, 2), (131, .isub, 1), (132, .goto 36, 3), (135, .iload 4, 2), (137, .iconst 5, 1), (138, .if_icmp .ne 18, 3), (141, .iload 6, 2), (143, .iload 5, 2), (145, .if_icmp .ge 7, 3), (148, .iconst 1, 1), (149, .goto 19, 3), (152, .iconst 0, 1), (153, .goto 15, 3), (156, .iload 6, 2), (158, .iload 5, 2), (160, .if_icmp .ne 7, 3), (163, .iconst 1, 1), (164, .goto 4, 3), (167, .iconst 0, 1), (168, .iastore, 1), (169, .iinc 2 1, 3), (172, .goto (-159), 3), (175, .aload_n 0, 1), (176, .getfield 202, 3), (179, .iconst 0, 1), (180, .iaload, 1), (181, .ireturn, 1)]
set_option maxRecDepth 20000 in
theorem D_X12_worth : ∀ q ∈ L_X12_worth, decode cX12_worth q.1 = .ok q.2 := by decide +kernel
def L_X12_would : List (Nat × Instr × Nat) := [(0, .aload_n 0, 1), (1, .iconst 0, 1), (2, .putfield 1, 3), (5, .iload_n 1, 1), (6, .ifCond .lt 29, 3), (9, .iload_n 1, 1), (10, .aload_n 0, 1), (11, .getfield 300, 3), (14, .if_icmp .ge 21, 3), (17, .iload_n 2, 1), (18, .ifCond .lt 17, 3), (21, .iload_n 2, 1), (22, .sipush 239, 3), (25, .if_icmp .gt 10, 3), (28, .aload_n 0, 1), (29, .getfield 340, 3), (32, .ifCond .ne 5, 3), (35, .iconst (-1), 1), (36, .ireturn, 1), (37, .aload_n 0, 1), (38, .iload_n 2, 1), (39, .aload_n 0, 1), (40, .invokevirtual 424, 3), (43, .iconst 1, 1), (44, .invokevirtual 427, 3), (47, .aload_n 0, 1), (48, .getfield 181, 3), (51, .iload_n 1, 1), (52, .iaload, 1), (53, .aload_n 0, 1), (54, .getfield 184, 3), (57, .iload_n 1, 1), (58, .iaload, 1), (59, .iadd, 1), (60, .ireturn, 1)]
set_option maxRecDepth 20000 in
theorem D_X12_would : ∀ q ∈ L_X12_would, decode cX12_would q.1 = .ok q.2 := by decide +kernel
def L_X12_wrong : List (Nat × Instr × Nat) := [(0, .aload_n 0, 1), (1, .getfield 251, 3), (4, .ifCond .ne 21, 3), (7, .aload_n 0, 1), (8, .iload_n 1, 1), (9, .bipush 16, 2), (11, .aload_n 0, 1), (12, .getfield 27, 3), (15, .aload_n 0, 1), (16, .getfield 248, 3), (19, .iaload, 1), (20, .imul, 1), (21, .iadd, 1), (22, .putfield 251, 3), (25, .return_, 1)]
set_option maxRecDepth 20000 in
theorem D_X12_wrong : ∀ q ∈ L_X12_wrong, decode cX12_wrong q.1 = .ok q.2 := by decide +kernel
def L_X2_add : List (Nat × Instr × Nat) := [(0, .aload_n 0, 1), (1, .getfield 9, 3), (4, .aload_n 0, 1), (5, .getfield 18, 3), (8, .iload_n 1, 1), (9, .iastore, 1), (10, .aload_n 0, 1), (11, .getfield 15, 3), (14, .aload_n 0, 1), (15, .getfield 18, 3), (18, .iload_n 2, 1), (19, .iastore, 1), (20, .aload_n 0, 1), (21, .dup, 1), (22, .getfield 18, 3), (25, .iconst 1, 1), (26, .iadd, 1), (27, .putfield 18, 3), (30, .aload_n 0, 1), (31, .getfield 18, 3), (34, .iconst 1, 1), (35, .isub, 1), (36, .ireturn, 1)]
set_option maxRecDepth 20000 in
theorem D_X2_add : ∀ q ∈ L_X2_add, decode cX2_add q.1 = .ok q.2 := by decide +kernel
def L_X2_has : List (Nat × Instr × Nat) := [(0, .iload_n 1, 1), (1, .iconst 0, 1), (2, .aload_n 0, 1), (3, .getfield 18, 3), (6, .iconst 1, 1), (7, .isub, 1), (8, .invokestatic 22, 3), (11, .ireturn, 1)]
set_option maxRecDepth 20000 in
theorem D_X2_has : ∀ q ∈ L_X2_has, decode cX2_has q.1 = .ok q.2 := by decide +kernel
def L_X2_init : List (Nat × Instr × Nat) := [(0, .aload_n 0, 1), (1, .invokespecial 3, 3), (4, .aload_n 0, 1), (5, .bipush 12, 2), (7, .newarray .int, 2), (9, .putfield 9, 3), (12, .aload_n 0, 1), (13, .bipush 12, 2), (15, .newarray .int, 2), (17, .putfield 15, 3), (20, .return_, 1)]
set_option maxRecDepth 20000 in
theorem D_X2_init : ∀ q ∈ L_X2_init, decode cX2_init q.1 = .ok q.2 := by decide +kernel
def L_X3_init : List (Nat × Instr × Nat) := [(0, .aload_n 0, 1), (1, .invokespecial 3, 3), (4, .aload_n 0, 1), (5, .sipush 1201, 3), (8, .anewarray 9, 3), (11, .putfield 11, 3), (14, .aload_n 0, 1), (15, .sipush 1201, 3), (18, .newarray .int, 2), (20, .putfield 17, 3), (23, .aload_n 0, 1), (24, .sipush 1201, 3), (27, .newarray .int, 2), (29, .putfield 21, 3), (32, .return_, 1)]
set_option maxRecDepth 20000 in
theorem D_X3_init : ∀ q ∈ L_X3_init, decode cX3_init q.1 = .ok q.2 := by decide +kernel
def L_X3_parse : List (Nat × Instr × Nat) := [(0, .aload_n 0, 1), (1, .aload_n 1, 1), (2, .invokevirtual 24, 3), (5, .aload_n 1, 1), (6, .iconst 0, 1), (7, .putfield 28, 3), (10, .aload_n 0, 1), (11, .iconst 0, 1), (12, .putfield 34, 3), (15, .aload_n 0, 1), (16, .iconst 0, 1), (17, .putfield 37, 3), (20, .aload_n 0, 1), (21, .iload_n 2, 1), (22, .putfield 40, 3), (25, .aload_n 0, 1), (26, .aload_n 3, 1), (27, .putfield 43, 3), (30, .aload_n 0, 1), (31, .getfield 43, 3), (34, .iconst 0, 1), (35, .putfield 47, 3), (38, .aload_n 0, 1), (39, .getfield 43, 3), (42, .iconst 0, 1), (43, .putfield 50, 3), (46, .iconst 0, 1), (47, .istore 4, 2), (49, .iload 4, 2), (51, .bipush 24, 2), (53, .if_icmp .gt 36, 3), (56, .aload_n 0, 1), (57, .getfield 37, 3), (60, .ifCond .ne 29, 3), (63, .aload_n 0, 1), (64, .getfield 11, 3), (67, .aload_n 0, 1), (68, .getfield 34, 3), (71, .aaload, 1), (72, .getstatic 53, 3), (75, .if_acmp .eq 14, 3), (78, .aload_n 0, 1), (79, .invokevirtual 57, 3), (82, .pop, 1), (83, .iinc 4 1, 3), (86, .goto (-37), 3), (89, .aload_n 0, 1), (90, .getfield 37, 3), (93, .ifCond .ne 8, 3), (96, .aload_n 0, 1), (97, .invokevirtual 61, 3), (100, .pop, 1), (101, .aload_n 0, 1), (102, .getfield 37, 3), (105, .ireturn, 1)]
set_option maxRecDepth 20000 in
theorem D_X3_parse : ∀ q ∈ L_X3_parse, decode cX3_parse q.1 = .ok q.2 := by decide +kernel
def L_X3_refuse : List (Nat × Instr × Nat) := [(0, .aload_n 0, 1), (1, .iload_n 1, 1), (2, .bipush 16, 2), (4, .aload_n 0, 1), (5, .getfield 17, 3), (8, .aload_n 0, 1), (9, .getfield 34, 3), (12, .iaload, 1), (13, .imul, 1), (14, .iadd, 1), (15, .putfield 37, 3), (18, .iconst 0, 1), (19, .ireturn, 1)]
set_option maxRecDepth 20000 in
theorem D_X3_refuse : ∀ q ∈ L_X3_refuse, decode cX3_refuse q.1 = .ok q.2 := by decide +kernel
def L_X3_scan : List (Nat × Instr × Nat) := [(0, .aload_n 0, 1), (1, .iconst 0, 1), (2, .putfield 64, 3), (5, .iconst 0, 1), (6, .istore_n 2, 1), (7, .iload_n 2, 1), (8, .aload_n 1, 1), (9, .getfield 28, 3), (12, .if_icmp .ge 28, 3), (15, .aload_n 1, 1), (16, .iload_n 2, 1), (17, .invokevirtual 67, 3), (20, .ifCond .eq 14, 3), (23, .aload_n 0, 1), (24, .aload_n 1, 1), (25, .iload_n 2, 1), (26, .aload_n 1, 1), (27, .iload_n 2, 1), (28, .invokevirtual 71, 3), (31, .invokevirtual 75, 3), (34, .iinc 2 1, 3), (37, .goto (-30), 3), (40, .aload_n 0, 1), (41, .getfield 11, 3), (44, .aload_n 0, 1), (45, .getfield 64, 3), (48, .getstatic 79, 3), (51, .aastore, 1), (52, .aload_n 0, 1), (53, .getfield 17, 3), (56, .aload_n 0, 1), (57, .getfield 64, 3), (60, .aload_n 1, 1), (61, .getfield 28, 3), (64, .iastore, 1), (65, .return_, 1)]
set_option maxRecDepth 20000 in
theorem D_X3_scan : ∀ q ∈ L_X3_scan, decode cX3_scan q.1 = .ok q.2 := by decide +kernel
def L_X3_scanToken : List (Nat × Instr × Nat) := [(0, .aload_n 0, 1), (1, .getfield 17, 3), (4, .aload_n 0, 1), (5, .getfield 64, 3), (8, .iload_n 2, 1), (9, .iastore, 1), (10, .aload_n 1, 1), (11, .iload_n 2, 1), (12, .invokevirtual 82, 3), (15, .iconst 2, 1), (16, .if_icmp .eq 21, 3), (19, .aload_n 0, 1), (20, .getfield 11, 3), (23, .aload_n 0, 1), (24, .getfield 64, 3), (27, .aload_n 1, 1), (28, .iload_n 2, 1), (29, .iload_n 3, 1), (30, .invokestatic 85, 3), (33, .aastore, 1), (34, .goto 53, 3), (37, .iload_n 3, 1), (38, .iload_n 2, 1), (39, .isub, 1), (40, .bipush 6, 2), (42, .if_icmp .le 18, 3), (45, .aload_n 0, 1), (46, .getfield 11, 3), (49, .aload_n 0, 1), (50, .getfield 64, 3), (53, .getstatic 89, 3), (56, .aastore, 1), (57, .goto 30, 3), (60, .aload_n 0, 1), (61, .getfield 11, 3), (64, .aload_n 0, 1), (65, .getfield 64, 3), (68, .getstatic 92, 3), (71, .aastore, 1), (72, .aload_n 0, 1), (73, .getfield 21, 3), (76, .aload_n 0, 1), (77, .getfield 64, 3), (80, .aload_n 1, 1), (81, .iload_n 2, 1), (82, .iload_n 3, 1), (83, .invokevirtual 95, 3), (86, .iastore, 1), (87, .aload_n 0, 1), (88, .dup, 1), (89, .getfield 64, 3), (92, .iconst 1, 1), (93, .iadd, 1), (94, .putfield 64, 3), (97, .return_, 1)]
set_option maxRecDepth 20000 in
theorem D_X3_scanToken : ∀ q ∈ L_X3_scanToken, decode cX3_scanToken q.1 = .ok q.2 := by decide +kernel
def L_X3_step : List (Nat × Instr × Nat) := [(0, .aload_n 0, 1), (1, .getfield 34, 3), (4, .aload_n 0, 1), (5, .getfield 64, 3), (8, .if_icmp .ge 13, 3), (11, .aload_n 0, 1), (12, .dup, 1), (13, .getfield 34, 3), (16, .iconst 1, 1), (17, .iadd, 1), (18, .putfield 34, 3), (21, .return_, 1)]
set_option maxRecDepth 20000 in
theorem D_X3_step : ∀ q ∈ L_X3_step, decode cX3_step q.1 = .ok q.2 := by decide +kernel
def L_X3_take : List (Nat × Instr × Nat) := [(0, .aload_n 0, 1), (1, .getfield 11, 3), (4, .aload_n 0, 1), (5, .getfield 34, 3), (8, .aaload, 1), (9, .aload_n 1, 1), (10, .if_acmp .eq 9, 3), (13, .aload_n 0, 1), (14, .iconst 1, 1), (15, .invokevirtual 99, 3), (18, .ireturn, 1), (19, .aload_n 0, 1), (20, .invokevirtual 102, 3), (23, .iconst 1, 1), (24, .ireturn, 1)]
set_option maxRecDepth 20000 in
theorem D_X3_take : ∀ q ∈ L_X3_take, decode cX3_take q.1 = .ok q.2 := by decide +kernel
def L_X3_takeAct : List (Nat × Instr × Nat) := [(0, .aload_n 1, 1), (1, .aload_n 0, 1), (2, .getstatic 153, 3), (5, .getstatic 156, 3), (8, .getstatic 159, 3), (11, .invokevirtual 118, 3), (14, .putfield 162, 3), (17, .aload_n 1, 1), (18, .getfield 162, 3), (21, .ifnonnull 5, 3), (24, .iconst 0, 1), (25, .ireturn, 1), (26, .aload_n 1, 1), (27, .getfield 162, 3), (30, .getstatic 159, 3), (33, .if_acmp .ne 9, 3), (36, .aload_n 0, 1), (37, .aload_n 1, 1), (38, .invokevirtual 165, 3), (41, .ireturn, 1), (42, .aload_n 1, 1), (43, .aload_n 0, 1), (44, .getfield 43, 3), (47, .getfield 50, 3), (50, .putfield 168, 3), (53, .aload_n 0, 1), (54, .getfield 11, 3), (57, .aload_n 0, 1), (58, .getfield 34, 3), (61, .aaload, 1), (62, .getstatic 171, 3), (65, .if_acmp .ne 10, 3), (68, .aload_n 0, 1), (69, .invokevirtual 102, 3), (72, .goto 13, 3), (75, .aload_n 0, 1), (76, .iconst 0, 1), (77, .invokevirtual 143, 3), (80, .ifCond .ne 5, 3), (83, .iconst 0, 1), (84, .ireturn, 1), (85, .aload_n 1, 1), (86, .aload_n 0, 1), (87, .getfield 43, 3), (90, .getfield 50, 3), (93, .putfield 174, 3), (96, .aload_n 1, 1), (97, .getfield 162, 3), (100, .getstatic 156, 3), (103, .if_acmp .eq 11, 3), (106, .aload_n 0, 1), (107, .aload_n 1, 1), (108, .invokevirtual 177, 3), (111, .ifCond .eq 7, 3), (114, .iconst 1, 1), (115, .goto 4, 3), (118, .iconst 0, 1), (119, .ireturn, 1)]
set_option maxRecDepth 20000 in
theorem D_X3_takeAct : ∀ q ∈ L_X3_takeAct, decode cX3_takeAct q.1 = .ok q.2 := by decide +kernel
def L_X3_takeExpression : List (Nat × Instr × Nat) := [(0, .aconst_null, 1), (1, .astore_n 2, 1), (2, .aconst_null, 1), (3, .astore_n 3, 1), (4, .iconst 0, 1), (5, .istore 4, 2), (7, .iload 4, 2), (9, .sipush 1200, 3), (12, .if_icmp .ge 85, 3), (15, .aload_n 0, 1), (16, .iload_n 1, 1), (17, .invokevirtual 239, 3), (20, .ifCond .ne 5, 3), (23, .iconst 0, 1), (24, .ireturn, 1), (25, .aload_n 3, 1), (26, .ifnull 21, 3), (29, .aload_n 3, 1), (30, .invokevirtual 242, 3), (33, .ifCond .ne 14, 3), (36, .aload_n 0, 1), (37, .getfield 43, 3), (40, .aload_n 3, 1), (41, .getfield 245, 3), (44, .invokevirtual 248, 3), (47, .aload_n 0, 1), (48, .getfield 11, 3), (51, .aload_n 0, 1), (52, .getfield 34, 3), (55, .aaload, 1), (56, .astore_n 3, 1), (57, .aload_n 3, 1), (58, .invokevirtual 252, 3), (61, .ifCond .eq 36, 3), (64, .aload_n 3, 1), (65, .invokevirtual 242, 3), (68, .ifCond .eq 10, 3), (71, .aload_n 2, 1), (72, .ifnull 6, 3), (75, .goto 22, 3), (78, .aload_n 3, 1), (79, .invokevirtual 242, 3), (82, .ifCond .eq 5, 3), (85, .aload_n 3, 1), (86, .astore_n 2, 1), (87, .aload_n 0, 1), (88, .invokevirtual 102, 3), (91, .iinc 4 1, 3), (94, .goto (-87), 3), (97, .aload_n 2, 1), (98, .ifnull 14, 3), (101, .aload_n 0, 1), (102, .getfield 43, 3), (105, .aload_n 2, 1), (106, .getfield 245, 3), (109, .invokevirtual 248, 3), (112, .iconst 1, 1), (113, .ireturn, 1)]
set_option maxRecDepth 20000 in
theorem D_X3_takeExpression : ∀ q ∈ L_X3_takeExpression, decode cX3_takeExpression q.1 = .ok q.2 := by decide +kernel
def L_X3_takeNumber : List (Nat × Instr × Nat) := [(0, .aload_n 0, 1), (1, .getfield 11, 3), (4, .aload_n 0, 1), (5, .getfield 34, 3), (8, .aaload, 1), (9, .getstatic 92, 3), (12, .if_acmp .eq 9, 3), (15, .aload_n 0, 1), (16, .iconst 1, 1), (17, .invokevirtual 99, 3), (20, .ireturn, 1), (21, .aload_n 0, 1), (22, .getfield 21, 3), (25, .aload_n 0, 1), (26, .getfield 34, 3), (29, .iaload, 1), (30, .iload_n 2, 1), (31, .iload_n 3, 1), (32, .invokestatic 190, 3), (35, .ifCond .ne 9, 3), (38, .aload_n 0, 1), (39, .iconst 4, 1), (40, .invokevirtual 99, 3), (43, .ireturn, 1), (44, .aload_n 1, 1), (45, .aload_n 0, 1), (46, .getfield 21, 3), (49, .aload_n 0, 1), (50, .getfield 34, 3), (53, .iaload, 1), (54, .putfield 194, 3), (57, .aload_n 0, 1), (58, .invokevirtual 102, 3), (61, .iconst 1, 1), (62, .ireturn, 1)]
set_option maxRecDepth 20000 in
theorem D_X3_takeNumber : ∀ q ∈ L_X3_takeNumber, decode cX3_takeNumber q.1 = .ok q.2 := by decide +kernel
def L_X3_takeOneOf : List (Nat × Instr × Nat) := [(0, .aload_n 0, 1), (1, .getfield 11, 3), (4, .aload_n 0, 1), (5, .getfield 34, 3), (8, .aaload, 1), (9, .astore 4, 2), (11, .aload 4, 2), (13, .aload_n 1, 1), (14, .if_acmp .eq 23, 3), (17, .aload 4, 2), (19, .aload_n 2, 1), (20, .if_acmp .eq 17, 3), (23, .aload 4, 2), (25, .aload_n 3, 1), (26, .if_acmp .eq 11, 3), (29, .aload_n 0, 1), (30, .iconst 1, 1), (31, .invokevirtual 99, 3), (34, .pop, 1), (35, .aconst_null, 1), (36, .areturn, 1), (37, .aload_n 0, 1), (38, .invokevirtual 102, 3), (41, .aload 4, 2), (43, .areturn, 1)]
set_option maxRecDepth 20000 in
theorem D_X3_takeOneOf : ∀ q ∈ L_X3_takeOneOf, decode cX3_takeOneOf q.1 = .ok q.2 := by decide +kernel
def L_X3_takePart : List (Nat × Instr × Nat) := [(0, .aload_n 0, 1), (1, .getfield 11, 3), (4, .aload_n 0, 1), (5, .getfield 34, 3), (8, .aaload, 1), (9, .astore_n 2, 1), (10, .aload_n 2, 1), (11, .invokevirtual 255, 3), (14, .ifCond .ne 9, 3), (17, .aload_n 0, 1), (18, .iconst 1, 1), (19, .invokevirtual 99, 3), (22, .ireturn, 1), (23, .iload_n 1, 1), (24, .iconst 5, 1), (25, .if_icmp .le 9, 3), (28, .aload_n 0, 1), (29, .iconst 5, 1), (30, .invokevirtual 99, 3), (33, .ireturn, 1), (34, .aload_n 2, 1), (35, .getstatic 258, 3), (38, .if_acmp .ne 33, 3), (41, .aload_n 0, 1), (42, .invokevirtual 102, 3), (45, .aload_n 0, 1), (46, .iload_n 1, 1), (47, .iconst 1, 1), (48, .iadd, 1), (49, .invokevirtual 143, 3), (52, .ifCond .eq 17, 3), (55, .aload_n 0, 1), (56, .getstatic 261, 3), (59, .invokevirtual 105, 3), (62, .ifCond .eq 7, 3), (65, .iconst 1, 1), (66, .goto 4, 3), (69, .iconst 0, 1), (70, .ireturn, 1), (71, .aload_n 0, 1), (72, .getfield 43, 3), (75, .aload_n 2, 1), (76, .getstatic 92, 3), (79, .if_acmp .ne 15, 3), (82, .aload_n 0, 1), (83, .getfield 21, 3), (86, .aload_n 0, 1), (87, .getfield 34, 3), (90, .iaload, 1), (91, .goto 7, 3), (94, .aload_n 2, 1), (95, .getfield 245, 3), (98, .invokevirtual 248, 3), (101, .aload_n 0, 1), (102, .invokevirtual 102, 3), (105, .iconst 1, 1), (106, .ireturn, 1)]
set_option maxRecDepth 20000 in
theorem D_X3_takePart : ∀ q ∈ L_X3_takePart, decode cX3_takePart q.1 = .ok q.2 := by decide +kernel
def L_X3_takePrice : List (Nat × Instr × Nat) := [(0, .aload_n 1, 1), (1, .aload_n 0, 1), (2, .getfield 11, 3), (5, .aload_n 0, 1), (6, .getfield 34, 3), (9, .aaload, 1), (10, .invokevirtual 180, 3), (13, .putfield 184, 3), (16, .aload_n 1, 1), (17, .getfield 184, 3), (20, .iconst (-1), 1), (21, .if_icmp .ne 9, 3), (24, .aload_n 0, 1), (25, .iconst 1, 1), (26, .invokevirtual 99, 3), (29, .ireturn, 1), (30, .aload_n 0, 1), (31, .invokevirtual 102, 3), (34, .aload_n 0, 1), (35, .aload_n 1, 1), (36, .iconst 0, 1), (37, .bipush 100, 2), (39, .invokevirtual 186, 3), (42, .ireturn, 1)]
set_option maxRecDepth 20000 in
theorem D_X3_takePrice : ∀ q ∈ L_X3_takePrice, decode cX3_takePrice q.1 = .ok q.2 := by decide +kernel
def L_X3_takeRest : List (Nat × Instr × Nat) := [(0, .aload_n 0, 1), (1, .getstatic 53, 3), (4, .invokevirtual 105, 3), (7, .ifCond .ne 5, 3), (10, .iconst 0, 1), (11, .ireturn, 1), (12, .aload_n 0, 1), (13, .getfield 43, 3), (16, .aload_n 0, 1), (17, .getstatic 109, 3), (20, .getstatic 112, 3), (23, .getstatic 115, 3), (26, .invokevirtual 118, 3), (29, .putfield 122, 3), (32, .aload_n 0, 1), (33, .getfield 43, 3), (36, .getfield 122, 3), (39, .ifnull 27, 3), (42, .aload_n 0, 1), (43, .getstatic 125, 3), (46, .invokevirtual 105, 3), (49, .ifCond .eq 17, 3), (52, .aload_n 0, 1), (53, .getstatic 79, 3), (56, .invokevirtual 105, 3), (59, .ifCond .eq 7, 3), (62, .iconst 1, 1), (63, .goto 4, 3), (66, .iconst 0, 1), (67, .ireturn, 1)]
set_option maxRecDepth 20000 in
theorem D_X3_takeRest : ∀ q ∈ L_X3_takeRest, decode cX3_takeRest q.1 = .ok q.2 := by decide +kernel
def L_X3_takeRule : List (Nat × Instr × Nat) := [(0, .aload_n 0, 1), (1, .getfield 11, 3), (4, .aload_n 0, 1), (5, .getfield 34, 3), (8, .aaload, 1), (9, .invokevirtual 128, 3), (12, .ifCond .ne 9, 3), (15, .aload_n 0, 1), (16, .iconst 1, 1), (17, .invokevirtual 99, 3), (20, .ireturn, 1), (21, .aload_n 0, 1), (22, .getfield 43, 3), (25, .getfield 47, 3), (28, .bipush 24, 2), (30, .if_icmp .lt 9, 3), (33, .aload_n 0, 1), (34, .iconst 5, 1), (35, .invokevirtual 99, 3), (38, .ireturn, 1), (39, .aload_n 0, 1), (40, .getfield 43, 3), (43, .getfield 131, 3), (46, .aload_n 0, 1), (47, .getfield 43, 3), (50, .getfield 47, 3), (53, .aaload, 1), (54, .astore_n 1, 1), (55, .aload_n 1, 1), (56, .aload_n 0, 1), (57, .getfield 43, 3), (60, .getfield 50, 3), (63, .putfield 135, 3), (66, .aload_n 0, 1), (67, .getfield 11, 3), (70, .aload_n 0, 1), (71, .getfield 34, 3), (74, .aaload, 1), (75, .getstatic 140, 3), (78, .if_acmp .ne 17, 3), (81, .aload_n 0, 1), (82, .invokevirtual 102, 3), (85, .aload_n 0, 1), (86, .iconst 0, 1), (87, .invokevirtual 143, 3), (90, .ifCond .ne 5, 3), (93, .iconst 0, 1), (94, .ireturn, 1), (95, .aload_n 1, 1), (96, .aload_n 0, 1), (97, .getfield 43, 3), (100, .getfield 50, 3), (103, .putfield 146, 3), (106, .aload_n 0, 1), (107, .aload_n 1, 1), (108, .invokevirtual 149, 3), (111, .ifCond .eq 13, 3), (114, .aload_n 0, 1), (115, .getstatic 125, 3), (118, .invokevirtual 105, 3), (121, .ifCond .ne 5, 3), (124, .iconst 0, 1), (125, .ireturn, 1), (126, .aload_n 0, 1), (127, .getfield 43, 3), (130, .dup, 1), (131, .getfield 47, 3), (134, .iconst 1, 1), (135, .iadd, 1), (136, .putfield 47, 3), (139, .iconst 1, 1), (140, .ireturn, 1)]
set_option maxRecDepth 20000 in
theorem D_X3_takeRule : ∀ q ∈ L_X3_takeRule, decode cX3_takeRule q.1 = .ok q.2 := by decide +kernel
def L_X3_takeWays : List (Nat × Instr × Nat) := [(0, .aload_n 0, 1), (1, .getstatic 197, 3), (4, .invokevirtual 105, 3), (7, .ifCond .ne 5, 3), (10, .iconst 0, 1), (11, .ireturn, 1), (12, .aload_n 1, 1), (13, .aload_n 0, 1), (14, .getstatic 200, 3), (17, .getstatic 203, 3), (20, .getstatic 203, 3), (23, .invokevirtual 118, 3), (26, .putfield 206, 3), (29, .aload_n 1, 1), (30, .getfield 206, 3), (33, .ifnull 31, 3), (36, .aload_n 0, 1), (37, .getstatic 209, 3), (40, .invokevirtual 105, 3), (43, .ifCond .eq 21, 3), (46, .aload_n 0, 1), (47, .aload_n 1, 1), (48, .invokevirtual 212, 3), (51, .ifCond .eq 13, 3), (54, .aload_n 0, 1), (55, .getstatic 215, 3), (58, .invokevirtual 105, 3), (61, .ifCond .ne 5, 3), (64, .iconst 0, 1), (65, .ireturn, 1), (66, .aload_n 1, 1), (67, .aload_n 0, 1), (68, .getstatic 218, 3), (71, .getstatic 221, 3), (74, .getstatic 224, 3), (77, .invokevirtual 118, 3), (80, .putfield 227, 3), (83, .aload_n 1, 1), (84, .getfield 227, 3), (87, .ifnull 7, 3), (90, .iconst 1, 1), (91, .goto 4, 3), (94, .iconst 0, 1), (95, .ireturn, 1)]
set_option maxRecDepth 20000 in
theorem D_X3_takeWays : ∀ q ∈ L_X3_takeWays, decode cX3_takeWays q.1 = .ok q.2 := by decide +kernel
def L_X3_takeWhom : List (Nat × Instr × Nat) := [(0, .aload_n 1, 1), (1, .aload_n 0, 1), (2, .getstatic 171, 3), (5, .getstatic 230, 3), (8, .getstatic 233, 3), (11, .invokevirtual 118, 3), (14, .putfield 236, 3), (17, .aload_n 1, 1), (18, .getfield 236, 3), (21, .ifnonnull 5, 3), (24, .iconst 0, 1), (25, .ireturn, 1), (26, .aload_n 1, 1), (27, .getfield 236, 3), (30, .getstatic 230, 3), (33, .if_acmp .ne 16, 3), (36, .aload_n 0, 1), (37, .aload_n 1, 1), (38, .iconst 0, 1), (39, .aload_n 0, 1), (40, .getfield 40, 3), (43, .iconst 1, 1), (44, .isub, 1), (45, .invokevirtual 186, 3), (48, .ireturn, 1), (49, .aload_n 1, 1), (50, .getfield 236, 3), (53, .getstatic 171, 3), (56, .if_acmp .eq 14, 3), (59, .aload_n 0, 1), (60, .aload_n 1, 1), (61, .iconst 1, 1), (62, .bipush 12, 2), (64, .invokevirtual 186, 3), (67, .ifCond .eq 7, 3), (70, .iconst 1, 1), (71, .goto 4, 3), (74, .iconst 0, 1), (75, .ireturn, 1)]
set_option maxRecDepth 20000 in
theorem D_X3_takeWhom : ∀ q ∈ L_X3_takeWhom, decode cX3_takeWhom q.1 = .ok q.2 := by decide +kernel
def L_X4_add : List (Nat × Instr × Nat) := [(0, .aload_n 0, 1), (1, .getfield 9, 3), (4, .aload_n 0, 1), (5, .getfield 27, 3), (8, .iload_n 1, 1), (9, .iastore, 1), (10, .aload_n 0, 1), (11, .getfield 15, 3), (14, .aload_n 0, 1), (15, .getfield 27, 3), (18, .iload_n 2, 1), (19, .iastore, 1), (20, .aload_n 0, 1), (21, .getfield 18, 3), (24, .aload_n 0, 1), (25, .getfield 27, 3), (28, .iload_n 3, 1), (29, .iastore, 1), (30, .aload_n 0, 1), (31, .getfield 21, 3), (34, .aload_n 0, 1), (35, .getfield 27, 3), (38, .iload 4, 2), (40, .iastore, 1), (41, .aload_n 0, 1), (42, .getfield 24, 3), (45, .aload_n 0, 1), (46, .getfield 27, 3), (49, .iload 5, 2), (51, .iastore, 1), (52, .aload_n 0, 1), (53, .dup, 1), (54, .getfield 27, 3), (57, .iconst 1, 1), (58, .iadd, 1), (59, .putfield 27, 3), (62, .return_, 1)]
set_option maxRecDepth 20000 in
theorem D_X4_add : ∀ q ∈ L_X4_add, decode cX4_add q.1 = .ok q.2 := by decide +kernel
def L_X4_firstTouched : List (Nat × Instr × Nat) := [(0, .sipush 240, 3), (3, .istore_n 3, 1), (4, .iconst 0, 1), (5, .istore 4, 2), (7, .iload 4, 2), (9, .aload_n 0, 1), (10, .getfield 27, 3), (13, .if_icmp .ge 43, 3), (16, .aload_n 0, 1), (17, .getfield 24, 3), (20, .iload 4, 2), (22, .iaload, 1), (23, .iload_n 1, 1), (24, .if_icmp .le 26, 3), (27, .aload_n 0, 1), (28, .getfield 24, 3), (31, .iload 4, 2), (33, .iaload, 1), (34, .iload_n 2, 1), (35, .if_icmp .gt 15, 3), (38, .iload_n 3, 1), (39, .aload_n 0, 1), (40, .getfield 15, 3), (43, .iload 4, 2), (45, .iaload, 1), (46, .invokestatic 31, 3), (49, .istore_n 3, 1), (50, .iinc 4 1, 3), (53, .goto (-46), 3), (56, .iload_n 3, 1), (57, .ireturn, 1)]
set_option maxRecDepth 20000 in
theorem D_X4_firstTouched : ∀ q ∈ L_X4_firstTouched, decode cX4_firstTouched q.1 = .ok q.2 := by decide +kernel
def L_X4_init : List (Nat × Instr × Nat) := [(0, .aload_n 0, 1), (1, .invokespecial 3, 3), (4, .aload_n 0, 1), (5, .sipush 400, 3), (8, .newarray .int, 2), (10, .putfield 9, 3), (13, .aload_n 0, 1), (14, .sipush 400, 3), (17, .newarray .int, 2), (19, .putfield 15, 3), (22, .aload_n 0, 1), (23, .sipush 400, 3), (26, .newarray .int, 2), (28, .putfield 18, 3), (31, .aload_n 0, 1), (32, .sipush 400, 3), (35, .newarray .int, 2), (37, .putfield 21, 3), (40, .aload_n 0, 1), (41, .sipush 400, 3), (44, .newarray .int, 2), (46, .putfield 24, 3), (49, .return_, 1)]
set_option maxRecDepth 20000 in
theorem D_X4_init : ∀ q ∈ L_X4_init, decode cX4_init q.1 = .ok q.2 := by decide +kernel
def L_X5_init : List (Nat × Instr × Nat) := [(0, .aload_n 0, 1), (1, .invokespecial 1, 3), (4, .return_, 1)]
set_option maxRecDepth 20000 in
theorem D_X5_init : ∀ q ∈ L_X5_init, decode cX5_init q.1 = .ok q.2 := by decide +kernel
def L_X6_addBytes : List (Nat × Instr × Nat) := [(0, .bipush 56, 2), (2, .istore_n 3, 1), (3, .iload_n 3, 1), (4, .ifCond .lt 70, 3), (7, .lload_n 1, 1), (8, .iload_n 3, 1), (9, .lushr, 1), (10, .l2i, 1), (11, .sipush 255, 3), (14, .iand, 1), (15, .istore 4, 2), (17, .iload 4, 2), (19, .bipush 10, 2), (21, .if_icmp .eq 15, 3), (24, .iload 4, 2), (26, .bipush 32, 2), (28, .bipush 126, 2), (30, .invokestatic 15, 3), (33, .ifCond .eq 35, 3), (36, .aload_n 0, 1), (37, .getfield 19, 3), (40, .sipush 1200, 3), (43, .if_icmp .ge 25, 3), (46, .aload_n 0, 1), (47, .getfield 9, 3), (50, .aload_n 0, 1), (51, .getfield 19, 3), (54, .iload 4, 2), (56, .i2c, 1), (57, .castore, 1), (58, .aload_n 0, 1), (59, .dup, 1), (60, .getfield 19, 3), (63, .iconst 1, 1), (64, .iadd, 1), (65, .putfield 19, 3), (68, .iinc 3 (-8), 3), (71, .goto (-68), 3), (74, .return_, 1)]
set_option maxRecDepth 20000 in
theorem D_X6_addBytes : ∀ q ∈ L_X6_addBytes, decode cX6_addBytes q.1 = .ok q.2 := by decide +kernel
def L_X6_init : List (Nat × Instr × Nat) := [(0, .aload_n 0, 1), (1, .invokespecial 3, 3), (4, .aload_n 0, 1), (5, .sipush 1200, 3), (8, .newarray .char, 2), (10, .putfield 9, 3), (13, .return_, 1)]
set_option maxRecDepth 20000 in
theorem D_X6_init : ∀ q ∈ L_X6_init, decode cX6_init q.1 = .ok q.2 := by decide +kernel
def L_X6_numberAt : List (Nat × Instr × Nat) := [(0, .iconst 0, 1), (1, .istore_n 3, 1), (2, .iload_n 1, 1), (3, .istore 4, 2), (5, .iload 4, 2), (7, .iload_n 2, 1), (8, .if_icmp .ge 25, 3), (11, .iload_n 3, 1), (12, .bipush 10, 2), (14, .imul, 1), (15, .aload_n 0, 1), (16, .getfield 9, 3), (19, .iload 4, 2), (21, .caload, 1), (22, .bipush 48, 2), (24, .isub, 1), (25, .iadd, 1), (26, .istore_n 3, 1), (27, .iinc 4 1, 3), (30, .goto (-25), 3), (33, .iload_n 3, 1), (34, .ireturn, 1)]
set_option maxRecDepth 20000 in
theorem D_X6_numberAt : ∀ q ∈ L_X6_numberAt, decode cX6_numberAt q.1 = .ok q.2 := by decide +kernel
def L_X6_sort : List (Nat × Instr × Nat) := [(0, .aload_n 0, 1), (1, .getfield 9, 3), (4, .iload_n 1, 1), (5, .caload, 1), (6, .istore_n 2, 1), (7, .iload_n 2, 1), (8, .bipush 10, 2), (10, .if_icmp .eq 9, 3), (13, .iload_n 2, 1), (14, .bipush 32, 2), (16, .if_icmp .ne 5, 3), (19, .iconst 0, 1), (20, .ireturn, 1), (21, .iload_n 2, 1), (22, .bipush 97, 2), (24, .if_icmp .lt 11, 3), (27, .iload_n 2, 1), (28, .bipush 122, 2), (30, .if_icmp .gt 5, 3), (33, .iconst 1, 1), (34, .ireturn, 1), (35, .iload_n 2, 1), (36, .bipush 48, 2), (38, .if_icmp .lt 13, 3), (41, .iload_n 2, 1), (42, .bipush 57, 2), (44, .if_icmp .gt 7, 3), (47, .iconst 2, 1), (48, .goto 4, 3), (51, .iconst 3, 1), (52, .ireturn, 1)]
set_option maxRecDepth 20000 in
theorem D_X6_sort : ∀ q ∈ L_X6_sort, decode cX6_sort q.1 = .ok q.2 := by decide +kernel
def L_X6_tokenBegins : List (Nat × Instr × Nat) := [(0, .aload_n 0, 1), (1, .iload_n 1, 1), (2, .invokevirtual 23, 3), (5, .istore_n 2, 1), (6, .iload_n 2, 1), (7, .ifCond .ne 5, 3), (10, .iconst 0, 1), (11, .ireturn, 1), (12, .iload_n 2, 1), (13, .iconst 3, 1), (14, .if_icmp .eq 18, 3), (17, .iload_n 1, 1), (18, .ifCond .eq 14, 3), (21, .aload_n 0, 1), (22, .iload_n 1, 1), (23, .iconst 1, 1), (24, .isub, 1), (25, .invokevirtual 23, 3), (28, .iload_n 2, 1), (29, .if_icmp .eq 7, 3), (32, .iconst 1, 1), (33, .goto 4, 3), (36, .iconst 0, 1), (37, .ireturn, 1)]
set_option maxRecDepth 20000 in
theorem D_X6_tokenBegins : ∀ q ∈ L_X6_tokenBegins, decode cX6_tokenBegins q.1 = .ok q.2 := by decide +kernel
def L_X6_tokenEnd : List (Nat × Instr × Nat) := [(0, .aload_n 0, 1), (1, .iload_n 1, 1), (2, .invokevirtual 23, 3), (5, .istore_n 2, 1), (6, .iload_n 1, 1), (7, .iconst 1, 1), (8, .iadd, 1), (9, .istore_n 3, 1), (10, .iload_n 2, 1), (11, .iconst 3, 1), (12, .if_icmp .eq 26, 3), (15, .iload_n 3, 1), (16, .aload_n 0, 1), (17, .getfield 19, 3), (20, .if_icmp .ge 18, 3), (23, .aload_n 0, 1), (24, .iload_n 3, 1), (25, .invokevirtual 23, 3), (28, .iload_n 2, 1), (29, .if_icmp .ne 9, 3), (32, .iinc 3 1, 3), (35, .goto (-25), 3), (38, .iload_n 3, 1), (39, .ireturn, 1)]
set_option maxRecDepth 20000 in
theorem D_X6_tokenEnd : ∀ q ∈ L_X6_tokenEnd, decode cX6_tokenEnd q.1 = .ok q.2 := by decide +kernel
def L_X7_emit : List (Nat × Instr × Nat) := [(0, .aload_n 0, 1), (1, .getfield 22, 3), (4, .sipush 1200, 3), (7, .if_icmp .ge 23, 3), (10, .aload_n 0, 1), (11, .getfield 17, 3), (14, .aload_n 0, 1), (15, .getfield 22, 3), (18, .iload_n 1, 1), (19, .iastore, 1), (20, .aload_n 0, 1), (21, .dup, 1), (22, .getfield 22, 3), (25, .iconst 1, 1), (26, .iadd, 1), (27, .putfield 22, 3), (30, .return_, 1)]
set_option maxRecDepth 20000 in
theorem D_X7_emit : ∀ q ∈ L_X7_emit, decode cX7_emit q.1 = .ok q.2 := by decide +kernel
def L_X7_init : List (Nat × Instr × Nat) := [(0, .aload_n 0, 1), (1, .invokespecial 3, 3), (4, .aload_n 0, 1), (5, .bipush 24, 2), (7, .anewarray 9, 3), (10, .putfield 11, 3), (13, .aload_n 0, 1), (14, .sipush 1200, 3), (17, .newarray .int, 2), (19, .putfield 17, 3), (22, .iconst 0, 1), (23, .istore_n 1, 1), (24, .iload_n 1, 1), (25, .bipush 24, 2), (27, .if_icmp .ge 22, 3), (30, .aload_n 0, 1), (31, .getfield 11, 3), (34, .iload_n 1, 1), (35, .new 9, 3), (38, .dup, 1), (39, .invokespecial 21, 3), (42, .aastore, 1), (43, .iinc 1 1, 3), (46, .goto (-22), 3), (49, .return_, 1)]
set_option maxRecDepth 20000 in
theorem D_X7_init : ∀ q ∈ L_X7_init, decode cX7_init q.1 = .ok q.2 := by decide +kernel
def L_X8_add : List (Nat × Instr × Nat) := [(0, .aload_n 1, 1), (1, .iload_n 2, 1), (2, .putfield 21, 3), (5, .aload_n 1, 1), (6, .iload_n 3, 1), (7, .putfield 24, 3), (10, .aload_n 0, 1), (11, .getfield 11, 3), (14, .aload_n 0, 1), (15, .getfield 17, 3), (18, .aload_n 1, 1), (19, .aastore, 1), (20, .aload_n 0, 1), (21, .dup, 1), (22, .getfield 17, 3), (25, .iconst 1, 1), (26, .iadd, 1), (27, .putfield 17, 3), (30, .return_, 1)]
set_option maxRecDepth 20000 in
theorem D_X8_add : ∀ q ∈ L_X8_add, decode cX8_add q.1 = .ok q.2 := by decide +kernel
def L_X8_canTake : List (Nat × Instr × Nat) := [(0, .aload_n 0, 1), (1, .getfield 17, 3), (4, .bipush 6, 2), (6, .if_icmp .ge 32, 3), (9, .aload_n 0, 1), (10, .getfield 17, 3), (13, .ifCond .eq 21, 3), (16, .iload_n 1, 1), (17, .aload_n 0, 1), (18, .getfield 11, 3), (21, .aload_n 0, 1), (22, .getfield 17, 3), (25, .iconst 1, 1), (26, .isub, 1), (27, .aaload, 1), (28, .getfield 21, 3), (31, .if_icmp .le 7, 3), (34, .iconst 1, 1), (35, .goto 4, 3), (38, .iconst 0, 1), (39, .ireturn, 1)]
set_option maxRecDepth 20000 in
theorem D_X8_canTake : ∀ q ∈ L_X8_canTake, decode cX8_canTake q.1 = .ok q.2 := by decide +kernel
def L_X8_firstTouched : List (Nat × Instr × Nat) := [(0, .sipush 240, 3), (3, .istore_n 3, 1), (4, .iconst 0, 1), (5, .istore 4, 2), (7, .iload 4, 2), (9, .aload_n 0, 1), (10, .getfield 17, 3), (13, .if_icmp .ge 52, 3), (16, .aload_n 0, 1), (17, .getfield 11, 3), (20, .iload 4, 2), (22, .aaload, 1), (23, .getfield 24, 3), (26, .iload_n 1, 1), (27, .if_icmp .le 32, 3), (30, .aload_n 0, 1), (31, .getfield 11, 3), (34, .iload 4, 2), (36, .aaload, 1), (37, .getfield 24, 3), (40, .iload_n 2, 1), (41, .if_icmp .gt 18, 3), (44, .iload_n 3, 1), (45, .aload_n 0, 1), (46, .getfield 11, 3), (49, .iload 4, 2), (51, .aaload, 1), (52, .getfield 21, 3), (55, .invokestatic 32, 3), (58, .istore_n 3, 1), (59, .iinc 4 1, 3), (62, .goto (-55), 3), (65, .iload_n 3, 1), (66, .ireturn, 1)]
set_option maxRecDepth 20000 in
theorem D_X8_firstTouched : ∀ q ∈ L_X8_firstTouched, decode cX8_firstTouched q.1 = .ok q.2 := by decide +kernel
def L_X8_inForce : List (Nat × Instr × Nat) := [(0, .aconst_null, 1), (1, .astore_n 3, 1), (2, .iconst 0, 1), (3, .istore 4, 2), (5, .iload 4, 2), (7, .aload_n 0, 1), (8, .getfield 17, 3), (11, .if_icmp .ge 45, 3), (14, .aload_n 0, 1), (15, .getfield 11, 3), (18, .iload 4, 2), (20, .aaload, 1), (21, .getfield 21, 3), (24, .iload_n 1, 1), (25, .if_icmp .gt 25, 3), (28, .aload_n 0, 1), (29, .getfield 11, 3), (32, .iload 4, 2), (34, .aaload, 1), (35, .getfield 24, 3), (38, .iload_n 2, 1), (39, .if_icmp .gt 11, 3), (42, .aload_n 0, 1), (43, .getfield 11, 3), (46, .iload 4, 2), (48, .aaload, 1), (49, .astore_n 3, 1), (50, .iinc 4 1, 3), (53, .goto (-48), 3), (56, .aload_n 3, 1), (57, .areturn, 1)]
set_option maxRecDepth 20000 in
theorem D_X8_inForce : ∀ q ∈ L_X8_inForce, decode cX8_inForce q.1 = .ok q.2 := by decide +kernel
def L_X8_init : List (Nat × Instr × Nat) := [(0, .aload_n 0, 1), (1, .invokespecial 3, 3), (4, .aload_n 0, 1), (5, .bipush 6, 2), (7, .anewarray 9, 3), (10, .putfield 11, 3), (13, .return_, 1)]
set_option maxRecDepth 20000 in
theorem D_X8_init : ∀ q ∈ L_X8_init, decode cX8_init q.1 = .ok q.2 := by decide +kernel
def L_X8_putOnly : List (Nat × Instr × Nat) := [(0, .aload_n 0, 1), (1, .getfield 11, 3), (4, .iconst 0, 1), (5, .aaload, 1), (6, .astore_n 2, 1), (7, .aload_n 0, 1), (8, .iconst 0, 1), (9, .putfield 17, 3), (12, .aload_n 0, 1), (13, .aload_n 1, 1), (14, .iconst 0, 1), (15, .iconst 0, 1), (16, .invokevirtual 27, 3), (19, .aload_n 2, 1), (20, .areturn, 1)]
set_option maxRecDepth 20000 in
theorem D_X8_putOnly : ∀ q ∈ L_X8_putOnly, decode cX8_putOnly q.1 = .ok q.2 := by decide +kernel
def L_X8_rulesOfLatest : List (Nat × Instr × Nat) := [(0, .aload_n 0, 1), (1, .getfield 17, 3), (4, .ifCond .ne 7, 3), (7, .iconst 0, 1), (8, .goto 17, 3), (11, .aload_n 0, 1), (12, .getfield 11, 3), (15, .aload_n 0, 1), (16, .getfield 17, 3), (19, .iconst 1, 1), (20, .isub, 1), (21, .aaload, 1), (22, .getfield 31, 3), (25, .ireturn, 1)]
set_option maxRecDepth 20000 in
theorem D_X8_rulesOfLatest : ∀ q ∈ L_X8_rulesOfLatest, decode cX8_rulesOfLatest q.1 = .ok q.2 := by decide +kernel
def L_X9_beginsPart : List (Nat × Instr × Nat) := [(0, .aload_n 0, 1), (1, .getstatic 12, 3), (4, .if_acmp .eq 24, 3), (7, .aload_n 0, 1), (8, .getstatic 15, 3), (11, .if_acmp .eq 17, 3), (14, .aload_n 0, 1), (15, .getfield 131, 3), (18, .ifCond .ge 14, 3), (21, .aload_n 0, 1), (22, .invokevirtual 158, 3), (25, .ifCond .ne 7, 3), (28, .iconst 1, 1), (29, .goto 4, 3), (32, .iconst 0, 1), (33, .ireturn, 1)]
set_option maxRecDepth 20000 in
theorem D_X9_beginsPart : ∀ q ∈ L_X9_beginsPart, decode cX9_beginsPart q.1 = .ok q.2 := by decide +kernel
def L_X9_beginsRule : List (Nat × Instr × Nat) := [(0, .aload_n 0, 1), (1, .getstatic 51, 3), (4, .if_acmp .eq 24, 3), (7, .aload_n 0, 1), (8, .getstatic 54, 3), (11, .if_acmp .eq 17, 3), (14, .aload_n 0, 1), (15, .getstatic 57, 3), (18, .if_acmp .eq 10, 3), (21, .aload_n 0, 1), (22, .getstatic 60, 3), (25, .if_acmp .ne 7, 3), (28, .iconst 1, 1), (29, .goto 4, 3), (32, .iconst 0, 1), (33, .ireturn, 1)]
set_option maxRecDepth 20000 in
theorem D_X9_beginsRule : ∀ q ∈ L_X9_beginsRule, decode cX9_beginsRule q.1 = .ok q.2 := by decide +kernel
def L_X9_isCompare : List (Nat × Instr × Nat) := [(0, .aload_n 0, 1), (1, .getstatic 45, 3), (4, .if_acmp .eq 10, 3), (7, .aload_n 0, 1), (8, .getstatic 48, 3), (11, .if_acmp .ne 7, 3), (14, .iconst 1, 1), (15, .goto 4, 3), (18, .iconst 0, 1), (19, .ireturn, 1)]
set_option maxRecDepth 20000 in
theorem D_X9_isCompare : ∀ q ∈ L_X9_isCompare, decode cX9_isCompare q.1 = .ok q.2 := by decide +kernel
def L_X9_isOperator : List (Nat × Instr × Nat) := [(0, .aload_n 0, 1), (1, .getfield 131, 3), (4, .getstatic 39, 3), (7, .getfield 131, 3), (10, .if_icmp .gt 7, 3), (13, .iconst 1, 1), (14, .goto 4, 3), (17, .iconst 0, 1), (18, .ireturn, 1)]
set_option maxRecDepth 20000 in
theorem D_X9_isOperator : ∀ q ∈ L_X9_isOperator, decode cX9_isOperator q.1 = .ok q.2 := by decide +kernel
def L_X9_isSpelled : List (Nat × Instr × Nat) := [(0, .aload_n 0, 1), (1, .getfield 127, 3), (4, .invokevirtual 142, 3), (7, .iload_n 3, 1), (8, .iload_n 2, 1), (9, .isub, 1), (10, .if_icmp .eq 5, 3), (13, .iconst 0, 1), (14, .ireturn, 1), (15, .iconst 0, 1), (16, .istore 4, 2), (18, .iload 4, 2), (20, .aload_n 0, 1), (21, .getfield 127, 3), (24, .invokevirtual 142, 3), (27, .if_icmp .ge 32, 3), (30, .aload_n 0, 1), (31, .getfield 127, 3), (34, .iload 4, 2), (36, .invokevirtual 148, 3), (39, .aload_n 1, 1), (40, .getfield 152, 3), (43, .iload_n 2, 1), (44, .iload 4, 2), (46, .iadd, 1), (47, .caload, 1), (48, .if_icmp .eq 5, 3), (51, .iconst 0, 1), (52, .ireturn, 1), (53, .iinc 4 1, 3), (56, .goto (-38), 3), (59, .iconst 1, 1), (60, .ireturn, 1)]
set_option maxRecDepth 20000 in
theorem D_X9_isSpelled : ∀ q ∈ L_X9_isSpelled, decode cX9_isSpelled q.1 = .ok q.2 := by decide +kernel
def L_X9_price : List (Nat × Instr × Nat) := [(0, .aload_n 0, 1), (1, .getstatic 30, 3), (4, .if_acmp .ne 6, 3), (7, .bipush 10, 2), (9, .ireturn, 1), (10, .aload_n 0, 1), (11, .getstatic 33, 3), (14, .if_acmp .ne 6, 3), (17, .bipush 11, 2), (19, .ireturn, 1), (20, .aload_n 0, 1), (21, .getstatic 93, 3), (24, .if_acmp .ne 6, 3), (27, .bipush 12, 2), (29, .ireturn, 1), (30, .aload_n 0, 1), (31, .getstatic 96, 3), (34, .if_acmp .ne 8, 3), (37, .bipush 13, 2), (39, .goto 4, 3), (42, .iconst (-1), 1), (43, .ireturn, 1)]
set_option maxRecDepth 20000 in
theorem D_X9_price : ∀ q ∈ L_X9_price, decode cX9_price q.1 = .ok q.2 := by decide +kernel
def L_X9_spelled : List (Nat × Instr × Nat) := [(0, .iconst 0, 1), (1, .istore_n 3, 1), (2, .iload_n 3, 1), (3, .getstatic 135, 3), (6, .arraylength, 1), (7, .if_icmp .ge 29, 3), (10, .getstatic 135, 3), (13, .iload_n 3, 1), (14, .aaload, 1), (15, .aload_n 0, 1), (16, .iload_n 1, 1), (17, .iload_n 2, 1), (18, .invokevirtual 138, 3), (21, .ifCond .eq 9, 3), (24, .getstatic 135, 3), (27, .iload_n 3, 1), (28, .aaload, 1), (29, .areturn, 1), (30, .iinc 3 1, 3), (33, .goto (-31), 3), (36, .getstatic 5, 3), (39, .areturn, 1)]
set_option maxRecDepth 20000 in
theorem D_X9_spelled : ∀ q ∈ L_X9_spelled, decode cX9_spelled q.1 = .ok q.2 := by decide +kernel
end
section
def F_X12_thrown (f : Nat) (u : MT) : Option (Int32 × MT) :=
  some ((gI u 167 0), u)
theorem m_X12_thrown {g : GT} {w : LT} (hL : Lay w) {f : Nat} {u : MT} {r : (Int32 × MT)} (h : F_X12_thrown f  u = some r) : Mt g yX12_thrown cX12_thrown 1 (some .int) 0 0 0 [.ref 167] w u (Qi r.1 w r.2) := by
  refine Mt_of (own := RX12) (by decide +kernel) rfl (Nat.le_of_ble_eq_true rfl) (fun z C _ => ?_)
  show V z g 1 0 [(0, .ref 167)] [] w u 0 0 (Qi r.1 w r.2)
  rw [F_X12_thrown] at h
  refine Vaload_n C 0 (dAt D_X12_thrown 0 rfl) rfl rfl ?_
  refine VgetI C (dAt D_X12_thrown 1 rfl) gf_X12_1 (kt_167 hL) rfl ?_
  cases h
  exact Viret C (dAt D_X12_thrown 2 rfl) (by decide) (by decide) ⟨rfl, rfl, rfl⟩
def B_X12_lay_69 (f : Nat) (j3 : Int64 → Int32 → MT → Option MT) (x1 : Int64) (x3 : Int32) (u : MT) : Option MT :=
  let v10 := x3 + (-8)
  j3 x1 v10 u
theorem w_X12_lay_69 {z : ZT} {g : GT} {w : LT} (hL : Lay w) (C : Cx z g cX12_lay 5 RX12 none 0 0 0) {f : Nat} {r : MT} {j3 : Int64 → Int32 → MT → Option MT} (q3 : ∀ (x1 : Int64) (x3 : Int32) (u : MT), j3 x1 x3 u = some r → V z g 5 3 [(0, .ref 167), (1, .long x1), (3, .int x3)] [] w u 0 0 (Qv w r)) {x1 : Int64} {x3 : Int32} {u : MT} (h : B_X12_lay_69 f j3 x1 x3 u = some r) : V z g 5 69 [(0, .ref 167), (1, .long x1), (3, .int x3)] [] w u 0 0 (Qv w r) := by
  rw [B_X12_lay_69] at h
  refine Viinc (j := 2) (v := _ + (-8)) (lv' := [(3, _), (0, _), (1, _)]) C (dAt D_X12_lay 36 rfl) rfl rfl (by decide) rfl ?_
  refine Vgoto (tgt := 3) C (dAt D_X12_lay 37 rfl) (by decide) ?_
  exact Vsub [1, 2, 0] rfl (q3 _ _ _  h)
def B_X12_lay_38 (f : Nat) (j3 : Int64 → Int32 → MT → Option MT) (x1 : Int64) (x3 : Int32) (x4 : Int32) (u : MT) : Option MT :=
  if (1200 : Int32) ≤ (gI u 167 2) then
    B_X12_lay_69 f j3 x1 x3 u
  else
    ck (ixo (gI u 167 2) 1200) <|
    let u8 := sI u 168 ((gI u 167 2)).toNatClampNeg x4
    let u9 := sI u8 167 2 ((gI u8 167 2) + (1 : Int32))
    B_X12_lay_69 f j3 x1 x3 u9
theorem w_X12_lay_38 {z : ZT} {g : GT} {w : LT} (hL : Lay w) (C : Cx z g cX12_lay 5 RX12 none 0 0 0) {f : Nat} {r : MT} {j3 : Int64 → Int32 → MT → Option MT} (q3 : ∀ (x1 : Int64) (x3 : Int32) (u : MT), j3 x1 x3 u = some r → V z g 5 3 [(0, .ref 167), (1, .long x1), (3, .int x3)] [] w u 0 0 (Qv w r)) {x1 : Int64} {x3 : Int32} {x4 : Int32} {u : MT} (h : B_X12_lay_38 f j3 x1 x3 x4 u = some r) : V z g 5 38 [(0, .ref 167), (1, .long x1), (3, .int x3), (4, .int x4)] [] w u 0 0 (Qv w r) := by
  rw [B_X12_lay_38] at h
  refine Vaload_n C 0 (dAt D_X12_lay 20 rfl) rfl rfl ?_
  refine VgetI C (dAt D_X12_lay 21 rfl) gf_X12_11 (kt_167 hL) rfl ?_
  refine Vsipush (x := 1200) C (dAt D_X12_lay 22 rfl) (by decide) ?_
  refine Vicmp_ge (tgt := 69) C (dAt D_X12_lay 23 rfl) (by decide) (fun c6 => ?_) (fun c6 => ?_)
  · have h := ok_t c6 h
    exact Vsub [0, 1, 2] rfl (w_X12_lay_69 hL C q3  h)
  · have h := ok_f c6 h
    refine Vaload_n C 0 (dAt D_X12_lay 24 rfl) rfl rfl ?_
    refine VgetP C (dAt D_X12_lay 25 rfl) gf_X12_14 (kt_167 hL) rfl (kp_167_1 hL) ?_
    refine Vaload_n C 0 (dAt D_X12_lay 26 rfl) rfl rfl ?_
    refine VgetI C (dAt D_X12_lay 27 rfl) gf_X12_11 (kt_167 hL) rfl ?_
    refine Viload C 3 (dAt D_X12_lay 28 rfl) rfl ?_
    obtain ⟨c7, h⟩ := ok_ck h
    refine Viast C (dAt D_X12_lay 29 rfl) (kt_168 hL) (kl_168 hL) (vp_in_iff.mpr c7) ?_
    refine Vaload_n C 0 (dAt D_X12_lay 30 rfl) rfl rfl ?_
    refine Vdup C (dAt D_X12_lay 31 rfl) rfl ?_
    refine VgetI C (dAt D_X12_lay 32 rfl) gf_X12_11 (kt_167 hL) rfl ?_
    refine Viconst (x := 1) C (dAt D_X12_lay 33 rfl) (by decide) ?_
    refine Viadd C (dAt D_X12_lay 34 rfl) ?_
    refine VputI C (dAt D_X12_lay 35 rfl) gf_X12_11 (kt_167 hL) rfl rfl rfl rfl ?_
    exact Vsub [0, 1, 2] rfl (w_X12_lay_69 hL C q3  h)
def B_X12_lay_3 (f : Nat) : Nat → Int64 → Int32 → MT → Option MT
  | 0, _, _, _ => none
  | n + 1, x1, x3, u =>
    if x3 < 0 then
      some u
    else
      let v2 := (((x1 >>> (x3.toInt64 &&& 63))).toInt32 &&& (255 : Int32))
      if v2 = (10 : Int32) then
        B_X12_lay_38 f (fun x1' x3' u' => B_X12_lay_3 f n x1' x3' u') x1 x3 v2 u
      else
        if v2 < (32 : Int32) then
          B_X12_lay_69 f (fun x1' x3' u' => B_X12_lay_3 f n x1' x3' u') x1 x3 u
        else
          if (126 : Int32) < v2 then
            B_X12_lay_69 f (fun x1' x3' u' => B_X12_lay_3 f n x1' x3' u') x1 x3 u
          else
            B_X12_lay_38 f (fun x1' x3' u' => B_X12_lay_3 f n x1' x3' u') x1 x3 v2 u
theorem w_X12_lay_3 {z : ZT} {g : GT} {w : LT} (hL : Lay w) (C : Cx z g cX12_lay 5 RX12 none 0 0 0) {f : Nat} {r : MT} : ∀ (n : Nat) (x1 : Int64) (x3 : Int32) (u : MT), B_X12_lay_3 f n x1 x3 u = some r → V z g 5 3 [(0, .ref 167), (1, .long x1), (3, .int x3)] [] w u 0 0 (Qv w r) := by
  intro n
  induction n with
  | zero =>
    intro x1 x3 u h
    rw [B_X12_lay_3] at h
    cases h
  | succ n ih =>
    intro x1 x3 u h
    rw [B_X12_lay_3] at h
    refine Viload_n C 2 (dAt D_X12_lay 2 rfl) rfl rfl ?_
    refine Vif_lt (tgt := 75) C (dAt D_X12_lay 3 rfl) (by decide) (fun c1 => ?_) (fun c1 => ?_)
    · have h := ok_t c1 h
      cases h
      exact Vvret C (dAt D_X12_lay 38 rfl) (by decide) (by decide) ⟨rfl, rfl, rfl⟩
    · have h := ok_f c1 h
      refine Vlload_n C 1 (dAt D_X12_lay 4 rfl) rfl rfl ?_
      refine Viload_n C 2 (dAt D_X12_lay 5 rfl) rfl rfl ?_
      refine Vlshr C (dAt D_X12_lay 6 rfl) ?_
      refine Vl2i C (dAt D_X12_lay 7 rfl) ?_
      refine Vsipush (x := 255) C (dAt D_X12_lay 8 rfl) (by decide) ?_
      refine Viand C (dAt D_X12_lay 9 rfl) ?_
      refine Vistore (lv' := [(4, _), (0, _), (1, _), (3, _)]) C (dAt D_X12_lay 10 rfl) (by decide) rfl ?_
      refine Viload C 0 (dAt D_X12_lay 11 rfl) rfl ?_
      refine Vbipush (x := 10) C (dAt D_X12_lay 12 rfl) (by decide) ?_
      refine Vicmp_eq (tgt := 38) C (dAt D_X12_lay 13 rfl) (by decide) (fun c3 => ?_) (fun c3 => ?_)
      · have h := ok_t c3 h
        exact Vsub [1, 2, 3, 0] rfl (w_X12_lay_38 hL C ih  h)
      · have h := ok_f c3 h
        refine Viload C 0 (dAt D_X12_lay 14 rfl) rfl ?_
        refine Vbipush (x := 32) C (dAt D_X12_lay 15 rfl) (by decide) ?_
        refine Vicmp_lt (tgt := 69) C (dAt D_X12_lay 16 rfl) (by decide) (fun c4 => ?_) (fun c4 => ?_)
        · have h := ok_t c4 h
          exact Vsub [1, 2, 3] rfl (w_X12_lay_69 hL C ih  h)
        · have h := ok_f c4 h
          refine Viload C 0 (dAt D_X12_lay 17 rfl) rfl ?_
          refine Vbipush (x := 126) C (dAt D_X12_lay 18 rfl) (by decide) ?_
          refine Vicmp_gt (tgt := 69) C (dAt D_X12_lay 19 rfl) (by decide) (fun c5 => ?_) (fun c5 => ?_)
          · have h := ok_t c5 h
            exact Vsub [1, 2, 3] rfl (w_X12_lay_69 hL C ih  h)
          · have h := ok_f c5 h
            exact Vsub [1, 2, 3, 0] rfl (w_X12_lay_38 hL C ih  h)
def F_X12_lay (f : Nat) (x1 : Int64) (u : MT) : Option MT :=
  B_X12_lay_3 f f x1 (56 : Int32) u
theorem m_X12_lay {g : GT} {w : LT} (hL : Lay w) {x1 : Int64} {f : Nat} {u : MT} {r : MT} (h : F_X12_lay f x1 u = some r) : Mt g yX12_lay cX12_lay 5 none 0 0 0 [.ref 167, .long x1] w u (Qv w r) := by
  refine Mt_of (own := RX12) (by decide +kernel) rfl (Nat.le_of_ble_eq_true rfl) (fun z C _ => ?_)
  show V z g 5 0 [(0, .ref 167), (1, .long x1)] [] w u 0 0 (Qv w r)
  rw [F_X12_lay] at h
  refine Vbipush (x := 56) C (dAt D_X12_lay 0 rfl) (by decide) ?_
  refine Vistore_n (lv' := [(3, _), (0, _), (1, _)]) C (dAt D_X12_lay 1 rfl) rfl (by decide) rfl ?_
  exact Vsub [1, 2, 0] rfl (w_X12_lay_3 hL C  f _ _ _  h)
def F_X12_feed (f : Nat) (x1 : Int64) (x3 : Int64) (x5 : Int64) (u : MT) : Option (Int32 × MT) :=
  let u1 := sI u 167 0 (0 : Int32)
  (F_X12_lay f x1 u1).bind fun r2 =>
  (F_X12_lay f x3 r2).bind fun r4 =>
  (F_X12_lay f x5 r4).bind fun r6 =>
  some ((gI r6 167 2), r6)
theorem m_X12_feed {g : GT} {w : LT} (hL : Lay w) {x1 : Int64} {x3 : Int64} {x5 : Int64} {f : Nat} {u : MT} {r : (Int32 × MT)} (h : F_X12_feed f x1 x3 x5 u = some r) : Mt g yX12_feed cX12_feed 7 (some .int) 1 0 0 [.ref 167, .long x1, .long x3, .long x5] w u (Qi r.1 w r.2) := by
  refine Mt_of (own := RX12) (by decide +kernel) rfl (Nat.le_of_ble_eq_true rfl) (fun z C _ => ?_)
  show V z g 7 0 [(0, .ref 167), (1, .long x1), (3, .long x3), (5, .long x5)] [] w u 0 0 (Qi r.1 w r.2)
  rw [F_X12_feed] at h
  refine Vaload_n C 0 (dAt D_X12_feed 0 rfl) rfl rfl ?_
  refine Viconst (x := 0) C (dAt D_X12_feed 1 rfl) (by decide) ?_
  refine VputI C (dAt D_X12_feed 2 rfl) gf_X12_1 (kt_167 hL) rfl rfl rfl rfl ?_
  refine Vaload_n C 0 (dAt D_X12_feed 3 rfl) rfl rfl ?_
  refine Vlload_n C 1 (dAt D_X12_feed 4 rfl) rfl rfl ?_
  obtain ⟨r2, e3, h⟩ := ok_b h
  refine VcallV (as := [_]) C (dAt D_X12_feed 5 rfl) (m_X12_lay hL e3) yv_X12_7 (Or.inl ⟨(kt_167 hL), by decide⟩) rfl rfl (Nat.le_of_ble_eq_true rfl) (by decide) (by decide) (by decide) (by decide) (Kvoid ?_)
  refine Vaload_n C 0 (dAt D_X12_feed 6 rfl) rfl rfl ?_
  refine Vlload_n C 2 (dAt D_X12_feed 7 rfl) rfl rfl ?_
  obtain ⟨r4, e5, h⟩ := ok_b h
  refine VcallV (as := [_]) C (dAt D_X12_feed 8 rfl) (m_X12_lay hL e5) yv_X12_7 (Or.inl ⟨(kt_167 hL), by decide⟩) rfl rfl (Nat.le_of_ble_eq_true rfl) (by decide) (by decide) (by decide) (by decide) (Kvoid ?_)
  refine Vaload_n C 0 (dAt D_X12_feed 9 rfl) rfl rfl ?_
  refine Vlload C 3 (dAt D_X12_feed 10 rfl) rfl ?_
  obtain ⟨r6, e7, h⟩ := ok_b h
  refine VcallV (as := [_]) C (dAt D_X12_feed 11 rfl) (m_X12_lay hL e7) yv_X12_7 (Or.inl ⟨(kt_167 hL), by decide⟩) rfl rfl (Nat.le_of_ble_eq_true rfl) (by decide) (by decide) (by decide) (by decide) (Kvoid ?_)
  refine Vaload_n C 0 (dAt D_X12_feed 12 rfl) rfl rfl ?_
  refine VgetI C (dAt D_X12_feed 13 rfl) gf_X12_11 (kt_167 hL) rfl ?_
  cases h
  exact Viret C (dAt D_X12_feed 14 rfl) (by decide) (by decide) ⟨rfl, rfl, rfl⟩
def F_X12_isLetter (f : Nat) (x0 : Int32) (u : MT) : Option (Int32 × MT) :=
  if x0 < (97 : Int32) then
    some ((0 : Int32), u)
  else
    if (122 : Int32) < x0 then
      some ((0 : Int32), u)
    else
      some ((1 : Int32), u)
theorem m_X12_isLetter {g : GT} {w : LT} (hL : Lay w) {x0 : Int32} {f : Nat} {u : MT} {r : (Int32 × MT)} (h : F_X12_isLetter f x0 u = some r) : Mt g yX12_isLetter cX12_isLetter 1 (some .boolean) 0 0 0 [.int x0] w u (Qi r.1 w r.2) := by
  refine Mt_of (own := RX12) (by decide +kernel) rfl (Nat.le_of_ble_eq_true rfl) (fun z C _ => ?_)
  show V z g 1 0 [(0, .int x0)] [] w u 0 0 (Qi r.1 w r.2)
  rw [F_X12_isLetter] at h
  refine Viload_n C 0 (dAt D_X12_isLetter 0 rfl) rfl rfl ?_
  refine Vbipush (x := 97) C (dAt D_X12_isLetter 1 rfl) (by decide) ?_
  refine Vicmp_lt (tgt := 16) C (dAt D_X12_isLetter 2 rfl) (by decide) (fun c1 => ?_) (fun c1 => ?_)
  · have h := ok_t c1 h
    refine Viconst (x := 0) C (dAt D_X12_isLetter 8 rfl) (by decide) ?_
    cases h
    exact Vzret C (dAt D_X12_isLetter 9 rfl) rfl (by decide) (by decide) ⟨rfl, rfl, rfl⟩
  · have h := ok_f c1 h
    refine Viload_n C 0 (dAt D_X12_isLetter 3 rfl) rfl rfl ?_
    refine Vbipush (x := 122) C (dAt D_X12_isLetter 4 rfl) (by decide) ?_
    refine Vicmp_gt (tgt := 16) C (dAt D_X12_isLetter 5 rfl) (by decide) (fun c2 => ?_) (fun c2 => ?_)
    · have h := ok_t c2 h
      refine Viconst (x := 0) C (dAt D_X12_isLetter 8 rfl) (by decide) ?_
      cases h
      exact Vzret C (dAt D_X12_isLetter 9 rfl) rfl (by decide) (by decide) ⟨rfl, rfl, rfl⟩
    · have h := ok_f c2 h
      refine Viconst (x := 1) C (dAt D_X12_isLetter 6 rfl) (by decide) ?_
      refine Vgoto (tgt := 17) C (dAt D_X12_isLetter 7 rfl) (by decide) ?_
      cases h
      exact Vzret C (dAt D_X12_isLetter 9 rfl) rfl (by decide) (by decide) ⟨rfl, rfl, rfl⟩
def F_X12_isDigit (f : Nat) (x0 : Int32) (u : MT) : Option (Int32 × MT) :=
  if x0 < (48 : Int32) then
    some ((0 : Int32), u)
  else
    if (57 : Int32) < x0 then
      some ((0 : Int32), u)
    else
      some ((1 : Int32), u)
theorem m_X12_isDigit {g : GT} {w : LT} (hL : Lay w) {x0 : Int32} {f : Nat} {u : MT} {r : (Int32 × MT)} (h : F_X12_isDigit f x0 u = some r) : Mt g yX12_isDigit cX12_isDigit 1 (some .boolean) 0 0 0 [.int x0] w u (Qi r.1 w r.2) := by
  refine Mt_of (own := RX12) (by decide +kernel) rfl (Nat.le_of_ble_eq_true rfl) (fun z C _ => ?_)
  show V z g 1 0 [(0, .int x0)] [] w u 0 0 (Qi r.1 w r.2)
  rw [F_X12_isDigit] at h
  refine Viload_n C 0 (dAt D_X12_isDigit 0 rfl) rfl rfl ?_
  refine Vbipush (x := 48) C (dAt D_X12_isDigit 1 rfl) (by decide) ?_
  refine Vicmp_lt (tgt := 16) C (dAt D_X12_isDigit 2 rfl) (by decide) (fun c1 => ?_) (fun c1 => ?_)
  · have h := ok_t c1 h
    refine Viconst (x := 0) C (dAt D_X12_isDigit 8 rfl) (by decide) ?_
    cases h
    exact Vzret C (dAt D_X12_isDigit 9 rfl) rfl (by decide) (by decide) ⟨rfl, rfl, rfl⟩
  · have h := ok_f c1 h
    refine Viload_n C 0 (dAt D_X12_isDigit 3 rfl) rfl rfl ?_
    refine Vbipush (x := 57) C (dAt D_X12_isDigit 4 rfl) (by decide) ?_
    refine Vicmp_gt (tgt := 16) C (dAt D_X12_isDigit 5 rfl) (by decide) (fun c2 => ?_) (fun c2 => ?_)
    · have h := ok_t c2 h
      refine Viconst (x := 0) C (dAt D_X12_isDigit 8 rfl) (by decide) ?_
      cases h
      exact Vzret C (dAt D_X12_isDigit 9 rfl) rfl (by decide) (by decide) ⟨rfl, rfl, rfl⟩
    · have h := ok_f c2 h
      refine Viconst (x := 1) C (dAt D_X12_isDigit 6 rfl) (by decide) ?_
      refine Vgoto (tgt := 17) C (dAt D_X12_isDigit 7 rfl) (by decide) ?_
      cases h
      exact Vzret C (dAt D_X12_isDigit 9 rfl) rfl (by decide) (by decide) ⟨rfl, rfl, rfl⟩
def F_X12_rank (f : Nat) (x0 : Int32) (u : MT) : Option (Int32 × MT) :=
  (F_X12_isLetter f x0 u).bind fun r1 =>
  if r1.1 = 0 then
    some ((x0 - (21 : Int32)), r1.2)
  else
    some ((x0 - (96 : Int32)), r1.2)
theorem m_X12_rank {g : GT} {w : LT} (hL : Lay w) {x0 : Int32} {f : Nat} {u : MT} {r : (Int32 × MT)} (h : F_X12_rank f x0 u = some r) : Mt g yX12_rank cX12_rank 1 (some .int) 1 0 0 [.int x0] w u (Qi r.1 w r.2) := by
  refine Mt_of (own := RX12) (by decide +kernel) rfl (Nat.le_of_ble_eq_true rfl) (fun z C _ => ?_)
  show V z g 1 0 [(0, .int x0)] [] w u 0 0 (Qi r.1 w r.2)
  rw [F_X12_rank] at h
  refine Viload_n C 0 (dAt D_X12_rank 0 rfl) rfl rfl ?_
  obtain ⟨r1, e2, h⟩ := ok_b h
  refine VcallS (as := [_]) C (dAt D_X12_rank 1 rfl) (m_X12_isLetter hL e2) yb_X12_225 ys_X12_225 rfl rfl (Nat.le_of_ble_eq_true rfl) (by decide) (by decide) (by decide) (by decide) (Kint ?_)
  refine Vif_eq (tgt := 14) C (dAt D_X12_rank 2 rfl) (by decide) (fun c3 => ?_) (fun c3 => ?_)
  · have h := ok_t c3 h
    refine Viload_n C 0 (dAt D_X12_rank 7 rfl) rfl rfl ?_
    refine Vbipush (x := 21) C (dAt D_X12_rank 8 rfl) (by decide) ?_
    refine Visub C (dAt D_X12_rank 9 rfl) ?_
    cases h
    exact Viret C (dAt D_X12_rank 10 rfl) (by decide) (by decide) ⟨rfl, rfl, rfl⟩
  · have h := ok_f c3 h
    refine Viload_n C 0 (dAt D_X12_rank 3 rfl) rfl rfl ?_
    refine Vbipush (x := 96) C (dAt D_X12_rank 4 rfl) (by decide) ?_
    refine Visub C (dAt D_X12_rank 5 rfl) ?_
    refine Vgoto (tgt := 18) C (dAt D_X12_rank 6 rfl) (by decide) ?_
    cases h
    exact Viret C (dAt D_X12_rank 10 rfl) (by decide) (by decide) ⟨rfl, rfl, rfl⟩
def B_X12_isSignOf_42 (f : Nat) (u : MT) : Option (Int32 × MT) :=
  some ((1 : Int32), u)
theorem w_X12_isSignOf_42 {z : ZT} {g : GT} {w : LT} (hL : Lay w) (C : Cx z g cX12_isSignOf 1 RX12 (some .boolean) 0 0 0) {f : Nat} {r : (Int32 × MT)} {u : MT} (h : B_X12_isSignOf_42 f  u = some r) : V z g 1 42 [] [] w u 0 0 (Qi r.1 w r.2) := by
  rw [B_X12_isSignOf_42] at h
  refine Viconst (x := 1) C (dAt D_X12_isSignOf 21 rfl) (by decide) ?_
  refine Vgoto (tgt := 47) C (dAt D_X12_isSignOf 22 rfl) (by decide) ?_
  cases h
  exact Vzret C (dAt D_X12_isSignOf 24 rfl) rfl (by decide) (by decide) ⟨rfl, rfl, rfl⟩
def F_X12_isSignOf (f : Nat) (x0 : Int32) (u : MT) : Option (Int32 × MT) :=
  if x0 = (40 : Int32) then
    B_X12_isSignOf_42 f u
  else
    if x0 = (41 : Int32) then
      B_X12_isSignOf_42 f u
    else
      if x0 = (59 : Int32) then
        B_X12_isSignOf_42 f u
      else
        if x0 = (61 : Int32) then
          B_X12_isSignOf_42 f u
        else
          if x0 = (60 : Int32) then
            B_X12_isSignOf_42 f u
          else
            if x0 = (43 : Int32) then
              B_X12_isSignOf_42 f u
            else
              if x0 = (45 : Int32) then
                B_X12_isSignOf_42 f u
              else
                some ((0 : Int32), u)
theorem m_X12_isSignOf {g : GT} {w : LT} (hL : Lay w) {x0 : Int32} {f : Nat} {u : MT} {r : (Int32 × MT)} (h : F_X12_isSignOf f x0 u = some r) : Mt g yX12_isSignOf cX12_isSignOf 1 (some .boolean) 0 0 0 [.int x0] w u (Qi r.1 w r.2) := by
  refine Mt_of (own := RX12) (by decide +kernel) rfl (Nat.le_of_ble_eq_true rfl) (fun z C _ => ?_)
  show V z g 1 0 [(0, .int x0)] [] w u 0 0 (Qi r.1 w r.2)
  rw [F_X12_isSignOf] at h
  refine Viload_n C 0 (dAt D_X12_isSignOf 0 rfl) rfl rfl ?_
  refine Vbipush (x := 40) C (dAt D_X12_isSignOf 1 rfl) (by decide) ?_
  refine Vicmp_eq (tgt := 42) C (dAt D_X12_isSignOf 2 rfl) (by decide) (fun c1 => ?_) (fun c1 => ?_)
  · have h := ok_t c1 h
    exact Vsub [] rfl (w_X12_isSignOf_42 hL C  h)
  · have h := ok_f c1 h
    refine Viload_n C 0 (dAt D_X12_isSignOf 3 rfl) rfl rfl ?_
    refine Vbipush (x := 41) C (dAt D_X12_isSignOf 4 rfl) (by decide) ?_
    refine Vicmp_eq (tgt := 42) C (dAt D_X12_isSignOf 5 rfl) (by decide) (fun c2 => ?_) (fun c2 => ?_)
    · have h := ok_t c2 h
      exact Vsub [] rfl (w_X12_isSignOf_42 hL C  h)
    · have h := ok_f c2 h
      refine Viload_n C 0 (dAt D_X12_isSignOf 6 rfl) rfl rfl ?_
      refine Vbipush (x := 59) C (dAt D_X12_isSignOf 7 rfl) (by decide) ?_
      refine Vicmp_eq (tgt := 42) C (dAt D_X12_isSignOf 8 rfl) (by decide) (fun c3 => ?_) (fun c3 => ?_)
      · have h := ok_t c3 h
        exact Vsub [] rfl (w_X12_isSignOf_42 hL C  h)
      · have h := ok_f c3 h
        refine Viload_n C 0 (dAt D_X12_isSignOf 9 rfl) rfl rfl ?_
        refine Vbipush (x := 61) C (dAt D_X12_isSignOf 10 rfl) (by decide) ?_
        refine Vicmp_eq (tgt := 42) C (dAt D_X12_isSignOf 11 rfl) (by decide) (fun c4 => ?_) (fun c4 => ?_)
        · have h := ok_t c4 h
          exact Vsub [] rfl (w_X12_isSignOf_42 hL C  h)
        · have h := ok_f c4 h
          refine Viload_n C 0 (dAt D_X12_isSignOf 12 rfl) rfl rfl ?_
          refine Vbipush (x := 60) C (dAt D_X12_isSignOf 13 rfl) (by decide) ?_
          refine Vicmp_eq (tgt := 42) C (dAt D_X12_isSignOf 14 rfl) (by decide) (fun c5 => ?_) (fun c5 => ?_)
          · have h := ok_t c5 h
            exact Vsub [] rfl (w_X12_isSignOf_42 hL C  h)
          · have h := ok_f c5 h
            refine Viload_n C 0 (dAt D_X12_isSignOf 15 rfl) rfl rfl ?_
            refine Vbipush (x := 43) C (dAt D_X12_isSignOf 16 rfl) (by decide) ?_
            refine Vicmp_eq (tgt := 42) C (dAt D_X12_isSignOf 17 rfl) (by decide) (fun c6 => ?_) (fun c6 => ?_)
            · have h := ok_t c6 h
              exact Vsub [] rfl (w_X12_isSignOf_42 hL C  h)
            · have h := ok_f c6 h
              refine Viload_n C 0 (dAt D_X12_isSignOf 18 rfl) rfl rfl ?_
              refine Vbipush (x := 45) C (dAt D_X12_isSignOf 19 rfl) (by decide) ?_
              refine Vicmp_ne (tgt := 46) C (dAt D_X12_isSignOf 20 rfl) (by decide) (fun c7 => ?_) (fun c7 => ?_)
              · have h := ok_f c7 h
                refine Viconst (x := 0) C (dAt D_X12_isSignOf 23 rfl) (by decide) ?_
                cases h
                exact Vzret C (dAt D_X12_isSignOf 24 rfl) rfl (by decide) (by decide) ⟨rfl, rfl, rfl⟩
              · have h := ok_t c7 h
                exact Vsub [] rfl (w_X12_isSignOf_42 hL C  h)
def F_X12_can (f : Nat) (x1 : Int32) (u : MT) : Option (Int32 × MT) :=
  ck (ixo x1 12) <|
  if (gI u 201 (x1).toNatClampNeg) ≤ 0 then
    some ((0 : Int32), u)
  else
    if (gI u 202 (x1).toNatClampNeg) ≤ 0 then
      some ((0 : Int32), u)
    else
      some ((1 : Int32), u)
theorem m_X12_can {g : GT} {w : LT} (hL : Lay w) {x1 : Int32} {f : Nat} {u : MT} {r : (Int32 × MT)} (h : F_X12_can f x1 u = some r) : Mt g yX12_can cX12_can 2 (some .boolean) 0 0 0 [.ref 167, .int x1] w u (Qi r.1 w r.2) := by
  refine Mt_of (own := RX12) (by decide +kernel) rfl (Nat.le_of_ble_eq_true rfl) (fun z C _ => ?_)
  show V z g 2 0 [(0, .ref 167), (1, .int x1)] [] w u 0 0 (Qi r.1 w r.2)
  rw [F_X12_can] at h
  refine Vaload_n C 0 (dAt D_X12_can 0 rfl) rfl rfl ?_
  refine VgetP C (dAt D_X12_can 1 rfl) gf_X12_172 (kt_167 hL) rfl (kp_167_52 hL) ?_
  refine Viload_n C 1 (dAt D_X12_can 2 rfl) rfl rfl ?_
  obtain ⟨c1, h⟩ := ok_ck h
  refine Viald C (dAt D_X12_can 3 rfl) (kt_201 hL) (kl_201 hL) (vp_in_iff.mpr c1) ?_
  refine Vif_le (tgt := 22) C (dAt D_X12_can 4 rfl) (by decide) (fun c2 => ?_) (fun c2 => ?_)
  · have h := ok_t c2 h
    refine Viconst (x := 0) C (dAt D_X12_can 12 rfl) (by decide) ?_
    cases h
    exact Vzret C (dAt D_X12_can 13 rfl) rfl (by decide) (by decide) ⟨rfl, rfl, rfl⟩
  · have h := ok_f c2 h
    refine Vaload_n C 0 (dAt D_X12_can 5 rfl) rfl rfl ?_
    refine VgetP C (dAt D_X12_can 6 rfl) gf_X12_175 (kt_167 hL) rfl (kp_167_53 hL) ?_
    refine Viload_n C 1 (dAt D_X12_can 7 rfl) rfl rfl ?_
    refine Viald C (dAt D_X12_can 8 rfl) (kt_202 hL) (kl_202 hL) (vp_in_iff.mpr c1) ?_
    refine Vif_le (tgt := 22) C (dAt D_X12_can 9 rfl) (by decide) (fun c3 => ?_) (fun c3 => ?_)
    · have h := ok_t c3 h
      refine Viconst (x := 0) C (dAt D_X12_can 12 rfl) (by decide) ?_
      cases h
      exact Vzret C (dAt D_X12_can 13 rfl) rfl (by decide) (by decide) ⟨rfl, rfl, rfl⟩
    · have h := ok_f c3 h
      refine Viconst (x := 1) C (dAt D_X12_can 10 rfl) (by decide) ?_
      refine Vgoto (tgt := 23) C (dAt D_X12_can 11 rfl) (by decide) ?_
      cases h
      exact Vzret C (dAt D_X12_can 13 rfl) rfl (by decide) (by decide) ⟨rfl, rfl, rfl⟩
def F_X12_least (f : Nat) (x0 : Int32) (x1 : Int32) (u : MT) : Option (Int32 × MT) :=
  if x1 ≤ x0 then
    some (x1, u)
  else
    some (x0, u)
theorem m_X12_least {g : GT} {w : LT} (hL : Lay w) {x0 : Int32} {x1 : Int32} {f : Nat} {u : MT} {r : (Int32 × MT)} (h : F_X12_least f x0 x1 u = some r) : Mt g yX12_least cX12_least 2 (some .int) 0 0 0 [.int x0, .int x1] w u (Qi r.1 w r.2) := by
  refine Mt_of (own := RX12) (by decide +kernel) rfl (Nat.le_of_ble_eq_true rfl) (fun z C _ => ?_)
  show V z g 2 0 [(0, .int x0), (1, .int x1)] [] w u 0 0 (Qi r.1 w r.2)
  rw [F_X12_least] at h
  refine Viload_n C 0 (dAt D_X12_least 0 rfl) rfl rfl ?_
  refine Viload_n C 1 (dAt D_X12_least 1 rfl) rfl rfl ?_
  refine Vicmp_ge (tgt := 9) C (dAt D_X12_least 2 rfl) (by decide) (fun c1 => ?_) (fun c1 => ?_)
  · have h := ok_t c1 h
    refine Viload_n C 1 (dAt D_X12_least 5 rfl) rfl rfl ?_
    cases h
    exact Viret C (dAt D_X12_least 6 rfl) (by decide) (by decide) ⟨rfl, rfl, rfl⟩
  · have h := ok_f c1 h
    refine Viload_n C 0 (dAt D_X12_least 3 rfl) rfl rfl ?_
    refine Vgoto (tgt := 10) C (dAt D_X12_least 4 rfl) (by decide) ?_
    cases h
    exact Viret C (dAt D_X12_least 6 rfl) (by decide) (by decide) ⟨rfl, rfl, rfl⟩
def F_X12_hands (f : Nat) (x1 : Int32) (x2 : Int32) (x3 : Int32) (x4 : Int32) (u : MT) : Option MT :=
  ck (ixo x3 12) <|
  let u2 := sI u 201 (x3).toNatClampNeg ((gI u 201 (x3).toNatClampNeg) - x4)
  let u3 := sI u2 202 (x3).toNatClampNeg ((gI u2 202 (x3).toNatClampNeg) - x4)
  let u4 := sI u3 207 (x3).toNatClampNeg ((gI u3 207 (x3).toNatClampNeg) + x4)
  ck (ixo (((13 : Int32) * x1) + x3) 312) <|
  let u6 := sI u4 209 ((((13 : Int32) * x1) + x3)).toNatClampNeg ((gI u4 209 ((((13 : Int32) * x1) + x3)).toNatClampNeg) + x4)
  ck (ixo x2 192) <|
  if (gI u6 178 (x2).toNatClampNeg) = 0 then
    let u9 := sI u6 204 (x3).toNatClampNeg ((gI u6 204 (x3).toNatClampNeg) + x4)
    let u10 := sI u9 167 46 ((gI u9 167 46) - x4)
    some u10
  else
    let u11 := sI u6 205 (x3).toNatClampNeg ((gI u6 205 (x3).toNatClampNeg) + x4)
    let u12 := sI u11 167 45 ((gI u11 167 45) - x4)
    some u12
theorem m_X12_hands {g : GT} {w : LT} (hL : Lay w) {x1 : Int32} {x2 : Int32} {x3 : Int32} {x4 : Int32} {f : Nat} {u : MT} {r : MT} (h : F_X12_hands f x1 x2 x3 x4 u = some r) : Mt g yX12_hands cX12_hands 5 none 0 0 0 [.ref 167, .int x1, .int x2, .int x3, .int x4] w u (Qv w r) := by
  refine Mt_of (own := RX12) (by decide +kernel) rfl (Nat.le_of_ble_eq_true rfl) (fun z C _ => ?_)
  show V z g 5 0 [(0, .ref 167), (1, .int x1), (2, .int x2), (3, .int x3), (4, .int x4)] [] w u 0 0 (Qv w r)
  rw [F_X12_hands] at h
  refine Vaload_n C 0 (dAt D_X12_hands 0 rfl) rfl rfl ?_
  refine VgetP C (dAt D_X12_hands 1 rfl) gf_X12_172 (kt_167 hL) rfl (kp_167_52 hL) ?_
  refine Viload_n C 3 (dAt D_X12_hands 2 rfl) rfl rfl ?_
  refine Vdup2 C (dAt D_X12_hands 3 rfl) rfl rfl ?_
  obtain ⟨c1, h⟩ := ok_ck h
  refine Viald C (dAt D_X12_hands 4 rfl) (kt_201 hL) (kl_201 hL) (vp_in_iff.mpr c1) ?_
  refine Viload C 4 (dAt D_X12_hands 5 rfl) rfl ?_
  refine Visub C (dAt D_X12_hands 6 rfl) ?_
  refine Viast C (dAt D_X12_hands 7 rfl) (kt_201 hL) (kl_201 hL) (vp_in_iff.mpr c1) ?_
  refine Vaload_n C 0 (dAt D_X12_hands 8 rfl) rfl rfl ?_
  refine VgetP C (dAt D_X12_hands 9 rfl) gf_X12_175 (kt_167 hL) rfl (kp_167_53 hL) ?_
  refine Viload_n C 3 (dAt D_X12_hands 10 rfl) rfl rfl ?_
  refine Vdup2 C (dAt D_X12_hands 11 rfl) rfl rfl ?_
  refine Viald C (dAt D_X12_hands 12 rfl) (kt_202 hL) (kl_202 hL) (vp_in_iff.mpr c1) ?_
  refine Viload C 4 (dAt D_X12_hands 13 rfl) rfl ?_
  refine Visub C (dAt D_X12_hands 14 rfl) ?_
  refine Viast C (dAt D_X12_hands 15 rfl) (kt_202 hL) (kl_202 hL) (vp_in_iff.mpr c1) ?_
  refine Vaload_n C 0 (dAt D_X12_hands 16 rfl) rfl rfl ?_
  refine VgetP C (dAt D_X12_hands 17 rfl) gf_X12_190 (kt_167 hL) rfl (kp_167_58 hL) ?_
  refine Viload_n C 3 (dAt D_X12_hands 18 rfl) rfl rfl ?_
  refine Vdup2 C (dAt D_X12_hands 19 rfl) rfl rfl ?_
  refine Viald C (dAt D_X12_hands 20 rfl) (kt_207 hL) (kl_207 hL) (vp_in_iff.mpr c1) ?_
  refine Viload C 4 (dAt D_X12_hands 21 rfl) rfl ?_
  refine Viadd C (dAt D_X12_hands 22 rfl) ?_
  refine Viast C (dAt D_X12_hands 23 rfl) (kt_207 hL) (kl_207 hL) (vp_in_iff.mpr c1) ?_
  refine Vaload_n C 0 (dAt D_X12_hands 24 rfl) rfl rfl ?_
  refine VgetP C (dAt D_X12_hands 25 rfl) gf_X12_196 (kt_167 hL) rfl (kp_167_67 hL) ?_
  refine Vbipush (x := 13) C (dAt D_X12_hands 26 rfl) (by decide) ?_
  refine Viload_n C 1 (dAt D_X12_hands 27 rfl) rfl rfl ?_
  refine Vimul C (dAt D_X12_hands 28 rfl) ?_
  refine Viload_n C 3 (dAt D_X12_hands 29 rfl) rfl rfl ?_
  refine Viadd C (dAt D_X12_hands 30 rfl) ?_
  refine Vdup2 C (dAt D_X12_hands 31 rfl) rfl rfl ?_
  obtain ⟨c5, h⟩ := ok_ck h
  refine Viald C (dAt D_X12_hands 32 rfl) (kt_209 hL) (kl_209 hL) (vp_in_iff.mpr c5) ?_
  refine Viload C 4 (dAt D_X12_hands 33 rfl) rfl ?_
  refine Viadd C (dAt D_X12_hands 34 rfl) ?_
  refine Viast C (dAt D_X12_hands 35 rfl) (kt_209 hL) (kl_209 hL) (vp_in_iff.mpr c5) ?_
  refine Vaload_n C 0 (dAt D_X12_hands 36 rfl) rfl rfl ?_
  refine VgetP C (dAt D_X12_hands 37 rfl) gf_X12_100 (kt_167 hL) rfl (kp_167_15 hL) ?_
  refine Viload_n C 2 (dAt D_X12_hands 38 rfl) rfl rfl ?_
  obtain ⟨c7, h⟩ := ok_ck h
  refine Viald C (dAt D_X12_hands 39 rfl) (kt_178 hL) (kl_178 hL) (vp_in_iff.mpr c7) ?_
  refine Vif_ne (tgt := 83) C (dAt D_X12_hands 40 rfl) (by decide) (fun c8 => ?_) (fun c8 => ?_)
  · have h := ok_f c8 h
    refine Vaload_n C 0 (dAt D_X12_hands 56 rfl) rfl rfl ?_
    refine VgetP C (dAt D_X12_hands 57 rfl) gf_X12_184 (kt_167 hL) rfl (kp_167_56 hL) ?_
    refine Viload_n C 3 (dAt D_X12_hands 58 rfl) rfl rfl ?_
    refine Vdup2 C (dAt D_X12_hands 59 rfl) rfl rfl ?_
    refine Viald C (dAt D_X12_hands 60 rfl) (kt_205 hL) (kl_205 hL) (vp_in_iff.mpr c1) ?_
    refine Viload C 4 (dAt D_X12_hands 61 rfl) rfl ?_
    refine Viadd C (dAt D_X12_hands 62 rfl) ?_
    refine Viast C (dAt D_X12_hands 63 rfl) (kt_205 hL) (kl_205 hL) (vp_in_iff.mpr c1) ?_
    refine Vaload_n C 0 (dAt D_X12_hands 64 rfl) rfl rfl ?_
    refine Vdup C (dAt D_X12_hands 65 rfl) rfl ?_
    refine VgetI C (dAt D_X12_hands 66 rfl) gf_X12_350 (kt_167 hL) rfl ?_
    refine Viload C 4 (dAt D_X12_hands 67 rfl) rfl ?_
    refine Visub C (dAt D_X12_hands 68 rfl) ?_
    refine VputI C (dAt D_X12_hands 69 rfl) gf_X12_350 (kt_167 hL) rfl rfl rfl rfl ?_
    cases h
    exact Vvret C (dAt D_X12_hands 70 rfl) (by decide) (by decide) ⟨rfl, rfl, rfl⟩
  · have h := ok_t c8 h
    refine Vaload_n C 0 (dAt D_X12_hands 41 rfl) rfl rfl ?_
    refine VgetP C (dAt D_X12_hands 42 rfl) gf_X12_181 (kt_167 hL) rfl (kp_167_55 hL) ?_
    refine Viload_n C 3 (dAt D_X12_hands 43 rfl) rfl rfl ?_
    refine Vdup2 C (dAt D_X12_hands 44 rfl) rfl rfl ?_
    refine Viald C (dAt D_X12_hands 45 rfl) (kt_204 hL) (kl_204 hL) (vp_in_iff.mpr c1) ?_
    refine Viload C 4 (dAt D_X12_hands 46 rfl) rfl ?_
    refine Viadd C (dAt D_X12_hands 47 rfl) ?_
    refine Viast C (dAt D_X12_hands 48 rfl) (kt_204 hL) (kl_204 hL) (vp_in_iff.mpr c1) ?_
    refine Vaload_n C 0 (dAt D_X12_hands 49 rfl) rfl rfl ?_
    refine Vdup C (dAt D_X12_hands 50 rfl) rfl ?_
    refine VgetI C (dAt D_X12_hands 51 rfl) gf_X12_369 (kt_167 hL) rfl ?_
    refine Viload C 4 (dAt D_X12_hands 52 rfl) rfl ?_
    refine Visub C (dAt D_X12_hands 53 rfl) ?_
    refine VputI C (dAt D_X12_hands 54 rfl) gf_X12_369 (kt_167 hL) rfl rfl rfl rfl ?_
    refine Vgoto (tgt := 105) C (dAt D_X12_hands 55 rfl) (by decide) ?_
    cases h
    exact Vvret C (dAt D_X12_hands 70 rfl) (by decide) (by decide) ⟨rfl, rfl, rfl⟩
def B_X12_partOf_55 (f : Nat) : Nat → Int32 → Int32 → MT → Option (Int32 × MT)
  | 0, _, _, _ => none
  | n + 1, x2, x3, u =>
    if (gI u 167 31) ≤ x3 then
      some (x2, u)
    else
      ck (ixo x3 12) <|
      let v7 := (x2 + (gI u 201 (x3).toNatClampNeg))
      let v8 := x3 + 1
      B_X12_partOf_55 f n v7 v8 u
theorem w_X12_partOf_55 {z : ZT} {g : GT} {w : LT} (hL : Lay w) (C : Cx z g cX12_partOf 4 RX12 (some .int) 0 0 0) {f : Nat} {r : (Int32 × MT)} : ∀ (n : Nat) (x2 : Int32) (x3 : Int32) (u : MT), B_X12_partOf_55 f n x2 x3 u = some r → V z g 4 55 [(0, .ref 167), (2, .int x2), (3, .int x3)] [] w u 0 0 (Qi r.1 w r.2) := by
  intro n
  induction n with
  | zero =>
    intro x2 x3 u h
    rw [B_X12_partOf_55] at h
    cases h
  | succ n ih =>
    intro x2 x3 u h
    rw [B_X12_partOf_55] at h
    refine Viload_n C 2 (dAt D_X12_partOf 31 rfl) rfl rfl ?_
    refine Vaload_n C 0 (dAt D_X12_partOf 32 rfl) rfl rfl ?_
    refine VgetI C (dAt D_X12_partOf 33 rfl) gf_X12_300 (kt_167 hL) rfl ?_
    refine Vicmp_ge (tgt := 78) C (dAt D_X12_partOf 34 rfl) (by decide) (fun c5 => ?_) (fun c5 => ?_)
    · have h := ok_t c5 h
      refine Viload_n C 1 (dAt D_X12_partOf 44 rfl) rfl rfl ?_
      cases h
      exact Viret C (dAt D_X12_partOf 45 rfl) (by decide) (by decide) ⟨rfl, rfl, rfl⟩
    · have h := ok_f c5 h
      refine Viload_n C 1 (dAt D_X12_partOf 35 rfl) rfl rfl ?_
      refine Vaload_n C 0 (dAt D_X12_partOf 36 rfl) rfl rfl ?_
      refine VgetP C (dAt D_X12_partOf 37 rfl) gf_X12_172 (kt_167 hL) rfl (kp_167_52 hL) ?_
      refine Viload_n C 2 (dAt D_X12_partOf 38 rfl) rfl rfl ?_
      obtain ⟨c6, h⟩ := ok_ck h
      refine Viald C (dAt D_X12_partOf 39 rfl) (kt_201 hL) (kl_201 hL) (vp_in_iff.mpr c6) ?_
      refine Viadd C (dAt D_X12_partOf 40 rfl) ?_
      refine Vistore_n (lv' := [(2, _), (0, _), (3, _)]) C (dAt D_X12_partOf 41 rfl) rfl (by decide) rfl ?_
      refine Viinc (j := 2) (v := _ + 1) (lv' := [(3, _), (2, _), (0, _)]) C (dAt D_X12_partOf 42 rfl) rfl rfl (by decide) rfl ?_
      refine Vgoto (tgt := 55) C (dAt D_X12_partOf 43 rfl) (by decide) ?_
      exact Vsub [2, 1, 0] rfl (ih _ _ _  h)
def F_X12_partOf (f : Nat) (x1 : Int32) (u : MT) : Option (Int32 × MT) :=
  if (4 : Int32) ≤ x1 then
    B_X12_partOf_55 f f (0 : Int32) (0 : Int32) u
  else
    if x1 = 0 then
      some (((gI u 167 43) - (gI u 167 43) / (24 : Int32) * (24 : Int32)), u)
    else
      if x1 = (1 : Int32) then
        some (((gI u 167 43) / (24 : Int32)), u)
      else
        if x1 = (2 : Int32) then
          some ((gI u 167 46), u)
        else
          some ((gI u 167 45), u)
theorem m_X12_partOf {g : GT} {w : LT} (hL : Lay w) {x1 : Int32} {f : Nat} {u : MT} {r : (Int32 × MT)} (h : F_X12_partOf f x1 u = some r) : Mt g yX12_partOf cX12_partOf 4 (some .int) 0 0 0 [.ref 167, .int x1] w u (Qi r.1 w r.2) := by
  refine Mt_of (own := RX12) (by decide +kernel) rfl (Nat.le_of_ble_eq_true rfl) (fun z C _ => ?_)
  show V z g 4 0 [(0, .ref 167), (1, .int x1)] [] w u 0 0 (Qi r.1 w r.2)
  rw [F_X12_partOf] at h
  refine Viload_n C 1 (dAt D_X12_partOf 0 rfl) rfl rfl ?_
  refine Viconst (x := 4) C (dAt D_X12_partOf 1 rfl) (by decide) ?_
  refine Vicmp_ge (tgt := 51) C (dAt D_X12_partOf 2 rfl) (by decide) (fun c1 => ?_) (fun c1 => ?_)
  · have h := ok_t c1 h
    refine Viconst (x := 0) C (dAt D_X12_partOf 27 rfl) (by decide) ?_
    refine Vistore_n (lv' := [(2, _), (0, _), (1, _)]) C (dAt D_X12_partOf 28 rfl) rfl (by decide) rfl ?_
    refine Viconst (x := 0) C (dAt D_X12_partOf 29 rfl) (by decide) ?_
    refine Vistore_n (lv' := [(3, _), (2, _), (0, _), (1, _)]) C (dAt D_X12_partOf 30 rfl) rfl (by decide) rfl ?_
    exact Vsub [2, 1, 0] rfl (w_X12_partOf_55 hL C  f _ _ _  h)
  · have h := ok_f c1 h
    refine Viload_n C 1 (dAt D_X12_partOf 3 rfl) rfl rfl ?_
    refine Vif_ne (tgt := 19) C (dAt D_X12_partOf 4 rfl) (by decide) (fun c2 => ?_) (fun c2 => ?_)
    · have h := ok_f c2 h
      refine Viload_n C 1 (dAt D_X12_partOf 10 rfl) rfl rfl ?_
      refine Viconst (x := 1) C (dAt D_X12_partOf 11 rfl) (by decide) ?_
      refine Vicmp_ne (tgt := 34) C (dAt D_X12_partOf 12 rfl) (by decide) (fun c3 => ?_) (fun c3 => ?_)
      · have h := ok_f c3 h
        refine Viload_n C 1 (dAt D_X12_partOf 18 rfl) rfl rfl ?_
        refine Viconst (x := 2) C (dAt D_X12_partOf 19 rfl) (by decide) ?_
        refine Vicmp_ne (tgt := 46) C (dAt D_X12_partOf 20 rfl) (by decide) (fun c4 => ?_) (fun c4 => ?_)
        · have h := ok_f c4 h
          refine Vaload_n C 0 (dAt D_X12_partOf 24 rfl) rfl rfl ?_
          refine VgetI C (dAt D_X12_partOf 25 rfl) gf_X12_350 (kt_167 hL) rfl ?_
          cases h
          exact Viret C (dAt D_X12_partOf 26 rfl) (by decide) (by decide) ⟨rfl, rfl, rfl⟩
        · have h := ok_t c4 h
          refine Vaload_n C 0 (dAt D_X12_partOf 21 rfl) rfl rfl ?_
          refine VgetI C (dAt D_X12_partOf 22 rfl) gf_X12_369 (kt_167 hL) rfl ?_
          refine Vgoto (tgt := 50) C (dAt D_X12_partOf 23 rfl) (by decide) ?_
          cases h
          exact Viret C (dAt D_X12_partOf 26 rfl) (by decide) (by decide) ⟨rfl, rfl, rfl⟩
      · have h := ok_t c3 h
        refine Vaload_n C 0 (dAt D_X12_partOf 13 rfl) rfl rfl ?_
        refine VgetI C (dAt D_X12_partOf 14 rfl) gf_X12_353 (kt_167 hL) rfl ?_
        refine Vbipush (x := 24) C (dAt D_X12_partOf 15 rfl) (by decide) ?_
        refine Vidiv C (dAt D_X12_partOf 16 rfl) (by decide) ?_
        refine Vgoto (tgt := 50) C (dAt D_X12_partOf 17 rfl) (by decide) ?_
        cases h
        exact Viret C (dAt D_X12_partOf 26 rfl) (by decide) (by decide) ⟨rfl, rfl, rfl⟩
    · have h := ok_t c2 h
      refine Vaload_n C 0 (dAt D_X12_partOf 5 rfl) rfl rfl ?_
      refine VgetI C (dAt D_X12_partOf 6 rfl) gf_X12_353 (kt_167 hL) rfl ?_
      refine Vbipush (x := 24) C (dAt D_X12_partOf 7 rfl) (by decide) ?_
      refine Virem C (dAt D_X12_partOf 8 rfl) (by decide) ?_
      refine Vgoto (tgt := 50) C (dAt D_X12_partOf 9 rfl) (by decide) ?_
      cases h
      exact Viret C (dAt D_X12_partOf 26 rfl) (by decide) (by decide) ⟨rfl, rfl, rfl⟩
end
