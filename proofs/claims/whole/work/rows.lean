section
/-- a private method of a class that the tables say can be made, by its rows of tables_1 -/
def lw_okq (q : MethodName × Nat) : Prop := (q.1.cls ≠ "java/lang/invoke/MethodHandle" ∧ q.1.cls ≠ "java/lang/invoke/VarHandle") ∧ Cond.instantiable q.1.cls q.2 ∈ tables_1 ∧ Cond.privateMethod q.1 ∈ tables_1 ∧ Cond.instanceMethod q.1 ∈ tables_1
theorem lw_p0 : lw_okq (⟨"SunVillage$Reader", "scan", "(LSunVillage$Tape;)V"⟩, 8) := ⟨⟨by decide +kernel, by decide +kernel⟩, List.mem_of_getElem? (i := 106) (by decide +kernel), List.mem_of_getElem? (i := 470) (by decide +kernel), List.mem_of_getElem? (i := 471) (by decide +kernel)⟩
theorem lw_p1 : lw_okq (⟨"SunVillage$Reader", "scanToken", "(LSunVillage$Tape;II)V"⟩, 8) := ⟨⟨by decide +kernel, by decide +kernel⟩, List.mem_of_getElem? (i := 106) (by decide +kernel), List.mem_of_getElem? (i := 486) (by decide +kernel), List.mem_of_getElem? (i := 487) (by decide +kernel)⟩
theorem lw_p2 : lw_okq (⟨"SunVillage$Token", "isSpelled", "(LSunVillage$Tape;II)Z"⟩, 5) := ⟨⟨by decide +kernel, by decide +kernel⟩, List.mem_of_getElem? (i := 498) (by decide +kernel), List.mem_of_getElem? (i := 496) (by decide +kernel), List.mem_of_getElem? (i := 497) (by decide +kernel)⟩
theorem lw_p3 : lw_okq (⟨"SunVillage$Reader", "takeRule", "()Z"⟩, 8) := ⟨⟨by decide +kernel, by decide +kernel⟩, List.mem_of_getElem? (i := 106) (by decide +kernel), List.mem_of_getElem? (i := 562) (by decide +kernel), List.mem_of_getElem? (i := 563) (by decide +kernel)⟩
theorem lw_p4 : lw_okq (⟨"SunVillage$Reader", "refuse", "(I)Z"⟩, 8) := ⟨⟨by decide +kernel, by decide +kernel⟩, List.mem_of_getElem? (i := 106) (by decide +kernel), List.mem_of_getElem? (i := 578) (by decide +kernel), List.mem_of_getElem? (i := 579) (by decide +kernel)⟩
theorem lw_p5 : lw_okq (⟨"SunVillage$Reader", "step", "()V"⟩, 8) := ⟨⟨by decide +kernel, by decide +kernel⟩, List.mem_of_getElem? (i := 106) (by decide +kernel), List.mem_of_getElem? (i := 583) (by decide +kernel), List.mem_of_getElem? (i := 584) (by decide +kernel)⟩
theorem lw_p6 : lw_okq (⟨"SunVillage$Reader", "takeExpression", "(I)Z"⟩, 8) := ⟨⟨by decide +kernel, by decide +kernel⟩, List.mem_of_getElem? (i := 106) (by decide +kernel), List.mem_of_getElem? (i := 587) (by decide +kernel), List.mem_of_getElem? (i := 588) (by decide +kernel)⟩
theorem lw_p7 : lw_okq (⟨"SunVillage$Reader", "takePart", "(I)Z"⟩, 8) := ⟨⟨by decide +kernel, by decide +kernel⟩, List.mem_of_getElem? (i := 106) (by decide +kernel), List.mem_of_getElem? (i := 591) (by decide +kernel), List.mem_of_getElem? (i := 592) (by decide +kernel)⟩
theorem lw_p8 : lw_okq (⟨"SunVillage$Reader", "take", "(LSunVillage$Token;)Z"⟩, 8) := ⟨⟨by decide +kernel, by decide +kernel⟩, List.mem_of_getElem? (i := 106) (by decide +kernel), List.mem_of_getElem? (i := 611) (by decide +kernel), List.mem_of_getElem? (i := 612) (by decide +kernel)⟩
theorem lw_p9 : lw_okq (⟨"SunVillage$Reader", "takeAct", "(LSunVillage$Rule;)Z"⟩, 8) := ⟨⟨by decide +kernel, by decide +kernel⟩, List.mem_of_getElem? (i := 106) (by decide +kernel), List.mem_of_getElem? (i := 628) (by decide +kernel), List.mem_of_getElem? (i := 629) (by decide +kernel)⟩
theorem lw_p10 : lw_okq (⟨"SunVillage$Reader", "takeOneOf", "(LSunVillage$Token;LSunVillage$Token;LSunVillage$Token;)LSunVillage$Token;"⟩, 8) := ⟨⟨by decide +kernel, by decide +kernel⟩, List.mem_of_getElem? (i := 106) (by decide +kernel), List.mem_of_getElem? (i := 635) (by decide +kernel), List.mem_of_getElem? (i := 636) (by decide +kernel)⟩
theorem lw_p11 : lw_okq (⟨"SunVillage$Reader", "takePrice", "(LSunVillage$Rule;)Z"⟩, 8) := ⟨⟨by decide +kernel, by decide +kernel⟩, List.mem_of_getElem? (i := 106) (by decide +kernel), List.mem_of_getElem? (i := 639) (by decide +kernel), List.mem_of_getElem? (i := 640) (by decide +kernel)⟩
theorem lw_p12 : lw_okq (⟨"SunVillage$Reader", "takeNumber", "(LSunVillage$Rule;II)Z"⟩, 8) := ⟨⟨by decide +kernel, by decide +kernel⟩, List.mem_of_getElem? (i := 106) (by decide +kernel), List.mem_of_getElem? (i := 655) (by decide +kernel), List.mem_of_getElem? (i := 656) (by decide +kernel)⟩
theorem lw_p13 : lw_okq (⟨"SunVillage$Reader", "takeWays", "(LSunVillage$Rule;)Z"⟩, 8) := ⟨⟨by decide +kernel, by decide +kernel⟩, List.mem_of_getElem? (i := 106) (by decide +kernel), List.mem_of_getElem? (i := 662) (by decide +kernel), List.mem_of_getElem? (i := 663) (by decide +kernel)⟩
theorem lw_p14 : lw_okq (⟨"SunVillage$Reader", "takeWhom", "(LSunVillage$Rule;)Z"⟩, 8) := ⟨⟨by decide +kernel, by decide +kernel⟩, List.mem_of_getElem? (i := 106) (by decide +kernel), List.mem_of_getElem? (i := 672) (by decide +kernel), List.mem_of_getElem? (i := 673) (by decide +kernel)⟩
theorem lw_p15 : lw_okq (⟨"SunVillage$Reader", "takeRest", "()Z"⟩, 8) := ⟨⟨by decide +kernel, by decide +kernel⟩, List.mem_of_getElem? (i := 106) (by decide +kernel), List.mem_of_getElem? (i := 690) (by decide +kernel), List.mem_of_getElem? (i := 691) (by decide +kernel)⟩
def lw_privs_1 : List (MethodName × Nat) := [(⟨"SunVillage$Reader", "scan", "(LSunVillage$Tape;)V"⟩, 8), (⟨"SunVillage$Reader", "scanToken", "(LSunVillage$Tape;II)V"⟩, 8), (⟨"SunVillage$Token", "isSpelled", "(LSunVillage$Tape;II)Z"⟩, 5), (⟨"SunVillage$Reader", "takeRule", "()Z"⟩, 8), (⟨"SunVillage$Reader", "refuse", "(I)Z"⟩, 8), (⟨"SunVillage$Reader", "step", "()V"⟩, 8), (⟨"SunVillage$Reader", "takeExpression", "(I)Z"⟩, 8), (⟨"SunVillage$Reader", "takePart", "(I)Z"⟩, 8), (⟨"SunVillage$Reader", "take", "(LSunVillage$Token;)Z"⟩, 8), (⟨"SunVillage$Reader", "takeAct", "(LSunVillage$Rule;)Z"⟩, 8), (⟨"SunVillage$Reader", "takeOneOf", "(LSunVillage$Token;LSunVillage$Token;LSunVillage$Token;)LSunVillage$Token;"⟩, 8), (⟨"SunVillage$Reader", "takePrice", "(LSunVillage$Rule;)Z"⟩, 8), (⟨"SunVillage$Reader", "takeNumber", "(LSunVillage$Rule;II)Z"⟩, 8), (⟨"SunVillage$Reader", "takeWays", "(LSunVillage$Rule;)Z"⟩, 8), (⟨"SunVillage$Reader", "takeWhom", "(LSunVillage$Rule;)Z"⟩, 8), (⟨"SunVillage$Reader", "takeRest", "()Z"⟩, 8)]
theorem lw_r1 : ∀ q ∈ lw_privs_1, lw_okq q := List.forall_mem_cons.mpr ⟨lw_p0, List.forall_mem_cons.mpr ⟨lw_p1, List.forall_mem_cons.mpr ⟨lw_p2, List.forall_mem_cons.mpr ⟨lw_p3, List.forall_mem_cons.mpr ⟨lw_p4, List.forall_mem_cons.mpr ⟨lw_p5, List.forall_mem_cons.mpr ⟨lw_p6, List.forall_mem_cons.mpr ⟨lw_p7, List.forall_mem_cons.mpr ⟨lw_p8, List.forall_mem_cons.mpr ⟨lw_p9, List.forall_mem_cons.mpr ⟨lw_p10, List.forall_mem_cons.mpr ⟨lw_p11, List.forall_mem_cons.mpr ⟨lw_p12, List.forall_mem_cons.mpr ⟨lw_p13, List.forall_mem_cons.mpr ⟨lw_p14, List.forall_mem_cons.mpr ⟨lw_p15, fun _ h => absurd h List.not_mem_nil⟩⟩⟩⟩⟩⟩⟩⟩⟩⟩⟩⟩⟩⟩⟩⟩
theorem lw_p16 : lw_okq (⟨"SunVillage", "dayOfLooks", "()I"⟩, 13) := ⟨⟨by decide +kernel, by decide +kernel⟩, List.mem_of_getElem? (i := 26) (by decide +kernel), List.mem_of_getElem? (i := 721) (by decide +kernel), List.mem_of_getElem? (i := 722) (by decide +kernel)⟩
theorem lw_p17 : lw_okq (⟨"SunVillage$Book", "turnTo", "(I)V"⟩, 11) := ⟨⟨by decide +kernel, by decide +kernel⟩, List.mem_of_getElem? (i := 233) (by decide +kernel), List.mem_of_getElem? (i := 734) (by decide +kernel), List.mem_of_getElem? (i := 735) (by decide +kernel)⟩
theorem lw_p18 : lw_okq (⟨"SunVillage$Book", "placeReadings", "(I)V"⟩, 11) := ⟨⟨by decide +kernel, by decide +kernel⟩, List.mem_of_getElem? (i := 233) (by decide +kernel), List.mem_of_getElem? (i := 752) (by decide +kernel), List.mem_of_getElem? (i := 753) (by decide +kernel)⟩
theorem lw_p19 : lw_okq (⟨"SunVillage$Book", "bringIn", "(II)V"⟩, 11) := ⟨⟨by decide +kernel, by decide +kernel⟩, List.mem_of_getElem? (i := 233) (by decide +kernel), List.mem_of_getElem? (i := 772) (by decide +kernel), List.mem_of_getElem? (i := 773) (by decide +kernel)⟩
theorem lw_p20 : lw_okq (⟨"SunVillage$Book", "wants", "(I)I"⟩, 11) := ⟨⟨by decide +kernel, by decide +kernel⟩, List.mem_of_getElem? (i := 233) (by decide +kernel), List.mem_of_getElem? (i := 776) (by decide +kernel), List.mem_of_getElem? (i := 777) (by decide +kernel)⟩
theorem lw_p21 : lw_okq (⟨"SunVillage$Book", "gives", "(I)I"⟩, 11) := ⟨⟨by decide +kernel, by decide +kernel⟩, List.mem_of_getElem? (i := 233) (by decide +kernel), List.mem_of_getElem? (i := 780) (by decide +kernel), List.mem_of_getElem? (i := 781) (by decide +kernel)⟩
theorem lw_p22 : lw_okq (⟨"SunVillage$Work", "value", "(LSunVillage$Text;II)I"⟩, 20) := ⟨⟨by decide +kernel, by decide +kernel⟩, List.mem_of_getElem? (i := 139) (by decide +kernel), List.mem_of_getElem? (i := 794) (by decide +kernel), List.mem_of_getElem? (i := 795) (by decide +kernel)⟩
theorem lw_p23 : lw_okq (⟨"SunVillage$Work", "measured", "(I)I"⟩, 20) := ⟨⟨by decide +kernel, by decide +kernel⟩, List.mem_of_getElem? (i := 139) (by decide +kernel), List.mem_of_getElem? (i := 805) (by decide +kernel), List.mem_of_getElem? (i := 806) (by decide +kernel)⟩
theorem lw_p24 : lw_okq (⟨"SunVillage$Work", "wantOfAll", "()I"⟩, 20) := ⟨⟨by decide +kernel, by decide +kernel⟩, List.mem_of_getElem? (i := 139) (by decide +kernel), List.mem_of_getElem? (i := 815) (by decide +kernel), List.mem_of_getElem? (i := 816) (by decide +kernel)⟩
theorem lw_p25 : lw_okq (⟨"SunVillage$Work", "amount", "(LSunVillage$Text;LSunVillage$Rule;I)I"⟩, 20) := ⟨⟨by decide +kernel, by decide +kernel⟩, List.mem_of_getElem? (i := 139) (by decide +kernel), List.mem_of_getElem? (i := 821) (by decide +kernel), List.mem_of_getElem? (i := 822) (by decide +kernel)⟩
theorem lw_p26 : lw_okq (⟨"SunVillage$Work", "fill", "(II)V"⟩, 20) := ⟨⟨by decide +kernel, by decide +kernel⟩, List.mem_of_getElem? (i := 139) (by decide +kernel), List.mem_of_getElem? (i := 826) (by decide +kernel), List.mem_of_getElem? (i := 827) (by decide +kernel)⟩
theorem lw_p27 : lw_okq (⟨"SunVillage$Work", "give", "(LSunVillage$Text;II)V"⟩, 20) := ⟨⟨by decide +kernel, by decide +kernel⟩, List.mem_of_getElem? (i := 139) (by decide +kernel), List.mem_of_getElem? (i := 830) (by decide +kernel), List.mem_of_getElem? (i := 831) (by decide +kernel)⟩
theorem lw_p28 : lw_okq (⟨"SunVillage$Work", "choose", "(LSunVillage$Rule;)V"⟩, 20) := ⟨⟨by decide +kernel, by decide +kernel⟩, List.mem_of_getElem? (i := 139) (by decide +kernel), List.mem_of_getElem? (i := 834) (by decide +kernel), List.mem_of_getElem? (i := 835) (by decide +kernel)⟩
theorem lw_p29 : lw_okq (⟨"SunVillage$Work", "room", "(I)I"⟩, 20) := ⟨⟨by decide +kernel, by decide +kernel⟩, List.mem_of_getElem? (i := 139) (by decide +kernel), List.mem_of_getElem? (i := 838) (by decide +kernel), List.mem_of_getElem? (i := 839) (by decide +kernel)⟩
theorem lw_p30 : lw_okq (⟨"SunVillage$Work", "keepLeast", "(I)V"⟩, 20) := ⟨⟨by decide +kernel, by decide +kernel⟩, List.mem_of_getElem? (i := 139) (by decide +kernel), List.mem_of_getElem? (i := 844) (by decide +kernel), List.mem_of_getElem? (i := 845) (by decide +kernel)⟩
theorem lw_p31 : lw_okq (⟨"SunVillage$Work", "chosenAhead", "(I)I"⟩, 20) := ⟨⟨by decide +kernel, by decide +kernel⟩, List.mem_of_getElem? (i := 139) (by decide +kernel), List.mem_of_getElem? (i := 848) (by decide +kernel), List.mem_of_getElem? (i := 849) (by decide +kernel)⟩
def lw_privs_2 : List (MethodName × Nat) := [(⟨"SunVillage", "dayOfLooks", "()I"⟩, 13), (⟨"SunVillage$Book", "turnTo", "(I)V"⟩, 11), (⟨"SunVillage$Book", "placeReadings", "(I)V"⟩, 11), (⟨"SunVillage$Book", "bringIn", "(II)V"⟩, 11), (⟨"SunVillage$Book", "wants", "(I)I"⟩, 11), (⟨"SunVillage$Book", "gives", "(I)I"⟩, 11), (⟨"SunVillage$Work", "value", "(LSunVillage$Text;II)I"⟩, 20), (⟨"SunVillage$Work", "measured", "(I)I"⟩, 20), (⟨"SunVillage$Work", "wantOfAll", "()I"⟩, 20), (⟨"SunVillage$Work", "amount", "(LSunVillage$Text;LSunVillage$Rule;I)I"⟩, 20), (⟨"SunVillage$Work", "fill", "(II)V"⟩, 20), (⟨"SunVillage$Work", "give", "(LSunVillage$Text;II)V"⟩, 20), (⟨"SunVillage$Work", "choose", "(LSunVillage$Rule;)V"⟩, 20), (⟨"SunVillage$Work", "room", "(I)I"⟩, 20), (⟨"SunVillage$Work", "keepLeast", "(I)V"⟩, 20), (⟨"SunVillage$Work", "chosenAhead", "(I)I"⟩, 20)]
theorem lw_r2 : ∀ q ∈ lw_privs_2, lw_okq q := List.forall_mem_cons.mpr ⟨lw_p16, List.forall_mem_cons.mpr ⟨lw_p17, List.forall_mem_cons.mpr ⟨lw_p18, List.forall_mem_cons.mpr ⟨lw_p19, List.forall_mem_cons.mpr ⟨lw_p20, List.forall_mem_cons.mpr ⟨lw_p21, List.forall_mem_cons.mpr ⟨lw_p22, List.forall_mem_cons.mpr ⟨lw_p23, List.forall_mem_cons.mpr ⟨lw_p24, List.forall_mem_cons.mpr ⟨lw_p25, List.forall_mem_cons.mpr ⟨lw_p26, List.forall_mem_cons.mpr ⟨lw_p27, List.forall_mem_cons.mpr ⟨lw_p28, List.forall_mem_cons.mpr ⟨lw_p29, List.forall_mem_cons.mpr ⟨lw_p30, List.forall_mem_cons.mpr ⟨lw_p31, fun _ h => absurd h List.not_mem_nil⟩⟩⟩⟩⟩⟩⟩⟩⟩⟩⟩⟩⟩⟩⟩⟩
theorem lw_p32 : lw_okq (⟨"SunVillage$Work", "weigh", "(LSunVillage$Token;)J"⟩, 20) := ⟨⟨by decide +kernel, by decide +kernel⟩, List.mem_of_getElem? (i := 139) (by decide +kernel), List.mem_of_getElem? (i := 852) (by decide +kernel), List.mem_of_getElem? (i := 853) (by decide +kernel)⟩
theorem lw_p33 : lw_okq (⟨"SunVillage$Work", "hand", "(LSunVillage$Rule;III)V"⟩, 20) := ⟨⟨by decide +kernel, by decide +kernel⟩, List.mem_of_getElem? (i := 139) (by decide +kernel), List.mem_of_getElem? (i := 861) (by decide +kernel), List.mem_of_getElem? (i := 862) (by decide +kernel)⟩
theorem lw_p34 : lw_okq (⟨"SunVillage$Work", "handRest", "(LSunVillage$Text;II)V"⟩, 20) := ⟨⟨by decide +kernel, by decide +kernel⟩, List.mem_of_getElem? (i := 139) (by decide +kernel), List.mem_of_getElem? (i := 865) (by decide +kernel), List.mem_of_getElem? (i := 866) (by decide +kernel)⟩
theorem lw_p35 : lw_okq (⟨"SunVillage$Work", "sortByWant", "()V"⟩, 20) := ⟨⟨by decide +kernel, by decide +kernel⟩, List.mem_of_getElem? (i := 139) (by decide +kernel), List.mem_of_getElem? (i := 870) (by decide +kernel), List.mem_of_getElem? (i := 871) (by decide +kernel)⟩
theorem lw_p36 : lw_okq (⟨"SunVillage$Work", "handOnes", "(LSunVillage$Rule;IIII)I"⟩, 20) := ⟨⟨by decide +kernel, by decide +kernel⟩, List.mem_of_getElem? (i := 139) (by decide +kernel), List.mem_of_getElem? (i := 875) (by decide +kernel), List.mem_of_getElem? (i := 876) (by decide +kernel)⟩
theorem lw_p37 : lw_okq (⟨"SunVillage$Book", "write", "(I)V"⟩, 11) := ⟨⟨by decide +kernel, by decide +kernel⟩, List.mem_of_getElem? (i := 233) (by decide +kernel), List.mem_of_getElem? (i := 883) (by decide +kernel), List.mem_of_getElem? (i := 884) (by decide +kernel)⟩
theorem lw_p38 : lw_okq (⟨"SunVillage$Book", "coins", "(II)I"⟩, 11) := ⟨⟨by decide +kernel, by decide +kernel⟩, List.mem_of_getElem? (i := 233) (by decide +kernel), List.mem_of_getElem? (i := 907) (by decide +kernel), List.mem_of_getElem? (i := 908) (by decide +kernel)⟩
theorem lw_p39 : lw_okq (⟨"SunVillage$Book", "own", "(I)I"⟩, 11) := ⟨⟨by decide +kernel, by decide +kernel⟩, List.mem_of_getElem? (i := 233) (by decide +kernel), List.mem_of_getElem? (i := 911) (by decide +kernel), List.mem_of_getElem? (i := 912) (by decide +kernel)⟩
theorem lw_p40 : lw_okq (⟨"SunVillage$Book", "bought", "(II)I"⟩, 11) := ⟨⟨by decide +kernel, by decide +kernel⟩, List.mem_of_getElem? (i := 233) (by decide +kernel), List.mem_of_getElem? (i := 915) (by decide +kernel), List.mem_of_getElem? (i := 916) (by decide +kernel)⟩
theorem lw_p41 : lw_okq (⟨"SunVillage$Book", "lacked", "(I)I"⟩, 11) := ⟨⟨by decide +kernel, by decide +kernel⟩, List.mem_of_getElem? (i := 233) (by decide +kernel), List.mem_of_getElem? (i := 919) (by decide +kernel), List.mem_of_getElem? (i := 920) (by decide +kernel)⟩
theorem lw_p42 : lw_okq (⟨"java/lang/Throwable", "fillInStackTrace", "(I)Ljava/lang/Throwable;"⟩, 6) := ⟨⟨by decide +kernel, by decide +kernel⟩, List.mem_of_getElem? (i := 985) (by decide +kernel), List.mem_of_getElem? (i := 983) (by decide +kernel), List.mem_of_getElem? (i := 984) (by decide +kernel)⟩
theorem lw_p43 : lw_okq (⟨"SunVillage$Book", "isInDoubt", "(II)Z"⟩, 11) := ⟨⟨by decide +kernel, by decide +kernel⟩, List.mem_of_getElem? (i := 233) (by decide +kernel), List.mem_of_getElem? (i := 1014) (by decide +kernel), List.mem_of_getElem? (i := 1015) (by decide +kernel)⟩
theorem lw_p44 : lw_okq (⟨"SunVillageModel", "lay", "(J)V"⟩, 75) := ⟨⟨by decide +kernel, by decide +kernel⟩, List.mem_of_getElem? (i := 1044) (by decide +kernel), List.mem_of_getElem? (i := 1042) (by decide +kernel), List.mem_of_getElem? (i := 1043) (by decide +kernel)⟩
theorem lw_p45 : lw_okq (⟨"SunVillageModel", "readText", "()V"⟩, 75) := ⟨⟨by decide +kernel, by decide +kernel⟩, List.mem_of_getElem? (i := 1044) (by decide +kernel), List.mem_of_getElem? (i := 1308) (by decide +kernel), List.mem_of_getElem? (i := 1309) (by decide +kernel)⟩
theorem lw_p46 : lw_okq (⟨"SunVillageModel", "cutAll", "()V"⟩, 75) := ⟨⟨by decide +kernel, by decide +kernel⟩, List.mem_of_getElem? (i := 1044) (by decide +kernel), List.mem_of_getElem? (i := 1312) (by decide +kernel), List.mem_of_getElem? (i := 1313) (by decide +kernel)⟩
theorem lw_p47 : lw_okq (⟨"SunVillageModel", "isWord", "(I)Z"⟩, 75) := ⟨⟨by decide +kernel, by decide +kernel⟩, List.mem_of_getElem? (i := 1044) (by decide +kernel), List.mem_of_getElem? (i := 1331) (by decide +kernel), List.mem_of_getElem? (i := 1332) (by decide +kernel)⟩
def lw_privs_3 : List (MethodName × Nat) := [(⟨"SunVillage$Work", "weigh", "(LSunVillage$Token;)J"⟩, 20), (⟨"SunVillage$Work", "hand", "(LSunVillage$Rule;III)V"⟩, 20), (⟨"SunVillage$Work", "handRest", "(LSunVillage$Text;II)V"⟩, 20), (⟨"SunVillage$Work", "sortByWant", "()V"⟩, 20), (⟨"SunVillage$Work", "handOnes", "(LSunVillage$Rule;IIII)I"⟩, 20), (⟨"SunVillage$Book", "write", "(I)V"⟩, 11), (⟨"SunVillage$Book", "coins", "(II)I"⟩, 11), (⟨"SunVillage$Book", "own", "(I)I"⟩, 11), (⟨"SunVillage$Book", "bought", "(II)I"⟩, 11), (⟨"SunVillage$Book", "lacked", "(I)I"⟩, 11), (⟨"java/lang/Throwable", "fillInStackTrace", "(I)Ljava/lang/Throwable;"⟩, 6), (⟨"SunVillage$Book", "isInDoubt", "(II)Z"⟩, 11), (⟨"SunVillageModel", "lay", "(J)V"⟩, 75), (⟨"SunVillageModel", "readText", "()V"⟩, 75), (⟨"SunVillageModel", "cutAll", "()V"⟩, 75), (⟨"SunVillageModel", "isWord", "(I)Z"⟩, 75)]
theorem lw_r3 : ∀ q ∈ lw_privs_3, lw_okq q := List.forall_mem_cons.mpr ⟨lw_p32, List.forall_mem_cons.mpr ⟨lw_p33, List.forall_mem_cons.mpr ⟨lw_p34, List.forall_mem_cons.mpr ⟨lw_p35, List.forall_mem_cons.mpr ⟨lw_p36, List.forall_mem_cons.mpr ⟨lw_p37, List.forall_mem_cons.mpr ⟨lw_p38, List.forall_mem_cons.mpr ⟨lw_p39, List.forall_mem_cons.mpr ⟨lw_p40, List.forall_mem_cons.mpr ⟨lw_p41, List.forall_mem_cons.mpr ⟨lw_p42, List.forall_mem_cons.mpr ⟨lw_p43, List.forall_mem_cons.mpr ⟨lw_p44, List.forall_mem_cons.mpr ⟨lw_p45, List.forall_mem_cons.mpr ⟨lw_p46, List.forall_mem_cons.mpr ⟨lw_p47, fun _ h => absurd h List.not_mem_nil⟩⟩⟩⟩⟩⟩⟩⟩⟩⟩⟩⟩⟩⟩⟩⟩
theorem lw_p48 : lw_okq (⟨"SunVillageModel", "readRule", "()V"⟩, 75) := ⟨⟨by decide +kernel, by decide +kernel⟩, List.mem_of_getElem? (i := 1044) (by decide +kernel), List.mem_of_getElem? (i := 1335) (by decide +kernel), List.mem_of_getElem? (i := 1336) (by decide +kernel)⟩
theorem lw_p49 : lw_okq (⟨"SunVillageModel", "isRule", "()Z"⟩, 75) := ⟨⟨by decide +kernel, by decide +kernel⟩, List.mem_of_getElem? (i := 1044) (by decide +kernel), List.mem_of_getElem? (i := 1339) (by decide +kernel), List.mem_of_getElem? (i := 1340) (by decide +kernel)⟩
theorem lw_p50 : lw_okq (⟨"SunVillageModel", "wrong", "(I)V"⟩, 75) := ⟨⟨by decide +kernel, by decide +kernel⟩, List.mem_of_getElem? (i := 1044) (by decide +kernel), List.mem_of_getElem? (i := 1343) (by decide +kernel), List.mem_of_getElem? (i := 1344) (by decide +kernel)⟩
theorem lw_p51 : lw_okq (⟨"SunVillageModel", "hasWord", "(I)Z"⟩, 75) := ⟨⟨by decide +kernel, by decide +kernel⟩, List.mem_of_getElem? (i := 1044) (by decide +kernel), List.mem_of_getElem? (i := 1347) (by decide +kernel), List.mem_of_getElem? (i := 1348) (by decide +kernel)⟩
theorem lw_p52 : lw_okq (⟨"SunVillageModel", "code", "()I"⟩, 75) := ⟨⟨by decide +kernel, by decide +kernel⟩, List.mem_of_getElem? (i := 1044) (by decide +kernel), List.mem_of_getElem? (i := 1351) (by decide +kernel), List.mem_of_getElem? (i := 1352) (by decide +kernel)⟩
theorem lw_p53 : lw_okq (⟨"SunVillageModel", "expression", "()V"⟩, 75) := ⟨⟨by decide +kernel, by decide +kernel⟩, List.mem_of_getElem? (i := 1044) (by decide +kernel), List.mem_of_getElem? (i := 1355) (by decide +kernel), List.mem_of_getElem? (i := 1356) (by decide +kernel)⟩
theorem lw_p54 : lw_okq (⟨"SunVillageModel", "opens", "()V"⟩, 75) := ⟨⟨by decide +kernel, by decide +kernel⟩, List.mem_of_getElem? (i := 1044) (by decide +kernel), List.mem_of_getElem? (i := 1359) (by decide +kernel), List.mem_of_getElem? (i := 1360) (by decide +kernel)⟩
theorem lw_p55 : lw_okq (⟨"SunVillageModel", "part", "()Z"⟩, 75) := ⟨⟨by decide +kernel, by decide +kernel⟩, List.mem_of_getElem? (i := 1044) (by decide +kernel), List.mem_of_getElem? (i := 1363) (by decide +kernel), List.mem_of_getElem? (i := 1364) (by decide +kernel)⟩
theorem lw_p56 : lw_okq (⟨"SunVillageModel", "isPart", "()Z"⟩, 75) := ⟨⟨by decide +kernel, by decide +kernel⟩, List.mem_of_getElem? (i := 1044) (by decide +kernel), List.mem_of_getElem? (i := 1367) (by decide +kernel), List.mem_of_getElem? (i := 1368) (by decide +kernel)⟩
theorem lw_p57 : lw_okq (⟨"SunVillageModel", "isSign", "(I)Z"⟩, 75) := ⟨⟨by decide +kernel, by decide +kernel⟩, List.mem_of_getElem? (i := 1044) (by decide +kernel), List.mem_of_getElem? (i := 1371) (by decide +kernel), List.mem_of_getElem? (i := 1372) (by decide +kernel)⟩
theorem lw_p58 : lw_okq (⟨"SunVillageModel", "emit", "(II)V"⟩, 75) := ⟨⟨by decide +kernel, by decide +kernel⟩, List.mem_of_getElem? (i := 1044) (by decide +kernel), List.mem_of_getElem? (i := 1375) (by decide +kernel), List.mem_of_getElem? (i := 1376) (by decide +kernel)⟩
theorem lw_p59 : lw_okq (⟨"SunVillageModel", "hasSign", "(I)Z"⟩, 75) := ⟨⟨by decide +kernel, by decide +kernel⟩, List.mem_of_getElem? (i := 1044) (by decide +kernel), List.mem_of_getElem? (i := 1379) (by decide +kernel), List.mem_of_getElem? (i := 1380) (by decide +kernel)⟩
theorem lw_p60 : lw_okq (⟨"SunVillageModel", "takeWord", "(I)V"⟩, 75) := ⟨⟨by decide +kernel, by decide +kernel⟩, List.mem_of_getElem? (i := 1044) (by decide +kernel), List.mem_of_getElem? (i := 1383) (by decide +kernel), List.mem_of_getElem? (i := 1384) (by decide +kernel)⟩
theorem lw_p61 : lw_okq (⟨"SunVillageModel", "goesOn", "()Z"⟩, 75) := ⟨⟨by decide +kernel, by decide +kernel⟩, List.mem_of_getElem? (i := 1044) (by decide +kernel), List.mem_of_getElem? (i := 1387) (by decide +kernel), List.mem_of_getElem? (i := 1388) (by decide +kernel)⟩
theorem lw_p62 : lw_okq (⟨"SunVillageModel", "takeSign", "(I)V"⟩, 75) := ⟨⟨by decide +kernel, by decide +kernel⟩, List.mem_of_getElem? (i := 1044) (by decide +kernel), List.mem_of_getElem? (i := 1391) (by decide +kernel), List.mem_of_getElem? (i := 1392) (by decide +kernel)⟩
theorem lw_p63 : lw_okq (⟨"SunVillageModel", "readAmount", "(I)V"⟩, 75) := ⟨⟨by decide +kernel, by decide +kernel⟩, List.mem_of_getElem? (i := 1044) (by decide +kernel), List.mem_of_getElem? (i := 1395) (by decide +kernel), List.mem_of_getElem? (i := 1396) (by decide +kernel)⟩
def lw_privs_4 : List (MethodName × Nat) := [(⟨"SunVillageModel", "readRule", "()V"⟩, 75), (⟨"SunVillageModel", "isRule", "()Z"⟩, 75), (⟨"SunVillageModel", "wrong", "(I)V"⟩, 75), (⟨"SunVillageModel", "hasWord", "(I)Z"⟩, 75), (⟨"SunVillageModel", "code", "()I"⟩, 75), (⟨"SunVillageModel", "expression", "()V"⟩, 75), (⟨"SunVillageModel", "opens", "()V"⟩, 75), (⟨"SunVillageModel", "part", "()Z"⟩, 75), (⟨"SunVillageModel", "isPart", "()Z"⟩, 75), (⟨"SunVillageModel", "isSign", "(I)Z"⟩, 75), (⟨"SunVillageModel", "emit", "(II)V"⟩, 75), (⟨"SunVillageModel", "hasSign", "(I)Z"⟩, 75), (⟨"SunVillageModel", "takeWord", "(I)V"⟩, 75), (⟨"SunVillageModel", "goesOn", "()Z"⟩, 75), (⟨"SunVillageModel", "takeSign", "(I)V"⟩, 75), (⟨"SunVillageModel", "readAmount", "(I)V"⟩, 75)]
theorem lw_r4 : ∀ q ∈ lw_privs_4, lw_okq q := List.forall_mem_cons.mpr ⟨lw_p48, List.forall_mem_cons.mpr ⟨lw_p49, List.forall_mem_cons.mpr ⟨lw_p50, List.forall_mem_cons.mpr ⟨lw_p51, List.forall_mem_cons.mpr ⟨lw_p52, List.forall_mem_cons.mpr ⟨lw_p53, List.forall_mem_cons.mpr ⟨lw_p54, List.forall_mem_cons.mpr ⟨lw_p55, List.forall_mem_cons.mpr ⟨lw_p56, List.forall_mem_cons.mpr ⟨lw_p57, List.forall_mem_cons.mpr ⟨lw_p58, List.forall_mem_cons.mpr ⟨lw_p59, List.forall_mem_cons.mpr ⟨lw_p60, List.forall_mem_cons.mpr ⟨lw_p61, List.forall_mem_cons.mpr ⟨lw_p62, List.forall_mem_cons.mpr ⟨lw_p63, fun _ h => absurd h List.not_mem_nil⟩⟩⟩⟩⟩⟩⟩⟩⟩⟩⟩⟩⟩⟩⟩⟩
theorem lw_p64 : lw_okq (⟨"SunVillageModel", "oneOf", "(II)I"⟩, 75) := ⟨⟨by decide +kernel, by decide +kernel⟩, List.mem_of_getElem? (i := 1044) (by decide +kernel), List.mem_of_getElem? (i := 1399) (by decide +kernel), List.mem_of_getElem? (i := 1400) (by decide +kernel)⟩
theorem lw_p65 : lw_okq (⟨"SunVillageModel", "readWhom", "(I)V"⟩, 75) := ⟨⟨by decide +kernel, by decide +kernel⟩, List.mem_of_getElem? (i := 1044) (by decide +kernel), List.mem_of_getElem? (i := 1403) (by decide +kernel), List.mem_of_getElem? (i := 1404) (by decide +kernel)⟩
theorem lw_p66 : lw_okq (⟨"SunVillageModel", "takeNumber", "(II)I"⟩, 75) := ⟨⟨by decide +kernel, by decide +kernel⟩, List.mem_of_getElem? (i := 1044) (by decide +kernel), List.mem_of_getElem? (i := 1407) (by decide +kernel), List.mem_of_getElem? (i := 1408) (by decide +kernel)⟩
theorem lw_p67 : lw_okq (⟨"SunVillageModel", "keep", "(I)V"⟩, 75) := ⟨⟨by decide +kernel, by decide +kernel⟩, List.mem_of_getElem? (i := 1044) (by decide +kernel), List.mem_of_getElem? (i := 1411) (by decide +kernel), List.mem_of_getElem? (i := 1412) (by decide +kernel)⟩
theorem lw_p68 : lw_okq (⟨"SunVillageModel", "lookDay", "()I"⟩, 75) := ⟨⟨by decide +kernel, by decide +kernel⟩, List.mem_of_getElem? (i := 1044) (by decide +kernel), List.mem_of_getElem? (i := 1439) (by decide +kernel), List.mem_of_getElem? (i := 1440) (by decide +kernel)⟩
theorem lw_p69 : lw_okq (⟨"SunVillageModel", "works", "(IIZ)V"⟩, 75) := ⟨⟨by decide +kernel, by decide +kernel⟩, List.mem_of_getElem? (i := 1044) (by decide +kernel), List.mem_of_getElem? (i := 1443) (by decide +kernel), List.mem_of_getElem? (i := 1444) (by decide +kernel)⟩
theorem lw_p70 : lw_okq (⟨"SunVillageModel", "quarterBegins", "(Z)V"⟩, 75) := ⟨⟨by decide +kernel, by decide +kernel⟩, List.mem_of_getElem? (i := 1044) (by decide +kernel), List.mem_of_getElem? (i := 1447) (by decide +kernel), List.mem_of_getElem? (i := 1448) (by decide +kernel)⟩
theorem lw_p71 : lw_okq (⟨"SunVillageModel", "rule", "(I)V"⟩, 75) := ⟨⟨by decide +kernel, by decide +kernel⟩, List.mem_of_getElem? (i := 1044) (by decide +kernel), List.mem_of_getElem? (i := 1451) (by decide +kernel), List.mem_of_getElem? (i := 1452) (by decide +kernel)⟩
theorem lw_p72 : lw_okq (⟨"SunVillageModel", "worth", "(I)I"⟩, 75) := ⟨⟨by decide +kernel, by decide +kernel⟩, List.mem_of_getElem? (i := 1044) (by decide +kernel), List.mem_of_getElem? (i := 1455) (by decide +kernel), List.mem_of_getElem? (i := 1456) (by decide +kernel)⟩
theorem lw_p73 : lw_okq (⟨"SunVillageModel", "partOf", "(I)I"⟩, 75) := ⟨⟨by decide +kernel, by decide +kernel⟩, List.mem_of_getElem? (i := 1044) (by decide +kernel), List.mem_of_getElem? (i := 1459) (by decide +kernel), List.mem_of_getElem? (i := 1460) (by decide +kernel)⟩
theorem lw_p74 : lw_okq (⟨"SunVillageModel", "givesBy", "(II)V"⟩, 75) := ⟨⟨by decide +kernel, by decide +kernel⟩, List.mem_of_getElem? (i := 1044) (by decide +kernel), List.mem_of_getElem? (i := 1463) (by decide +kernel), List.mem_of_getElem? (i := 1464) (by decide +kernel)⟩
theorem lw_p75 : lw_okq (⟨"SunVillageModel", "chooses", "(I)I"⟩, 75) := ⟨⟨by decide +kernel, by decide +kernel⟩, List.mem_of_getElem? (i := 1044) (by decide +kernel), List.mem_of_getElem? (i := 1467) (by decide +kernel), List.mem_of_getElem? (i := 1468) (by decide +kernel)⟩
theorem lw_p76 : lw_okq (⟨"SunVillageModel", "can", "(I)Z"⟩, 75) := ⟨⟨by decide +kernel, by decide +kernel⟩, List.mem_of_getElem? (i := 1044) (by decide +kernel), List.mem_of_getElem? (i := 1471) (by decide +kernel), List.mem_of_getElem? (i := 1472) (by decide +kernel)⟩
theorem lw_p77 : lw_okq (⟨"SunVillageModel", "hands", "(IIII)V"⟩, 75) := ⟨⟨by decide +kernel, by decide +kernel⟩, List.mem_of_getElem? (i := 1044) (by decide +kernel), List.mem_of_getElem? (i := 1478) (by decide +kernel), List.mem_of_getElem? (i := 1479) (by decide +kernel)⟩
theorem lw_p78 : lw_okq (⟨"SunVillageModel", "oneByOne", "(III)V"⟩, 75) := ⟨⟨by decide +kernel, by decide +kernel⟩, List.mem_of_getElem? (i := 1044) (by decide +kernel), List.mem_of_getElem? (i := 1482) (by decide +kernel), List.mem_of_getElem? (i := 1483) (by decide +kernel)⟩
theorem lw_p79 : lw_okq (⟨"SunVillageModel", "nextOf", "()I"⟩, 75) := ⟨⟨by decide +kernel, by decide +kernel⟩, List.mem_of_getElem? (i := 1044) (by decide +kernel), List.mem_of_getElem? (i := 1486) (by decide +kernel), List.mem_of_getElem? (i := 1487) (by decide +kernel)⟩
def lw_privs_5 : List (MethodName × Nat) := [(⟨"SunVillageModel", "oneOf", "(II)I"⟩, 75), (⟨"SunVillageModel", "readWhom", "(I)V"⟩, 75), (⟨"SunVillageModel", "takeNumber", "(II)I"⟩, 75), (⟨"SunVillageModel", "keep", "(I)V"⟩, 75), (⟨"SunVillageModel", "lookDay", "()I"⟩, 75), (⟨"SunVillageModel", "works", "(IIZ)V"⟩, 75), (⟨"SunVillageModel", "quarterBegins", "(Z)V"⟩, 75), (⟨"SunVillageModel", "rule", "(I)V"⟩, 75), (⟨"SunVillageModel", "worth", "(I)I"⟩, 75), (⟨"SunVillageModel", "partOf", "(I)I"⟩, 75), (⟨"SunVillageModel", "givesBy", "(II)V"⟩, 75), (⟨"SunVillageModel", "chooses", "(I)I"⟩, 75), (⟨"SunVillageModel", "can", "(I)Z"⟩, 75), (⟨"SunVillageModel", "hands", "(IIII)V"⟩, 75), (⟨"SunVillageModel", "oneByOne", "(III)V"⟩, 75), (⟨"SunVillageModel", "nextOf", "()I"⟩, 75)]
theorem lw_r5 : ∀ q ∈ lw_privs_5, lw_okq q := List.forall_mem_cons.mpr ⟨lw_p64, List.forall_mem_cons.mpr ⟨lw_p65, List.forall_mem_cons.mpr ⟨lw_p66, List.forall_mem_cons.mpr ⟨lw_p67, List.forall_mem_cons.mpr ⟨lw_p68, List.forall_mem_cons.mpr ⟨lw_p69, List.forall_mem_cons.mpr ⟨lw_p70, List.forall_mem_cons.mpr ⟨lw_p71, List.forall_mem_cons.mpr ⟨lw_p72, List.forall_mem_cons.mpr ⟨lw_p73, List.forall_mem_cons.mpr ⟨lw_p74, List.forall_mem_cons.mpr ⟨lw_p75, List.forall_mem_cons.mpr ⟨lw_p76, List.forall_mem_cons.mpr ⟨lw_p77, List.forall_mem_cons.mpr ⟨lw_p78, List.forall_mem_cons.mpr ⟨lw_p79, fun _ h => absurd h List.not_mem_nil⟩⟩⟩⟩⟩⟩⟩⟩⟩⟩⟩⟩⟩⟩⟩⟩
theorem lw_p80 : lw_okq (⟨"SunVillageModel", "quarterEnds", "()V"⟩, 75) := ⟨⟨by decide +kernel, by decide +kernel⟩, List.mem_of_getElem? (i := 1044) (by decide +kernel), List.mem_of_getElem? (i := 1490) (by decide +kernel), List.mem_of_getElem? (i := 1491) (by decide +kernel)⟩
def lw_privs_6 : List (MethodName × Nat) := [(⟨"SunVillageModel", "quarterEnds", "()V"⟩, 75)]
theorem lw_r6 : ∀ q ∈ lw_privs_6, lw_okq q := List.forall_mem_cons.mpr ⟨lw_p80, fun _ h => absurd h List.not_mem_nil⟩
def lw_privs : List (MethodName × Nat) := lw_privs_1 ++ (lw_privs_2 ++ (lw_privs_3 ++ (lw_privs_4 ++ (lw_privs_5 ++ (lw_privs_6)))))
def lw_tbl : List Cond := k2_sels lw_privs ++ tables_1
theorem lw_privs_ok : ∀ q ∈ lw_privs, lw_okq q := by
  show ∀ q ∈ lw_privs_1 ++ (lw_privs_2 ++ (lw_privs_3 ++ (lw_privs_4 ++ (lw_privs_5 ++ (lw_privs_6))))), lw_okq q
  exact List.forall_mem_append.mpr ⟨lw_r1, List.forall_mem_append.mpr ⟨lw_r2, List.forall_mem_append.mpr ⟨lw_r3, List.forall_mem_append.mpr ⟨lw_r4, List.forall_mem_append.mpr ⟨lw_r5, lw_r6⟩⟩⟩⟩⟩
/-! ===== BEGIN printed: names, fields, word lists, decode rows ===== -/
def RX0 : String := "SunVillage$Bills"
def TX0 : u_T := fun k => match k with
  | 0 => ("SunVillage$Bills", "coins", "[I", true)
  | _ => ("SunVillage$Bills", "days", "I", false)
def tyX0 : Nat → FieldType := fun k => match k with
  | 0 => .array .int
  | _ => .int
abbrev wsX00 : List Cond := u_ws RX0 TX0 2
theorem nmX0 : ∀ a, a < 2 → ∀ b, b < 2 → a ≠ b → (TX0 a).2.1 ≠ (TX0 b).2.1 := by decide +kernel
theorem tyX0_ok : ∀ k, k < 2 → parseFieldDescriptor (TX0 k).2.2.1 = some (tyX0 k) := by decide +kernel
abbrev cX0_init : ByteArray := prog_2_method_1_code
def yX0_init : MethodName := ⟨RX0, "<init>", "()V"⟩
abbrev cX0_slot : ByteArray := prog_2_method_2_code
def yX0_slot : MethodName := ⟨RX0, "slot", "(II)I"⟩
abbrev cX0_write : ByteArray := prog_2_method_3_code
def yX0_write : MethodName := ⟨RX0, "write", "(II)V"⟩
def RX1 : String := "SunVillage$Book"
def TX1 : u_T := fun k => match k with
  | 0 => ("SunVillage$Book", "houses", "LSunVillage$Houses;", true)
  | 1 => ("SunVillage$Book", "readings", "LSunVillage$Readings;", true)
  | 2 => ("SunVillage$Book", "texts", "LSunVillage$Texts;", true)
  | 3 => ("SunVillage$Book", "work", "LSunVillage$Work;", true)
  | 4 => ("SunVillage$Book", "asKnown", "I", false)
  | 5 => ("SunVillage$Book", "worked", "I", false)
  | 6 => ("SunVillage$Book", "reading", "[I", true)
  | 7 => ("SunVillage$Book", "fromPool", "[I", true)
  | 8 => ("SunVillage$Book", "fromStore", "[I", true)
  | 9 => ("SunVillage$Book", "hadThatDay", "[I", true)
  | _ => ("SunVillage$Book", "sums", "[I", true)
def tyX1 : Nat → FieldType := fun k => match k with
  | 0 => .object "SunVillage$Houses"
  | 1 => .object "SunVillage$Readings"
  | 2 => .object "SunVillage$Texts"
  | 3 => .object "SunVillage$Work"
  | 4 => .int
  | 5 => .int
  | 6 => .array .int
  | 7 => .array .int
  | 8 => .array .int
  | 9 => .array .int
  | _ => .array .int
abbrev wsX10 : List Cond := u_ws RX1 TX1 11
theorem nmX1 : ∀ a, a < 11 → ∀ b, b < 11 → a ≠ b → (TX1 a).2.1 ≠ (TX1 b).2.1 := by decide +kernel
theorem tyX1_ok : ∀ k, k < 11 → parseFieldDescriptor (TX1 k).2.2.1 = some (tyX1 k) := by decide +kernel
abbrev cX1_init : ByteArray := prog_3_method_1_code
def yX1_init : MethodName := ⟨RX1, "<init>", "(LSunVillage$Houses;LSunVillage$Readings;LSunVillage$Texts;LSunVillage$Work;)V"⟩
abbrev cX1_forgetFrom : ByteArray := prog_3_method_2_code
def yX1_forgetFrom : MethodName := ⟨RX1, "forgetFrom", "(I)V"⟩
abbrev cX1_workTo : ByteArray := prog_3_method_3_code
def yX1_workTo : MethodName := ⟨RX1, "workTo", "(II)V"⟩
abbrev cX1_turnTo : ByteArray := prog_3_method_4_code
def yX1_turnTo : MethodName := ⟨RX1, "turnTo", "(I)V"⟩
abbrev cX1_placeReadings : ByteArray := prog_3_method_5_code
def yX1_placeReadings : MethodName := ⟨RX1, "placeReadings", "(I)V"⟩
abbrev cX1_workAgain : ByteArray := prog_3_method_6_code
def yX1_workAgain : MethodName := ⟨RX1, "workAgain", "(II)V"⟩
abbrev cX1_bringIn : ByteArray := prog_3_method_7_code
def yX1_bringIn : MethodName := ⟨RX1, "bringIn", "(II)V"⟩
abbrev cX1_write : ByteArray := prog_3_method_8_code
def yX1_write : MethodName := ⟨RX1, "write", "(I)V"⟩
abbrev cX1_cell : ByteArray := prog_3_method_9_code
def yX1_cell : MethodName := ⟨RX1, "cell", "(II)I"⟩
abbrev cX1_sum : ByteArray := prog_3_method_10_code
def yX1_sum : MethodName := ⟨RX1, "sum", "(II)I"⟩
abbrev cX1_ofHouse : ByteArray := prog_3_method_11_code
def yX1_ofHouse : MethodName := ⟨RX1, "ofHouse", "(III)I"⟩
abbrev cX1_byRules : ByteArray := prog_3_method_12_code
def yX1_byRules : MethodName := ⟨RX1, "byRules", "(II)I"⟩
abbrev cX1_wants : ByteArray := prog_3_method_13_code
def yX1_wants : MethodName := ⟨RX1, "wants", "(I)I"⟩
abbrev cX1_gives : ByteArray := prog_3_method_14_code
def yX1_gives : MethodName := ⟨RX1, "gives", "(I)I"⟩
abbrev cX1_own : ByteArray := prog_3_method_15_code
def yX1_own : MethodName := ⟨RX1, "own", "(I)I"⟩
abbrev cX1_isInDoubt : ByteArray := prog_3_method_16_code
def yX1_isInDoubt : MethodName := ⟨RX1, "isInDoubt", "(II)Z"⟩
abbrev cX1_lacked : ByteArray := prog_3_method_17_code
def yX1_lacked : MethodName := ⟨RX1, "lacked", "(I)I"⟩
abbrev cX1_bought : ByteArray := prog_3_method_18_code
def yX1_bought : MethodName := ⟨RX1, "bought", "(II)I"⟩
abbrev cX1_coins : ByteArray := prog_3_method_19_code
def yX1_coins : MethodName := ⟨RX1, "coins", "(II)I"⟩
abbrev cX1_coinsUpTo : ByteArray := prog_3_method_20_code
def yX1_coinsUpTo : MethodName := ⟨RX1, "coinsUpTo", "(II)I"⟩
def RX2 : String := "SunVillage$Houses"
def TX2 : u_T := fun k => match k with
  | 0 => ("SunVillage$Houses", "share", "[I", true)
  | 1 => ("SunVillage$Houses", "bears", "[I", true)
  | _ => ("SunVillage$Houses", "size", "I", false)
def tyX2 : Nat → FieldType := fun k => match k with
  | 0 => .array .int
  | 1 => .array .int
  | _ => .int
abbrev wsX20 : List Cond := u_ws RX2 TX2 3
theorem nmX2 : ∀ a, a < 3 → ∀ b, b < 3 → a ≠ b → (TX2 a).2.1 ≠ (TX2 b).2.1 := by decide +kernel
theorem tyX2_ok : ∀ k, k < 3 → parseFieldDescriptor (TX2 k).2.2.1 = some (tyX2 k) := by decide +kernel
abbrev cX2_init : ByteArray := prog_4_method_1_code
def yX2_init : MethodName := ⟨RX2, "<init>", "()V"⟩
abbrev cX2_has : ByteArray := prog_4_method_2_code
def yX2_has : MethodName := ⟨RX2, "has", "(I)Z"⟩
abbrev cX2_add : ByteArray := prog_4_method_3_code
def yX2_add : MethodName := ⟨RX2, "add", "(II)I"⟩
def RX3 : String := "SunVillage$Reader"
def TX3 : u_T := fun k => match k with
  | 0 => ("SunVillage$Reader", "tokens", "[LSunVillage$Token;", true)
  | 1 => ("SunVillage$Reader", "places", "[I", true)
  | 2 => ("SunVillage$Reader", "numbers", "[I", true)
  | 3 => ("SunVillage$Reader", "last", "I", false)
  | 4 => ("SunVillage$Reader", "at", "I", false)
  | 5 => ("SunVillage$Reader", "fault", "I", false)
  | 6 => ("SunVillage$Reader", "houseCount", "I", false)
  | _ => ("SunVillage$Reader", "text", "LSunVillage$Text;", false)
def tyX3 : Nat → FieldType := fun k => match k with
  | 0 => .array (.object "SunVillage$Token")
  | 1 => .array .int
  | 2 => .array .int
  | 3 => .int
  | 4 => .int
  | 5 => .int
  | 6 => .int
  | _ => .object "SunVillage$Text"
abbrev wsX30 : List Cond := u_ws RX3 TX3 8
theorem nmX3 : ∀ a, a < 8 → ∀ b, b < 8 → a ≠ b → (TX3 a).2.1 ≠ (TX3 b).2.1 := by decide +kernel
theorem tyX3_ok : ∀ k, k < 8 → parseFieldDescriptor (TX3 k).2.2.1 = some (tyX3 k) := by decide +kernel
abbrev cX3_init : ByteArray := prog_5_method_1_code
def yX3_init : MethodName := ⟨RX3, "<init>", "()V"⟩
abbrev cX3_parse : ByteArray := prog_5_method_2_code
def yX3_parse : MethodName := ⟨RX3, "parse", "(LSunVillage$Tape;ILSunVillage$Text;)I"⟩
abbrev cX3_scan : ByteArray := prog_5_method_3_code
def yX3_scan : MethodName := ⟨RX3, "scan", "(LSunVillage$Tape;)V"⟩
abbrev cX3_scanToken : ByteArray := prog_5_method_4_code
def yX3_scanToken : MethodName := ⟨RX3, "scanToken", "(LSunVillage$Tape;II)V"⟩
abbrev cX3_refuse : ByteArray := prog_5_method_5_code
def yX3_refuse : MethodName := ⟨RX3, "refuse", "(I)Z"⟩
abbrev cX3_step : ByteArray := prog_5_method_6_code
def yX3_step : MethodName := ⟨RX3, "step", "()V"⟩
abbrev cX3_take : ByteArray := prog_5_method_7_code
def yX3_take : MethodName := ⟨RX3, "take", "(LSunVillage$Token;)Z"⟩
abbrev cX3_takeOneOf : ByteArray := prog_5_method_8_code
def yX3_takeOneOf : MethodName := ⟨RX3, "takeOneOf", "(LSunVillage$Token;LSunVillage$Token;LSunVillage$Token;)LSunVillage$Token;"⟩
abbrev cX3_takeRest : ByteArray := prog_5_method_9_code
def yX3_takeRest : MethodName := ⟨RX3, "takeRest", "()Z"⟩
abbrev cX3_takeRule : ByteArray := prog_5_method_10_code
def yX3_takeRule : MethodName := ⟨RX3, "takeRule", "()Z"⟩
abbrev cX3_takeAct : ByteArray := prog_5_method_11_code
def yX3_takeAct : MethodName := ⟨RX3, "takeAct", "(LSunVillage$Rule;)Z"⟩
abbrev cX3_takePrice : ByteArray := prog_5_method_12_code
def yX3_takePrice : MethodName := ⟨RX3, "takePrice", "(LSunVillage$Rule;)Z"⟩
abbrev cX3_takeNumber : ByteArray := prog_5_method_13_code
def yX3_takeNumber : MethodName := ⟨RX3, "takeNumber", "(LSunVillage$Rule;II)Z"⟩
abbrev cX3_takeWays : ByteArray := prog_5_method_14_code
def yX3_takeWays : MethodName := ⟨RX3, "takeWays", "(LSunVillage$Rule;)Z"⟩
abbrev cX3_takeWhom : ByteArray := prog_5_method_15_code
def yX3_takeWhom : MethodName := ⟨RX3, "takeWhom", "(LSunVillage$Rule;)Z"⟩
abbrev cX3_takeExpression : ByteArray := prog_5_method_16_code
def yX3_takeExpression : MethodName := ⟨RX3, "takeExpression", "(I)Z"⟩
abbrev cX3_takePart : ByteArray := prog_5_method_17_code
def yX3_takePart : MethodName := ⟨RX3, "takePart", "(I)Z"⟩
def RX4 : String := "SunVillage$Readings"
def TX4 : u_T := fun k => match k with
  | 0 => ("SunVillage$Readings", "house", "[I", true)
  | 1 => ("SunVillage$Readings", "quarter", "[I", true)
  | 2 => ("SunVillage$Readings", "wants", "[I", true)
  | 3 => ("SunVillage$Readings", "gives", "[I", true)
  | 4 => ("SunVillage$Readings", "day", "[I", true)
  | _ => ("SunVillage$Readings", "size", "I", false)
def tyX4 : Nat → FieldType := fun k => match k with
  | 0 => .array .int
  | 1 => .array .int
  | 2 => .array .int
  | 3 => .array .int
  | 4 => .array .int
  | _ => .int
abbrev wsX40 : List Cond := u_ws RX4 TX4 6
theorem nmX4 : ∀ a, a < 6 → ∀ b, b < 6 → a ≠ b → (TX4 a).2.1 ≠ (TX4 b).2.1 := by decide +kernel
theorem tyX4_ok : ∀ k, k < 6 → parseFieldDescriptor (TX4 k).2.2.1 = some (tyX4 k) := by decide +kernel
abbrev cX4_init : ByteArray := prog_6_method_1_code
def yX4_init : MethodName := ⟨RX4, "<init>", "()V"⟩
abbrev cX4_add : ByteArray := prog_6_method_2_code
def yX4_add : MethodName := ⟨RX4, "add", "(IIIII)V"⟩
abbrev cX4_firstTouched : ByteArray := prog_6_method_3_code
def yX4_firstTouched : MethodName := ⟨RX4, "firstTouched", "(II)I"⟩
def RX5 : String := "SunVillage$Rule"
def TX5 : u_T := fun k => match k with
  | 0 => ("SunVillage$Rule", "act", "LSunVillage$Token;", false)
  | 1 => ("SunVillage$Rule", "whenFrom", "I", false)
  | 2 => ("SunVillage$Rule", "whenTo", "I", false)
  | 3 => ("SunVillage$Rule", "amountFrom", "I", false)
  | 4 => ("SunVillage$Rule", "amountTo", "I", false)
  | 5 => ("SunVillage$Rule", "source", "LSunVillage$Token;", false)
  | 6 => ("SunVillage$Rule", "whom", "LSunVillage$Token;", false)
  | 7 => ("SunVillage$Rule", "way", "LSunVillage$Token;", false)
  | 8 => ("SunVillage$Rule", "price", "I", false)
  | _ => ("SunVillage$Rule", "number", "I", false)
def tyX5 : Nat → FieldType := fun k => match k with
  | 0 => .object "SunVillage$Token"
  | 1 => .int
  | 2 => .int
  | 3 => .int
  | 4 => .int
  | 5 => .object "SunVillage$Token"
  | 6 => .object "SunVillage$Token"
  | 7 => .object "SunVillage$Token"
  | 8 => .int
  | _ => .int
abbrev wsX50 : List Cond := u_ws RX5 TX5 10
theorem nmX5 : ∀ a, a < 10 → ∀ b, b < 10 → a ≠ b → (TX5 a).2.1 ≠ (TX5 b).2.1 := by decide +kernel
theorem tyX5_ok : ∀ k, k < 10 → parseFieldDescriptor (TX5 k).2.2.1 = some (tyX5 k) := by decide +kernel
abbrev cX5_init : ByteArray := prog_7_method_1_code
def yX5_init : MethodName := ⟨RX5, "<init>", "()V"⟩
def RX6 : String := "SunVillage$Tape"
def TX6 : u_T := fun k => match k with
  | 0 => ("SunVillage$Tape", "signs", "[C", true)
  | _ => ("SunVillage$Tape", "size", "I", false)
def tyX6 : Nat → FieldType := fun k => match k with
  | 0 => .array .char
  | _ => .int
abbrev wsX60 : List Cond := u_ws RX6 TX6 2
theorem nmX6 : ∀ a, a < 2 → ∀ b, b < 2 → a ≠ b → (TX6 a).2.1 ≠ (TX6 b).2.1 := by decide +kernel
theorem tyX6_ok : ∀ k, k < 2 → parseFieldDescriptor (TX6 k).2.2.1 = some (tyX6 k) := by decide +kernel
abbrev cX6_init : ByteArray := prog_8_method_1_code
def yX6_init : MethodName := ⟨RX6, "<init>", "()V"⟩
abbrev cX6_addBytes : ByteArray := prog_8_method_2_code
def yX6_addBytes : MethodName := ⟨RX6, "addBytes", "(J)V"⟩
abbrev cX6_sort : ByteArray := prog_8_method_3_code
def yX6_sort : MethodName := ⟨RX6, "sort", "(I)I"⟩
abbrev cX6_tokenBegins : ByteArray := prog_8_method_4_code
def yX6_tokenBegins : MethodName := ⟨RX6, "tokenBegins", "(I)Z"⟩
abbrev cX6_tokenEnd : ByteArray := prog_8_method_5_code
def yX6_tokenEnd : MethodName := ⟨RX6, "tokenEnd", "(I)I"⟩
abbrev cX6_numberAt : ByteArray := prog_8_method_6_code
def yX6_numberAt : MethodName := ⟨RX6, "numberAt", "(II)I"⟩
def RX7 : String := "SunVillage$Text"
def TX7 : u_T := fun k => match k with
  | 0 => ("SunVillage$Text", "rules", "[LSunVillage$Rule;", true)
  | 1 => ("SunVillage$Text", "size", "I", false)
  | 2 => ("SunVillage$Text", "rest", "LSunVillage$Token;", false)
  | 3 => ("SunVillage$Text", "code", "[I", true)
  | 4 => ("SunVillage$Text", "codeSize", "I", false)
  | 5 => ("SunVillage$Text", "quarter", "I", false)
  | _ => ("SunVillage$Text", "day", "I", false)
def tyX7 : Nat → FieldType := fun k => match k with
  | 0 => .array (.object "SunVillage$Rule")
  | 1 => .int
  | 2 => .object "SunVillage$Token"
  | 3 => .array .int
  | 4 => .int
  | 5 => .int
  | _ => .int
abbrev wsX70 : List Cond := u_ws RX7 TX7 7
theorem nmX7 : ∀ a, a < 7 → ∀ b, b < 7 → a ≠ b → (TX7 a).2.1 ≠ (TX7 b).2.1 := by decide +kernel
theorem tyX7_ok : ∀ k, k < 7 → parseFieldDescriptor (TX7 k).2.2.1 = some (tyX7 k) := by decide +kernel
abbrev cX7_init : ByteArray := prog_9_method_1_code
def yX7_init : MethodName := ⟨RX7, "<init>", "()V"⟩
abbrev cX7_emit : ByteArray := prog_9_method_2_code
def yX7_emit : MethodName := ⟨RX7, "emit", "(I)V"⟩
def RX8 : String := "SunVillage$Texts"
def TX8 : u_T := fun k => match k with
  | 0 => ("SunVillage$Texts", "items", "[LSunVillage$Text;", true)
  | _ => ("SunVillage$Texts", "size", "I", false)
def tyX8 : Nat → FieldType := fun k => match k with
  | 0 => .array (.object "SunVillage$Text")
  | _ => .int
abbrev wsX80 : List Cond := u_ws RX8 TX8 2
theorem nmX8 : ∀ a, a < 2 → ∀ b, b < 2 → a ≠ b → (TX8 a).2.1 ≠ (TX8 b).2.1 := by decide +kernel
theorem tyX8_ok : ∀ k, k < 2 → parseFieldDescriptor (TX8 k).2.2.1 = some (tyX8 k) := by decide +kernel
abbrev cX8_init : ByteArray := prog_10_method_1_code
def yX8_init : MethodName := ⟨RX8, "<init>", "()V"⟩
abbrev cX8_canTake : ByteArray := prog_10_method_2_code
def yX8_canTake : MethodName := ⟨RX8, "canTake", "(I)Z"⟩
abbrev cX8_add : ByteArray := prog_10_method_3_code
def yX8_add : MethodName := ⟨RX8, "add", "(LSunVillage$Text;II)V"⟩
abbrev cX8_putOnly : ByteArray := prog_10_method_4_code
def yX8_putOnly : MethodName := ⟨RX8, "putOnly", "(LSunVillage$Text;)LSunVillage$Text;"⟩
abbrev cX8_rulesOfLatest : ByteArray := prog_10_method_5_code
def yX8_rulesOfLatest : MethodName := ⟨RX8, "rulesOfLatest", "()I"⟩
abbrev cX8_inForce : ByteArray := prog_10_method_6_code
def yX8_inForce : MethodName := ⟨RX8, "inForce", "(II)LSunVillage$Text;"⟩
abbrev cX8_firstTouched : ByteArray := prog_10_method_7_code
def yX8_firstTouched : MethodName := ⟨RX8, "firstTouched", "(II)I"⟩
def RX9 : String := "SunVillage$Token"
def TX9 : u_T := fun k => match k with
  | _ => ("", "", "", false)
def tyX9 : Nat → FieldType := fun k => match k with
  | _ => .int
abbrev wsX90 : List Cond := u_ws RX9 TX9 0
theorem nmX9 : ∀ a, a < 0 → ∀ b, b < 0 → a ≠ b → (TX9 a).2.1 ≠ (TX9 b).2.1 := by decide +kernel
theorem tyX9_ok : ∀ k, k < 0 → parseFieldDescriptor (TX9 k).2.2.1 = some (tyX9 k) := by decide +kernel
abbrev cX9_spelled : ByteArray := prog_11_method_4_code
def yX9_spelled : MethodName := ⟨RX9, "spelled", "(LSunVillage$Tape;II)LSunVillage$Token;"⟩
abbrev cX9_isSpelled : ByteArray := prog_11_method_5_code
def yX9_isSpelled : MethodName := ⟨RX9, "isSpelled", "(LSunVillage$Tape;II)Z"⟩
abbrev cX9_isOperator : ByteArray := prog_11_method_6_code
def yX9_isOperator : MethodName := ⟨RX9, "isOperator", "()Z"⟩
abbrev cX9_isCompare : ByteArray := prog_11_method_7_code
def yX9_isCompare : MethodName := ⟨RX9, "isCompare", "()Z"⟩
abbrev cX9_beginsPart : ByteArray := prog_11_method_8_code
def yX9_beginsPart : MethodName := ⟨RX9, "beginsPart", "()Z"⟩
abbrev cX9_beginsRule : ByteArray := prog_11_method_9_code
def yX9_beginsRule : MethodName := ⟨RX9, "beginsRule", "()Z"⟩
abbrev cX9_price : ByteArray := prog_11_method_10_code
def yX9_price : MethodName := ⟨RX9, "price", "()I"⟩
def RX10 : String := "SunVillage$Work"
def TX10 : u_T := fun k => match k with
  | 0 => ("SunVillage$Work", "houses", "LSunVillage$Houses;", true)
  | 1 => ("SunVillage$Work", "cap", "I", true)
  | 2 => ("SunVillage$Work", "loss", "I", true)
  | 3 => ("SunVillage$Work", "quarter", "I", false)
  | 4 => ("SunVillage$Work", "pool", "I", false)
  | 5 => ("SunVillage$Work", "store", "I", false)
  | 6 => ("SunVillage$Work", "want", "[I", true)
  | 7 => ("SunVillage$Work", "line", "[I", true)
  | 8 => ("SunVillage$Work", "hadThatDay", "[I", true)
  | 9 => ("SunVillage$Work", "fromPool", "[I", true)
  | 10 => ("SunVillage$Work", "fromStore", "[I", true)
  | 11 => ("SunVillage$Work", "chosen", "[I", true)
  | 12 => ("SunVillage$Work", "chosenSize", "I", false)
  | 13 => ("SunVillage$Work", "isLeast", "[Z", true)
  | 14 => ("SunVillage$Work", "weight", "[I", true)
  | 15 => ("SunVillage$Work", "sides", "[I", true)
  | 16 => ("SunVillage$Work", "watched", "I", false)
  | 17 => ("SunVillage$Work", "watchedFilled", "I", false)
  | 18 => ("SunVillage$Work", "watchedGave", "[I", true)
  | _ => ("SunVillage$Work", "sums", "[I", true)
def tyX10 : Nat → FieldType := fun k => match k with
  | 0 => .object "SunVillage$Houses"
  | 1 => .int
  | 2 => .int
  | 3 => .int
  | 4 => .int
  | 5 => .int
  | 6 => .array .int
  | 7 => .array .int
  | 8 => .array .int
  | 9 => .array .int
  | 10 => .array .int
  | 11 => .array .int
  | 12 => .int
  | 13 => .array .boolean
  | 14 => .array .int
  | 15 => .array .int
  | 16 => .int
  | 17 => .int
  | 18 => .array .int
  | _ => .array .int
abbrev wsX100 : List Cond := u_ws RX10 TX10 20
theorem nmX10 : ∀ a, a < 20 → ∀ b, b < 20 → a ≠ b → (TX10 a).2.1 ≠ (TX10 b).2.1 := by decide +kernel
theorem tyX10_ok : ∀ k, k < 20 → parseFieldDescriptor (TX10 k).2.2.1 = some (tyX10 k) := by decide +kernel
abbrev cX10_init : ByteArray := prog_12_method_1_code
def yX10_init : MethodName := ⟨RX10, "<init>", "(LSunVillage$Houses;II)V"⟩
abbrev cX10_begin : ByteArray := prog_12_method_2_code
def yX10_begin : MethodName := ⟨RX10, "begin", "(III)V"⟩
abbrev cX10_bringIn : ByteArray := prog_12_method_3_code
def yX10_bringIn : MethodName := ⟨RX10, "bringIn", "(IIII)V"⟩
abbrev cX10_apply : ByteArray := prog_12_method_4_code
def yX10_apply : MethodName := ⟨RX10, "apply", "(LSunVillage$Text;I)V"⟩
abbrev cX10_end : ByteArray := prog_12_method_5_code
def yX10_end : MethodName := ⟨RX10, "end", "()V"⟩
abbrev cX10_amount : ByteArray := prog_12_method_6_code
def yX10_amount : MethodName := ⟨RX10, "amount", "(LSunVillage$Text;LSunVillage$Rule;I)I"⟩
abbrev cX10_value : ByteArray := prog_12_method_7_code
def yX10_value : MethodName := ⟨RX10, "value", "(LSunVillage$Text;II)I"⟩
abbrev cX10_joined : ByteArray := prog_12_method_8_code
def yX10_joined : MethodName := ⟨RX10, "joined", "(III)I"⟩
abbrev cX10_measured : ByteArray := prog_12_method_9_code
def yX10_measured : MethodName := ⟨RX10, "measured", "(I)I"⟩
abbrev cX10_wantOfAll : ByteArray := prog_12_method_10_code
def yX10_wantOfAll : MethodName := ⟨RX10, "wantOfAll", "()I"⟩
abbrev cX10_fill : ByteArray := prog_12_method_11_code
def yX10_fill : MethodName := ⟨RX10, "fill", "(II)V"⟩
abbrev cX10_give : ByteArray := prog_12_method_12_code
def yX10_give : MethodName := ⟨RX10, "give", "(LSunVillage$Text;II)V"⟩
abbrev cX10_room : ByteArray := prog_12_method_13_code
def yX10_room : MethodName := ⟨RX10, "room", "(I)I"⟩
abbrev cX10_choose : ByteArray := prog_12_method_14_code
def yX10_choose : MethodName := ⟨RX10, "choose", "(LSunVillage$Rule;)V"⟩
abbrev cX10_keepLeast : ByteArray := prog_12_method_15_code
def yX10_keepLeast : MethodName := ⟨RX10, "keepLeast", "(I)V"⟩
abbrev cX10_chosenAhead : ByteArray := prog_12_method_16_code
def yX10_chosenAhead : MethodName := ⟨RX10, "chosenAhead", "(I)I"⟩
abbrev cX10_weigh : ByteArray := prog_12_method_17_code
def yX10_weigh : MethodName := ⟨RX10, "weigh", "(LSunVillage$Token;)J"⟩
abbrev cX10_hand : ByteArray := prog_12_method_18_code
def yX10_hand : MethodName := ⟨RX10, "hand", "(LSunVillage$Rule;III)V"⟩
abbrev cX10_handRest : ByteArray := prog_12_method_19_code
def yX10_handRest : MethodName := ⟨RX10, "handRest", "(LSunVillage$Text;II)V"⟩
abbrev cX10_handOnes : ByteArray := prog_12_method_20_code
def yX10_handOnes : MethodName := ⟨RX10, "handOnes", "(LSunVillage$Rule;IIII)I"⟩
abbrev cX10_sortByWant : ByteArray := prog_12_method_21_code
def yX10_sortByWant : MethodName := ⟨RX10, "sortByWant", "()V"⟩
def RX11 : String := "SunVillage"
def TX11 : u_T := fun k => match k with
  | 0 => ("SunVillage", "houses", "LSunVillage$Houses;", true)
  | 1 => ("SunVillage", "readings", "LSunVillage$Readings;", true)
  | 2 => ("SunVillage", "tape", "LSunVillage$Tape;", true)
  | 3 => ("SunVillage", "reader", "LSunVillage$Reader;", true)
  | 4 => ("SunVillage", "work", "LSunVillage$Work;", true)
  | 5 => ("SunVillage", "texts", "LSunVillage$Texts;", true)
  | 6 => ("SunVillage", "book", "LSunVillage$Book;", true)
  | 7 => ("SunVillage", "bills", "LSunVillage$Bills;", true)
  | 8 => ("SunVillage", "alone", "LSunVillage$Texts;", true)
  | 9 => ("SunVillage", "otherBook", "LSunVillage$Book;", false)
  | 10 => ("SunVillage", "draft", "LSunVillage$Text;", false)
  | 11 => ("SunVillage", "now", "I", false)
  | _ => ("SunVillage", "lookDay", "I", false)
def tyX11 : Nat → FieldType := fun k => match k with
  | 0 => .object "SunVillage$Houses"
  | 1 => .object "SunVillage$Readings"
  | 2 => .object "SunVillage$Tape"
  | 3 => .object "SunVillage$Reader"
  | 4 => .object "SunVillage$Work"
  | 5 => .object "SunVillage$Texts"
  | 6 => .object "SunVillage$Book"
  | 7 => .object "SunVillage$Bills"
  | 8 => .object "SunVillage$Texts"
  | 9 => .object "SunVillage$Book"
  | 10 => .object "SunVillage$Text"
  | 11 => .int
  | _ => .int
abbrev wsX110 : List Cond := u_ws RX11 TX11 13
theorem nmX11 : ∀ a, a < 13 → ∀ b, b < 13 → a ≠ b → (TX11 a).2.1 ≠ (TX11 b).2.1 := by decide +kernel
theorem tyX11_ok : ∀ k, k < 13 → parseFieldDescriptor (TX11 k).2.2.1 = some (tyX11 k) := by decide +kernel
abbrev cX11_init : ByteArray := prog_1_method_1_code
def yX11_init : MethodName := ⟨RX11, "<init>", "(II)V"⟩
abbrev cX11_house : ByteArray := prog_1_method_2_code
def yX11_house : MethodName := ⟨RX11, "house", "(II)I"⟩
abbrev cX11_read : ByteArray := prog_1_method_3_code
def yX11_read : MethodName := ⟨RX11, "read", "(IIII)Z"⟩
abbrev cX11_days : ByteArray := prog_1_method_4_code
def yX11_days : MethodName := ⟨RX11, "days", "(I)I"⟩
abbrev cX11_feed : ByteArray := prog_1_method_5_code
def yX11_feed : MethodName := ⟨RX11, "feed", "(JJJ)I"⟩
abbrev cX11_text : ByteArray := prog_1_method_6_code
def yX11_text : MethodName := ⟨RX11, "text", "(I)I"⟩
abbrev cX11_other : ByteArray := prog_1_method_7_code
def yX11_other : MethodName := ⟨RX11, "other", "()I"⟩
abbrev cX11_known : ByteArray := prog_1_method_8_code
def yX11_known : MethodName := ⟨RX11, "known", "(I)Z"⟩
abbrev cX11_had : ByteArray := prog_1_method_9_code
def yX11_had : MethodName := ⟨RX11, "had", "(III)I"⟩
abbrev cX11_quarter : ByteArray := prog_1_method_10_code
def yX11_quarter : MethodName := ⟨RX11, "quarter", "(II)I"⟩
abbrev cX11_by : ByteArray := prog_1_method_11_code
def yX11_by : MethodName := ⟨RX11, "by", "(III)I"⟩
abbrev cX11_would : ByteArray := prog_1_method_12_code
def yX11_would : MethodName := ⟨RX11, "would", "(II)I"⟩
abbrev cX11_bills : ByteArray := prog_1_method_13_code
def yX11_bills : MethodName := ⟨RX11, "bills", "()I"⟩
abbrev cX11_bill : ByteArray := prog_1_method_14_code
def yX11_bill : MethodName := ⟨RX11, "bill", "(II)I"⟩
abbrev cX11_count : ByteArray := prog_1_method_15_code
def yX11_count : MethodName := ⟨RX11, "count", "(I)I"⟩
abbrev cX11_dayOfLooks : ByteArray := prog_1_method_16_code
def yX11_dayOfLooks : MethodName := ⟨RX11, "dayOfLooks", "()I"⟩
abbrev cX11_isIn : ByteArray := prog_1_method_17_code
def yX11_isIn : MethodName := ⟨RX11, "isIn", "(III)Z"⟩
abbrev cX11_isQuarter : ByteArray := prog_1_method_18_code
def yX11_isQuarter : MethodName := ⟨RX11, "isQuarter", "(I)Z"⟩
def RX12 : String := "SunVillageModel"
def TX12 : u_T := fun k => match k with
  | 0 => ("SunVillageModel", "thrown", "I", false)
  | 1 => ("SunVillageModel", "tape", "[I", true)
  | 2 => ("SunVillageModel", "taped", "I", false)
  | 3 => ("SunVillageModel", "size", "I", false)
  | 4 => ("SunVillageModel", "sort", "[I", true)
  | 5 => ("SunVillageModel", "place", "[I", true)
  | 6 => ("SunVillageModel", "value", "[J", true)
  | 7 => ("SunVillageModel", "at", "I", false)
  | 8 => ("SunVillageModel", "fault", "I", false)
  | 9 => ("SunVillageModel", "words", "[J", true)
  | 10 => ("SunVillageModel", "rules", "[I", true)
  | 11 => ("SunVillageModel", "how", "[I", true)
  | 12 => ("SunVillageModel", "when", "[I", true)
  | 13 => ("SunVillageModel", "act", "[I", true)
  | 14 => ("SunVillageModel", "amount", "[I", true)
  | 15 => ("SunVillageModel", "source", "[I", true)
  | 16 => ("SunVillageModel", "whom", "[I", true)
  | 17 => ("SunVillageModel", "whomN", "[I", true)
  | 18 => ("SunVillageModel", "way", "[I", true)
  | 19 => ("SunVillageModel", "op", "[I", true)
  | 20 => ("SunVillageModel", "one", "[I", true)
  | 21 => ("SunVillageModel", "codes", "[I", true)
  | 22 => ("SunVillageModel", "texts", "I", false)
  | 23 => ("SunVillageModel", "inForce", "[I", true)
  | 24 => ("SunVillageModel", "textDay", "[I", true)
  | 25 => ("SunVillageModel", "hasOther", "Z", false)
  | 26 => ("SunVillageModel", "deep", "I", false)
  | 27 => ("SunVillageModel", "sumWaits", "[I", true)
  | 28 => ("SunVillageModel", "signWaits", "[I", true)
  | 29 => ("SunVillageModel", "cap", "I", true)
  | 30 => ("SunVillageModel", "loss", "I", true)
  | 31 => ("SunVillageModel", "houses", "I", false)
  | 32 => ("SunVillageModel", "share", "[I", true)
  | 33 => ("SunVillageModel", "bears", "[I", true)
  | 34 => ("SunVillageModel", "readings", "I", false)
  | 35 => ("SunVillageModel", "readHouse", "[I", true)
  | 36 => ("SunVillageModel", "readQuarter", "[I", true)
  | 37 => ("SunVillageModel", "readWants", "[I", true)
  | 38 => ("SunVillageModel", "readGives", "[I", true)
  | 39 => ("SunVillageModel", "readDay", "[I", true)
  | 40 => ("SunVillageModel", "now", "I", false)
  | 41 => ("SunVillageModel", "asOf", "I", false)
  | 42 => ("SunVillageModel", "knownDay", "I", false)
  | 43 => ("SunVillageModel", "q", "I", false)
  | 44 => ("SunVillageModel", "inText", "I", false)
  | 45 => ("SunVillageModel", "store", "I", false)
  | 46 => ("SunVillageModel", "pool", "I", false)
  | 47 => ("SunVillageModel", "price", "[I", true)
  | 48 => ("SunVillageModel", "wants", "[I", true)
  | 49 => ("SunVillageModel", "gives", "[I", true)
  | 50 => ("SunVillageModel", "doubt", "[I", true)
  | 51 => ("SunVillageModel", "own", "[I", true)
  | 52 => ("SunVillageModel", "want", "[I", true)
  | 53 => ("SunVillageModel", "line", "[I", true)
  | 54 => ("SunVillageModel", "gift", "[I", true)
  | 55 => ("SunVillageModel", "fromPool", "[I", true)
  | 56 => ("SunVillageModel", "fromStore", "[I", true)
  | 57 => ("SunVillageModel", "bought", "[I", true)
  | 58 => ("SunVillageModel", "dayGiven", "[I", true)
  | 59 => ("SunVillageModel", "coins", "[I", true)
  | 60 => ("SunVillageModel", "poolFirst", "I", false)
  | 61 => ("SunVillageModel", "filled", "I", false)
  | 62 => ("SunVillageModel", "lost", "I", false)
  | 63 => ("SunVillageModel", "sold", "I", false)
  | 64 => ("SunVillageModel", "left", "I", false)
  | 65 => ("SunVillageModel", "townCoins", "I", false)
  | 66 => ("SunVillageModel", "potCoins", "I", false)
  | 67 => ("SunVillageModel", "byRule", "[I", true)
  | 68 => ("SunVillageModel", "sums", "[I", true)
  | 69 => ("SunVillageModel", "pile", "[I", true)
  | 70 => ("SunVillageModel", "is", "[Z", true)
  | 71 => ("SunVillageModel", "gets", "[I", true)
  | 72 => ("SunVillageModel", "weight", "[I", true)
  | 73 => ("SunVillageModel", "billed", "I", false)
  | _ => ("SunVillageModel", "bill", "[I", true)
def tyX12 : Nat → FieldType := fun k => match k with
  | 0 => .int
  | 1 => .array .int
  | 2 => .int
  | 3 => .int
  | 4 => .array .int
  | 5 => .array .int
  | 6 => .array .long
  | 7 => .int
  | 8 => .int
  | 9 => .array .long
  | 10 => .array .int
  | 11 => .array .int
  | 12 => .array .int
  | 13 => .array .int
  | 14 => .array .int
  | 15 => .array .int
  | 16 => .array .int
  | 17 => .array .int
  | 18 => .array .int
  | 19 => .array .int
  | 20 => .array .int
  | 21 => .array .int
  | 22 => .int
  | 23 => .array .int
  | 24 => .array .int
  | 25 => .boolean
  | 26 => .int
  | 27 => .array .int
  | 28 => .array .int
  | 29 => .int
  | 30 => .int
  | 31 => .int
  | 32 => .array .int
  | 33 => .array .int
  | 34 => .int
  | 35 => .array .int
  | 36 => .array .int
  | 37 => .array .int
  | 38 => .array .int
  | 39 => .array .int
  | 40 => .int
  | 41 => .int
  | 42 => .int
  | 43 => .int
  | 44 => .int
  | 45 => .int
  | 46 => .int
  | 47 => .array .int
  | 48 => .array .int
  | 49 => .array .int
  | 50 => .array .int
  | 51 => .array .int
  | 52 => .array .int
  | 53 => .array .int
  | 54 => .array .int
  | 55 => .array .int
  | 56 => .array .int
  | 57 => .array .int
  | 58 => .array .int
  | 59 => .array .int
  | 60 => .int
  | 61 => .int
  | 62 => .int
  | 63 => .int
  | 64 => .int
  | 65 => .int
  | 66 => .int
  | 67 => .array .int
  | 68 => .array .int
  | 69 => .array .int
  | 70 => .array .boolean
  | 71 => .array .int
  | 72 => .array .int
  | 73 => .int
  | _ => .array .int
abbrev wsX120 : List Cond := u_ws RX12 TX12 75
theorem nmX12 : ∀ a, a < 75 → ∀ b, b < 75 → a ≠ b → (TX12 a).2.1 ≠ (TX12 b).2.1 := by decide +kernel
theorem tyX12_ok : ∀ k, k < 75 → parseFieldDescriptor (TX12 k).2.2.1 = some (tyX12 k) := by decide +kernel
abbrev cX12_thrown : ByteArray := prog_14_method_1_code
def yX12_thrown : MethodName := ⟨RX12, "thrown", "()I"⟩
abbrev cX12_feed : ByteArray := prog_14_method_2_code
def yX12_feed : MethodName := ⟨RX12, "feed", "(JJJ)I"⟩
abbrev cX12_lay : ByteArray := prog_14_method_3_code
def yX12_lay : MethodName := ⟨RX12, "lay", "(J)V"⟩
abbrev cX12_init : ByteArray := prog_14_method_4_code
def yX12_init : MethodName := ⟨RX12, "<init>", "(II)V"⟩
abbrev cX12_isLetter : ByteArray := prog_14_method_5_code
def yX12_isLetter : MethodName := ⟨RX12, "isLetter", "(I)Z"⟩
abbrev cX12_isDigit : ByteArray := prog_14_method_6_code
def yX12_isDigit : MethodName := ⟨RX12, "isDigit", "(I)Z"⟩
abbrev cX12_rank : ByteArray := prog_14_method_7_code
def yX12_rank : MethodName := ⟨RX12, "rank", "(I)I"⟩
abbrev cX12_isSignOf : ByteArray := prog_14_method_8_code
def yX12_isSignOf : MethodName := ⟨RX12, "isSignOf", "(I)Z"⟩
abbrev cX12_cutAll : ByteArray := prog_14_method_9_code
def yX12_cutAll : MethodName := ⟨RX12, "cutAll", "()V"⟩
abbrev cX12_wrong : ByteArray := prog_14_method_10_code
def yX12_wrong : MethodName := ⟨RX12, "wrong", "(I)V"⟩
abbrev cX12_isSign : ByteArray := prog_14_method_11_code
def yX12_isSign : MethodName := ⟨RX12, "isSign", "(I)Z"⟩
abbrev cX12_isWord : ByteArray := prog_14_method_12_code
def yX12_isWord : MethodName := ⟨RX12, "isWord", "(I)Z"⟩
abbrev cX12_takeSign : ByteArray := prog_14_method_13_code
def yX12_takeSign : MethodName := ⟨RX12, "takeSign", "(I)V"⟩
abbrev cX12_hasSign : ByteArray := prog_14_method_14_code
def yX12_hasSign : MethodName := ⟨RX12, "hasSign", "(I)Z"⟩
abbrev cX12_hasWord : ByteArray := prog_14_method_15_code
def yX12_hasWord : MethodName := ⟨RX12, "hasWord", "(I)Z"⟩
abbrev cX12_takeWord : ByteArray := prog_14_method_16_code
def yX12_takeWord : MethodName := ⟨RX12, "takeWord", "(I)V"⟩
abbrev cX12_takeNumber : ByteArray := prog_14_method_17_code
def yX12_takeNumber : MethodName := ⟨RX12, "takeNumber", "(II)I"⟩
abbrev cX12_oneOf : ByteArray := prog_14_method_18_code
def yX12_oneOf : MethodName := ⟨RX12, "oneOf", "(II)I"⟩
abbrev cX12_emit : ByteArray := prog_14_method_19_code
def yX12_emit : MethodName := ⟨RX12, "emit", "(II)V"⟩
abbrev cX12_readText : ByteArray := prog_14_method_20_code
def yX12_readText : MethodName := ⟨RX12, "readText", "()V"⟩
abbrev cX12_isRule : ByteArray := prog_14_method_21_code
def yX12_isRule : MethodName := ⟨RX12, "isRule", "()Z"⟩
abbrev cX12_readRule : ByteArray := prog_14_method_22_code
def yX12_readRule : MethodName := ⟨RX12, "readRule", "()V"⟩
abbrev cX12_readAmount : ByteArray := prog_14_method_23_code
def yX12_readAmount : MethodName := ⟨RX12, "readAmount", "(I)V"⟩
abbrev cX12_readWhom : ByteArray := prog_14_method_24_code
def yX12_readWhom : MethodName := ⟨RX12, "readWhom", "(I)V"⟩
abbrev cX12_code : ByteArray := prog_14_method_25_code
def yX12_code : MethodName := ⟨RX12, "code", "()I"⟩
abbrev cX12_opens : ByteArray := prog_14_method_26_code
def yX12_opens : MethodName := ⟨RX12, "opens", "()V"⟩
abbrev cX12_expression : ByteArray := prog_14_method_27_code
def yX12_expression : MethodName := ⟨RX12, "expression", "()V"⟩
abbrev cX12_isPart : ByteArray := prog_14_method_28_code
def yX12_isPart : MethodName := ⟨RX12, "isPart", "()Z"⟩
abbrev cX12_part : ByteArray := prog_14_method_29_code
def yX12_part : MethodName := ⟨RX12, "part", "()Z"⟩
abbrev cX12_goesOn : ByteArray := prog_14_method_30_code
def yX12_goesOn : MethodName := ⟨RX12, "goesOn", "()Z"⟩
abbrev cX12_keep : ByteArray := prog_14_method_31_code
def yX12_keep : MethodName := ⟨RX12, "keep", "(I)V"⟩
abbrev cX12_text : ByteArray := prog_14_method_32_code
def yX12_text : MethodName := ⟨RX12, "text", "(I)I"⟩
abbrev cX12_other : ByteArray := prog_14_method_33_code
def yX12_other : MethodName := ⟨RX12, "other", "()I"⟩
abbrev cX12_house : ByteArray := prog_14_method_34_code
def yX12_house : MethodName := ⟨RX12, "house", "(II)I"⟩
abbrev cX12_read : ByteArray := prog_14_method_35_code
def yX12_read : MethodName := ⟨RX12, "read", "(IIII)Z"⟩
abbrev cX12_days : ByteArray := prog_14_method_36_code
def yX12_days : MethodName := ⟨RX12, "days", "(I)I"⟩
abbrev cX12_known : ByteArray := prog_14_method_37_code
def yX12_known : MethodName := ⟨RX12, "known", "(I)Z"⟩
abbrev cX12_works : ByteArray := prog_14_method_38_code
def yX12_works : MethodName := ⟨RX12, "works", "(IIZ)V"⟩
abbrev cX12_quarterBegins : ByteArray := prog_14_method_39_code
def yX12_quarterBegins : MethodName := ⟨RX12, "quarterBegins", "(Z)V"⟩
abbrev cX12_quarterEnds : ByteArray := prog_14_method_40_code
def yX12_quarterEnds : MethodName := ⟨RX12, "quarterEnds", "()V"⟩
abbrev cX12_worth : ByteArray := prog_14_method_41_code
def yX12_worth : MethodName := ⟨RX12, "worth", "(I)I"⟩
abbrev cX12_partOf : ByteArray := prog_14_method_42_code
def yX12_partOf : MethodName := ⟨RX12, "partOf", "(I)I"⟩
abbrev cX12_rule : ByteArray := prog_14_method_43_code
def yX12_rule : MethodName := ⟨RX12, "rule", "(I)V"⟩
abbrev cX12_can : ByteArray := prog_14_method_44_code
def yX12_can : MethodName := ⟨RX12, "can", "(I)Z"⟩
abbrev cX12_chooses : ByteArray := prog_14_method_45_code
def yX12_chooses : MethodName := ⟨RX12, "chooses", "(I)I"⟩
abbrev cX12_givesBy : ByteArray := prog_14_method_46_code
def yX12_givesBy : MethodName := ⟨RX12, "givesBy", "(II)V"⟩
abbrev cX12_least : ByteArray := prog_14_method_47_code
def yX12_least : MethodName := ⟨RX12, "least", "(II)I"⟩
abbrev cX12_hands : ByteArray := prog_14_method_48_code
def yX12_hands : MethodName := ⟨RX12, "hands", "(IIII)V"⟩
abbrev cX12_oneByOne : ByteArray := prog_14_method_49_code
def yX12_oneByOne : MethodName := ⟨RX12, "oneByOne", "(III)V"⟩
abbrev cX12_nextOf : ByteArray := prog_14_method_50_code
def yX12_nextOf : MethodName := ⟨RX12, "nextOf", "()I"⟩
abbrev cX12_lookDay : ByteArray := prog_14_method_51_code
def yX12_lookDay : MethodName := ⟨RX12, "lookDay", "()I"⟩
abbrev cX12_had : ByteArray := prog_14_method_52_code
def yX12_had : MethodName := ⟨RX12, "had", "(III)I"⟩
abbrev cX12_quarter : ByteArray := prog_14_method_53_code
def yX12_quarter : MethodName := ⟨RX12, "quarter", "(II)I"⟩
abbrev cX12_by : ByteArray := prog_14_method_54_code
def yX12_by : MethodName := ⟨RX12, "by", "(III)I"⟩
abbrev cX12_would : ByteArray := prog_14_method_55_code
def yX12_would : MethodName := ⟨RX12, "would", "(II)I"⟩
abbrev cX12_bills : ByteArray := prog_14_method_56_code
def yX12_bills : MethodName := ⟨RX12, "bills", "()I"⟩
abbrev cX12_bill : ByteArray := prog_14_method_57_code
def yX12_bill : MethodName := ⟨RX12, "bill", "(II)I"⟩
abbrev cX12_count : ByteArray := prog_14_method_58_code
def yX12_count : MethodName := ⟨RX12, "count", "(I)I"⟩
def RJx29ce0 : String := "java/lang/Enum"
def TJx29ce0 : u_T := fun k => match k with
  | _ => ("", "", "", false)
def tyJx29ce0 : Nat → FieldType := fun k => match k with
  | _ => .int
abbrev wsJx29ce00 : List Cond := u_ws RJx29ce0 TJx29ce0 0
theorem nmJx29ce0 : ∀ a, a < 0 → ∀ b, b < 0 → a ≠ b → (TJx29ce0 a).2.1 ≠ (TJx29ce0 b).2.1 := by decide +kernel
theorem tyJx29ce0_ok : ∀ k, k < 0 → parseFieldDescriptor (TJx29ce0 k).2.2.1 = some (tyJx29ce0 k) := by decide +kernel
def RJ9 : String := "java/lang/Math"
def TJ9 : u_T := fun k => match k with
  | _ => ("", "", "", false)
def tyJ9 : Nat → FieldType := fun k => match k with
  | _ => .int
abbrev wsJ90 : List Cond := u_ws RJ9 TJ9 0
theorem nmJ9 : ∀ a, a < 0 → ∀ b, b < 0 → a ≠ b → (TJ9 a).2.1 ≠ (TJ9 b).2.1 := by decide +kernel
theorem tyJ9_ok : ∀ k, k < 0 → parseFieldDescriptor (TJ9 k).2.2.1 = some (tyJ9 k) := by decide +kernel
abbrev cJ9_max_7cf53 : ByteArray := prog_17_method_65_code
def yJ9_max_7cf53 : MethodName := ⟨RJ9, "max", "(II)I"⟩
abbrev cJ9_min_7cf53 : ByteArray := prog_17_method_69_code
def yJ9_min_7cf53 : MethodName := ⟨RJ9, "min", "(II)I"⟩
abbrev cJ9_min_f86c9 : ByteArray := prog_17_method_70_code
def yJ9_min_f86c9 : MethodName := ⟨RJ9, "min", "(JJ)J"⟩
def RJ0 : String := "java/lang/String"
def TJ0 : u_T := fun k => match k with
  | _ => ("", "", "", false)
def tyJ0 : Nat → FieldType := fun k => match k with
  | _ => .int
abbrev wsJ00 : List Cond := u_ws RJ0 TJ0 0
theorem nmJ0 : ∀ a, a < 0 → ∀ b, b < 0 → a ≠ b → (TJ0 a).2.1 ≠ (TJ0 b).2.1 := by decide +kernel
theorem tyJ0_ok : ∀ k, k < 0 → parseFieldDescriptor (TJ0 k).2.2.1 = some (tyJ0 k) := by decide +kernel
abbrev cJ0_length_8abf5 : ByteArray := prog_19_method_54_code
def yJ0_length_8abf5 : MethodName := ⟨RJ0, "length", "()I"⟩
abbrev cJ0_charAt_5068e : ByteArray := prog_19_method_56_code
def yJ0_charAt_5068e : MethodName := ⟨RJ0, "charAt", "(I)C"⟩
abbrev cJ0_coder_7d493 : ByteArray := prog_19_method_152_code
def yJ0_coder_7d493 : MethodName := ⟨RJ0, "coder", "()B"⟩
abbrev cJ0_isLatin1_aae02 : ByteArray := prog_19_method_154_code
def yJ0_isLatin1_aae02 : MethodName := ⟨RJ0, "isLatin1", "()Z"⟩
abbrev cJ0_checkIndex_df160 : ByteArray := prog_19_method_155_code
def yJ0_checkIndex_df160 : MethodName := ⟨RJ0, "checkIndex", "(II)V"⟩
def RJ1 : String := "java/lang/StringLatin1"
def TJ1 : u_T := fun k => match k with
  | _ => ("", "", "", false)
def tyJ1 : Nat → FieldType := fun k => match k with
  | _ => .int
abbrev wsJ10 : List Cond := u_ws RJ1 TJ1 0
theorem nmJ1 : ∀ a, a < 0 → ∀ b, b < 0 → a ≠ b → (TJ1 a).2.1 ≠ (TJ1 b).2.1 := by decide +kernel
theorem tyJ1_ok : ∀ k, k < 0 → parseFieldDescriptor (TJ1 k).2.2.1 = some (tyJ1 k) := by decide +kernel
abbrev cJ1_charAt_3b067 : ByteArray := prog_20_method_2_code
def yJ1_charAt_3b067 : MethodName := ⟨RJ1, "charAt", "([BI)C"⟩
def RJ2 : String := "java/lang/StringUTF16"
def TJ2 : u_T := fun k => match k with
  | _ => ("", "", "", false)
def tyJ2 : Nat → FieldType := fun k => match k with
  | _ => .int
abbrev wsJ20 : List Cond := u_ws RJ2 TJ2 0
theorem nmJ2 : ∀ a, a < 0 → ∀ b, b < 0 → a ≠ b → (TJ2 a).2.1 ≠ (TJ2 b).2.1 := by decide +kernel
theorem tyJ2_ok : ∀ k, k < 0 → parseFieldDescriptor (TJ2 k).2.2.1 = some (tyJ2 k) := by decide +kernel
abbrev cJ2_getChar_3b067 : ByteArray := prog_21_method_5_code
def yJ2_getChar_3b067 : MethodName := ⟨RJ2, "getChar", "([BI)C"⟩
abbrev cJ2_length_9d52b : ByteArray := prog_21_method_6_code
def yJ2_length_9d52b : MethodName := ⟨RJ2, "length", "([B)I"⟩
abbrev cJ2_charAt_3b067 : ByteArray := prog_21_method_83_code
def yJ2_charAt_3b067 : MethodName := ⟨RJ2, "charAt", "([BI)C"⟩
abbrev cJ2_checkIndex_2214a : ByteArray := prog_21_method_91_code
def yJ2_checkIndex_2214a : MethodName := ⟨RJ2, "checkIndex", "(I[B)V"⟩
def RJ10 : String := "java/lang/System"
def TJ10 : u_T := fun k => match k with
  | _ => ("", "", "", false)
def tyJ10 : Nat → FieldType := fun k => match k with
  | _ => .int
abbrev wsJ100 : List Cond := u_ws RJ10 TJ10 0
theorem nmJ10 : ∀ a, a < 0 → ∀ b, b < 0 → a ≠ b → (TJ10 a).2.1 ≠ (TJ10 b).2.1 := by decide +kernel
theorem tyJ10_ok : ∀ k, k < 0 → parseFieldDescriptor (TJ10 k).2.2.1 = some (tyJ10 k) := by decide +kernel
def RJ3 : String := "jdk/internal/util/Preconditions"
def TJ3 : u_T := fun k => match k with
  | _ => ("", "", "", false)
def tyJ3 : Nat → FieldType := fun k => match k with
  | _ => .int
abbrev wsJ30 : List Cond := u_ws RJ3 TJ3 0
theorem nmJ3 : ∀ a, a < 0 → ∀ b, b < 0 → a ≠ b → (TJ3 a).2.1 ≠ (TJ3 b).2.1 := by decide +kernel
theorem tyJ3_ok : ∀ k, k < 0 → parseFieldDescriptor (TJ3 k).2.2.1 = some (tyJ3 k) := by decide +kernel
abbrev cJ3_checkIndex_8e157 : ByteArray := prog_25_method_11_code
def yJ3_checkIndex_8e157 : MethodName := ⟨RJ3, "checkIndex", "(IILjava/util/function/BiFunction;)I"⟩
def RL : String := "SunVillageLaw"
abbrev cL_cell : ByteArray := method_2_code
def yL_cell : MethodName := ⟨RL, "cell", "([II)I"⟩
abbrev cL_had : ByteArray := method_3_code
def yL_had : MethodName := ⟨RL, "had", "(LSunVillage;III[J)I"⟩
abbrev cL_quarter : ByteArray := method_4_code
def yL_quarter : MethodName := ⟨RL, "quarter", "(LSunVillage;II[J)I"⟩
abbrev cL_bill : ByteArray := method_5_code
def yL_bill : MethodName := ⟨RL, "bill", "(LSunVillage;II[J)I"⟩
abbrev cL_law : ByteArray := code
def yL_law : MethodName := ⟨RL, "law", "([I)Z"⟩
end
section
/-! ===== THE MEMORY: cells by numbers (0 null, 1 .. 34 tokens, 35 EACH, 36 .. 67 texts of tokens, from 100 on what the run makes) ===== -/
/-- how many, kinds, lengths, references -/
abbrev LT : Type := Nat × (Nat → Nat) × (Nat → Nat) × (Nat → Nat → Nat)
/-- ints, longs, tokens -/
abbrev MT : Type := (Nat → Nat → Int32) × (Nat → Nat → Int64) × (Nat → Nat → Nat)
/-- n0, tokens, EACH, texts, their bytes, numbers of kinds, places of fields, array kinds -/
abbrev GT : Type := Nat × (Nat → Nat) × Nat × (Nat → Nat) × (Nat → Nat) × (Nat → ClassId) × (Nat → Nat → Nat) × (Nat → ClassId)
def gn (g : GT) : Nat := g.1
def gad (g : GT) : Nat → Nat := g.2.1
def gea (g : GT) : Nat := g.2.2.1
def gk (g : GT) : Nat → Nat := g.2.2.2.1
def gv (g : GT) : Nat → Nat := g.2.2.2.2.1
def gC (g : GT) : Nat → ClassId := g.2.2.2.2.2.1
def gD (g : GT) : Nat → Nat → Nat := g.2.2.2.2.2.2.1
def gA (g : GT) : Nat → ClassId := g.2.2.2.2.2.2.2
abbrev lt_n (w : LT) : Nat := w.1
abbrev lt_t (w : LT) (a : Nat) : Nat := w.2.1 a
abbrev lt_l (w : LT) (a : Nat) : Nat := w.2.2.1 a
abbrev lt_p (w : LT) (a k : Nat) : Nat := w.2.2.2 a k
def up2 {α : Type} (f : Nat → Nat → α) (a k : Nat) (v : α) : Nat → Nat → α := fun b => if b = a then (fun j => if j = k then v else f a j) else f b
theorem up2_eq {α : Type} (f : Nat → Nat → α) (a k : Nat) (v : α) : up2 f a k v a k = v := by simp [up2]
theorem up2_at {α : Type} (f : Nat → Nat → α) (a k j : Nat) (v : α) : up2 f a k v a j = if j = k then v else f a j := by simp [up2]
theorem up2_ne {α : Type} (f : Nat → Nat → α) {a b : Nat} (k : Nat) (v : α) (h : b ≠ a) : up2 f a k v b = f b := by simp [up2, h]
def gI (u : MT) (a k : Nat) : Int32 := u.1 a k
def gL (u : MT) (a k : Nat) : Int64 := u.2.1 a k
def gK (u : MT) (a k : Nat) : Nat := u.2.2 a k
def sI (u : MT) (a k : Nat) (v : Int32) : MT := (up2 u.1 a k v, u.2)
def sL (u : MT) (a k : Nat) (v : Int64) : MT := (u.1, up2 u.2.1 a k v, u.2.2)
def sK (u : MT) (a k : Nat) (v : Nat) : MT := (u.1, u.2.1, up2 u.2.2 a k v)
def sP (w : LT) (a k b : Nat) : LT := (w.1, w.2.1, w.2.2.1, up2 w.2.2.2 a k b)
def adr (g : GT) (x : Nat) : Nat := if x ≤ 34 then gad g (x - 1) else if x = 35 then gea g else if x < 100 then gk g (x - 36) else gn g + (x - 100)
def tr (g : GT) (x : Nat) : Value := if x = 0 then .null else .ref (adr g x)
def trv (g : GT) (v : Value) : Value := match v with
  | .ref a => tr g a
  | v => v
theorem trv_cat (g : GT) (v : Value) : (trv g v).category = v.category := by
  cases v with
  | ref a => simp only [trv, tr]; split <;> rfl
  | _ => rfl
theorem tr_or (g : GT) (x : Nat) : tr g x = .null ∨ ∃ a, tr g x = .ref a := by
  unfold tr
  split
  · exact Or.inl rfl
  · exact Or.inr ⟨_, rfl⟩
theorem adr_dyn (g : GT) {a : Nat} (h : 100 ≤ a) : adr g a = gn g + (a - 100) := by
  simp [adr, show ¬ a ≤ 34 by omega, show ¬ a = 35 by omega, show ¬ a < 100 by omega]
theorem tr_dyn (g : GT) {a : Nat} (h : 100 ≤ a) : tr g a = .ref (adr g a) := by
  simp [tr, show ¬ a = 0 by omega]
/-! the kinds of cells: 0 .. 12 by the tables of fields; 20 int, 21 long, 22 boolean, 23 char, 24 tokens, 25 rules, 26 texts -/
def cS : Nat → String
  | 0 => RX0 | 1 => RX1 | 2 => RX2 | 3 => RX3 | 4 => RX4 | 5 => RX5 | 6 => RX6 | 7 => RX7 | 8 => RX8 | 9 => RX9 | 10 => RX10 | 11 => RX11 | _ => RX12
def cT : Nat → u_T
  | 0 => TX0 | 1 => TX1 | 2 => TX2 | 3 => TX3 | 4 => TX4 | 5 => TX5 | 6 => TX6 | 7 => TX7 | 8 => TX8 | 9 => TX9 | 10 => TX10 | 11 => TX11 | _ => TX12
def cN : Nat → Nat
  | 0 => 2 | 1 => 11 | 2 => 3 | 3 => 8 | 4 => 6 | 5 => 10 | 6 => 2 | 7 => 7 | 8 => 2 | 9 => 0 | 10 => 20 | 11 => 13 | _ => 75
def cY : Nat → Nat → FieldType
  | 0 => tyX0 | 1 => tyX1 | 2 => tyX2 | 3 => tyX3 | 4 => tyX4 | 5 => tyX5 | 6 => tyX6 | 7 => tyX7 | 8 => tyX8 | 9 => tyX9 | 10 => tyX10 | 11 => tyX11 | _ => tyX12
abbrev clL : List vw_C := [(RX0, TX0, 2), (RX1, TX1, 11), (RX2, TX2, 3), (RX3, TX3, 8), (RX4, TX4, 6), (RX5, TX5, 10), (RX6, TX6, 2), (RX7, TX7, 7), (RX8, TX8, 2), (RX9, TX9, 0), (RX10, TX10, 20), (RX11, TX11, 13), (RX12, TX12, 75)]
/-- a field's kind: 0 an int, 1 a reference, 2 a token -/
def fkT : List (List Nat) := [[1, 0], [1, 1, 1, 1, 0, 0, 1, 1, 1, 1, 1], [1, 1, 0], [1, 1, 1, 0, 0, 0, 0, 1], [1, 1, 1, 1, 1, 0], [2, 0, 0, 0, 0, 2, 2, 2, 0, 0], [1, 0], [1, 0, 2, 1, 0, 0, 0], [1, 0], [], [1, 0, 0, 0, 0, 0, 1, 1, 1, 1, 1, 1, 0, 1, 1, 1, 0, 0, 1, 1], [1, 1, 1, 1, 1, 1, 1, 1, 1, 1, 1, 0, 0], [0, 1, 0, 0, 1, 1, 1, 0, 0, 1, 1, 1, 1, 1, 1, 1, 1, 1, 1, 1, 1, 1, 0, 1, 1, 0, 0, 1, 1, 0, 0, 0, 1, 1, 0, 1, 1, 1, 1, 1, 0, 0, 0, 0, 0, 0, 0, 1, 1, 1, 1, 1, 1, 1, 1, 1, 1, 1, 1, 1, 0, 0, 0, 0, 0, 0, 0, 1, 1, 1, 1, 1, 1, 0, 1]]
def fk (t k : Nat) : Nat := (fkT.getD t []).getD k 0
def fkOk (t k : Nat) : Bool := match cY t k with
  | .int => fk t k == 0
  | .boolean => fk t k == 0
  | .object C => if C = "SunVillage$Token" then fk t k == 2 else fk t k == 1
  | .array _ => fk t k == 1
  | _ => false
theorem fk_ok : ∀ t, t < 13 → ∀ k, k < cN t → fkOk t k = true := by decide +kernel
def aTy : Nat → FieldType
  | 20 => .int | 21 => .long | 22 => .boolean | 23 => .char | 24 => .object "SunVillage$Token" | 25 => .object "SunVillage$Rule" | _ => .object "SunVillage$Text"
abbrev tyL (g : GT) : List (ClassId × FieldType) := [(gA g 20, .int), (gA g 21, .long), (gA g 22, .boolean), (gA g 23, .char), (gA g 24, .object "SunVillage$Token"), (gA g 25, .object "SunVillage$Rule"), (gA g 26, .object "SunVillage$Text")]
def fv (g : GT) (w : LT) (u : MT) (t a k : Nat) : Value := if fk t k = 0 then .int (gI u a k) else if fk t k = 1 then tr g (lt_p w a k) else tr g (gK u a k)
def av (g : GT) (w : LT) (u : MT) (t a j : Nat) : Value := if t = 21 then .long (gL u a j) else if t = 24 then tr g (gK u a j) else if t = 25 ∨ t = 26 then tr g (lt_p w a j) else .int (gI u a j)
def cellOk (g : GT) (w : LT) (u : MT) (a : Nat) (H : Heap) : Prop :=
  (lt_t w a < 13 → t_OB (adr g a) (gC g (lt_t w a)) (cN (lt_t w a)) (gD g (lt_t w a)) H (fv g w u (lt_t w a) a)) ∧
  (20 ≤ lt_t w a → lt_t w a < 27 → H[adr g a]? = some (arrV (gA g (lt_t w a)) (lt_l w a) (av g w u (lt_t w a) a)))
def Rep (g : GT) (w : LT) (u : MT) (H : Heap) : Prop :=
  H.size = gn g + (lt_n w - 100) ∧ 100 ≤ lt_n w ∧ (∀ a, a < 100 ∨ lt_n w ≤ a → lt_t w a = 99) ∧ ∀ a, 100 ≤ a → a < lt_n w → cellOk g w u a H
/-! the tokens -/
def tkN : List String := ["NOTHING", "END", "NUMBER", "OPEN", "CLOSE", "SEMICOLON", "HOUR", "DAY", "POOL", "STORE", "WANT", "PLUS", "MINUS", "LESS", "EQUAL", "WHEN", "GIVE", "FILL", "PRICE", "REST", "FROM", "TO", "BY", "ALL", "HOUSE", "LEAST", "HEADS", "WANTS", "SHARES", "BUY", "SELL", "FIRST", "MOST", "TURN"]
def tkC : List Int32 := [0, 0, 0, 0, 0, 0, -1, -2, -3, -4, -5, -6, -7, -8, -9, 0, 0, 0, 0, 0, 0, 0, 0, 0, 0, 0, 0, 0, 0, 0, 0, 0, 0, 0]
/-- which text a token is spelled by -/
def tkX (i : Nat) : Nat := i - 2
def tkL : List Nat := [0, 1, 1, 1, 4, 3, 4, 5, 4, 1, 1, 1, 1, 4, 4, 4, 5, 4, 4, 2, 2, 3, 5, 5, 5, 5, 6, 3, 4, 5, 4, 4]
def tkB : List (List Int32) := [[], [40], [41], [59], [104, 111, 117, 114], [100, 97, 121], [112, 111, 111, 108], [115, 116, 111, 114, 101], [119, 97, 110, 116], [43], [45], [60], [61], [119, 104, 101, 110], [103, 105, 118, 101], [102, 105, 108, 108], [112, 114, 105, 99, 101], [114, 101, 115, 116], [102, 114, 111, 109], [116, 111], [98, 121], [97, 108, 108], [104, 111, 117, 115, 101], [108, 101, 97, 115, 116], [104, 101, 97, 100, 115], [119, 97, 110, 116, 115], [115, 104, 97, 114, 101, 115], [98, 117, 121], [115, 101, 108, 108], [102, 105, 114, 115, 116], [109, 111, 115, 116], [116, 117, 114, 110]]
abbrev fr (g : GT) : Nat → Prop := fun q => gn g ≤ q
abbrev Stk (g : GT) (U : State) : Prop := va_En "SunVillage$Token" "LSunVillage$Token;" tkN [("SunVillage$Token", "code", "I", tkC)] (gad g) (fr g) U U.heap
def Stx (g : GT) (U : State) : Prop :=
  va_Z "SunVillage$Token" "EACH" "[LSunVillage$Token;" (.ref (gea g)) (fr g) U U.heap ∧ va_T (.object "SunVillage$Token") (gea g) 34 (fun i => .ref (gad g i)) (fr g) U U.heap ∧
  va_Ef 34 "SunVillage$Token" "spelling" "Ljava/lang/String;" (fun i => .ref (gk g (tkX i))) (gad g) (fr g) U U.heap ∧ vk_S 32 tkL tkB (gk g) (gv g) (fr g) U U.heap
/-- the words of nest mates -/
def isNest : Cond → Bool
  | .fieldLinkNest .. => true
  | .methodLinkNest .. => true
  | _ => false
def NWs : List Cond := tables_1.filter isNest
theorem NW_at {w : Cond} (i : Nat) (h : tables_1[i]? = some w) (hg : isNest w = true) : w ∈ NWs := List.mem_filter.mpr ⟨List.mem_of_getElem? h, hg⟩
theorem NW_warm {w : Cond} {s U : State} (hw : w ∈ NWs) (hW : s.WarmedH U.vm) (h : va_Nw w s) : va_Nw w U := by
  have h1 := (List.mem_filter.mp hw).2
  cases w <;> first | (simp [isNest] at h1; done) | exact va_Nw.warmF hW h | exact va_Nw.warmM hW h
theorem NW_use {w : Cond} {s : State} (hw : w ∈ NWs) (h : va_Nw w s) (args : Array Value) : w.before args s = true := by
  have h1 := (List.mem_filter.mp hw).2
  cases w <;> first | (simp [isNest] at h1; done) | exact va_Nw.use rfl h
/-- what is there from the start, and stays -/
def Stc (g : GT) (U : State) : Prop := va_K (gC g, gD g) clL (tyL g) U ∧ Stk g U ∧ Stx g U ∧ gn g ≤ U.heap.size ∧ ∀ w ∈ NWs, va_Nw w U
theorem Stc.go {g : GT} {s U : State} (h : Stc g s) (hW : s.WarmedH U.vm) (hz : s.heap.size ≤ U.heap.size) (hq : ∀ a : Nat, a < s.heap.size → ¬ fr g a → U.heap[a]? = s.heap[a]?) : Stc g U := by
  have hvm := hW.alike
  obtain ⟨h1, h2, ⟨h3, h4, h5, h6⟩, h7, h8⟩ := h
  exact ⟨va_K.moved hvm h1, va_En.moved hvm (va_En.kept h2 hq), ⟨va_Z.moved hvm (h3.kept hq), va_T.moved hvm (h4.kept hq), va_Ef.moved hvm (h5.kept hq), vk_S.moved hvm (h6.kept hq)⟩, Nat.le_trans h7 hz, fun w hw => NW_warm hw hW (h8 w hw)⟩
theorem Stc.nest {g : GT} {s : State} (h : Stc g s) {w : Cond} (hw : w ∈ NWs) (args : Array Value) : w.before args s = true := NW_use hw (h.2.2.2.2 w hw) args
theorem va_RA_name {U : State} {cA : ClassId} {ty : FieldType} (h : va_RA U cA ty) : U.vm.findClass ("[" ++ ty.toString) = some cA := by
  cases ty with
  | object C =>
    obtain ⟨kA, comp, h1, h2, h3, h4⟩ := h
    exact h4
  | _ => exact h
/-! the words -/
def WT : List Cond := lw_tbl.filter goodWord
theorem WT_in {w : Cond} (h : w ∈ WT) : w ∈ lw_tbl := (List.mem_filter.mp h).1
theorem WT_good : GoodIn WT WT := fun w h => ⟨h, good_of_word (List.mem_filter.mp h).2⟩
/-- the word at a place of the tables -/
theorem WT_at {w : Cond} (i : Nat) (h : tables_1[i]? = some w) (hg : goodWord w = true) : w ∈ WT := List.mem_filter.mpr ⟨List.mem_append_right _ (List.mem_of_getElem? h), hg⟩
theorem WT_sel {w : Cond} (i : Nat) (h : (k2_sels lw_privs)[i]? = some w) (hg : goodWord w = true) : w ∈ WT := List.mem_filter.mpr ⟨List.mem_append_left _ (List.mem_of_getElem? h), hg⟩
theorem cl_at : ∀ t, t < 13 → clL[t]? = some (cS t, cT t, cN t) := fun t h => by
  match t, h with
  | 0, _ => rfl | 1, _ => rfl | 2, _ => rfl | 3, _ => rfl | 4, _ => rfl | 5, _ => rfl | 6, _ => rfl | 7, _ => rfl | 8, _ => rfl | 9, _ => rfl | 10, _ => rfl | 11, _ => rfl | 12, _ => rfl
  | n + 13, h => omega
set_option maxRecDepth 20000 in
theorem cl_ws : ∀ t, t < 13 → ∀ w ∈ u_ws (cS t) (cT t) (cN t), w ∈ WT := by decide +kernel
theorem cl_ty : ∀ t, t < 13 → ∀ k, k < cN t → parseFieldDescriptor (cT t k).2.2.1 = some (cY t k) := by decide +kernel
theorem cl_nm : ∀ t, t < 13 → ∀ a, a < cN t → ∀ b, b < cN t → a ≠ b → (cT t a).2.1 ≠ (cT t b).2.1 := fun t h => by
  match t, h with
  | 0, _ => exact nmX0 | 1, _ => exact nmX1 | 2, _ => exact nmX2 | 3, _ => exact nmX3 | 4, _ => exact nmX4 | 5, _ => exact nmX5 | 6, _ => exact nmX6 | 7, _ => exact nmX7 | 8, _ => exact nmX8 | 9, _ => exact nmX9 | 10, _ => exact nmX10 | 11, _ => exact nmX11 | 12, _ => exact nmX12
  | n + 13, h => omega
end
section
/-! ===== THE JUDGEMENT V: a method's body over the memory ===== -/
abbrev ZT : Type := Program × Launch × Env × Room × State × MethodId × Array Value × List Frame × Method × Code
def QQ (g : GT) (Q : Option Value → LT → MT → Prop) : Array Value → State → Outcome → State → Prop := fun _ st o t => (∃ (v : Option Value) (w : LT) (u : MT), o = .returned (v.map (trv g)) ∧ Q v w u ∧ Rep g w u t.heap) ∧ va_F (fr g) st t
abbrev rmD (D mc ms : Nat) : Room := { frames := D, cells := mc, slots := ms, locals := 64 * D }
def Cx (z : ZT) (g : GT) (cc : ByteArray) (nL : Nat) (own : String) (ret : Option FieldType) (D mc ms : Nat) : Prop := match z with
  | (p, _, _, R, s, m, args, _, meth, c) => p.tables.exec = Jvm.exec ∧ c.code = cc ∧ c.maxLocals = nL ∧ s.vm.findClass own = some m.cls ∧ (∀ w ∈ WT, w.before args s = true) ∧ meth.sig.returnType = ret ∧ meth.locks = false ∧ Stc g s ∧ R = rmD D mc ms
def Cn (z : ZT) : Prop := match z with
  | (_, _, _, _, _, _, _, _, meth, _) => meth.name = "<init>"
def V (z : ZT) (g : GT) (nL : Nat) (pc : Nat) (lv : List (Nat × Value)) (st : List Value) (w : LT) (u : MT) (kc ks : Nat) (Q : Option Value → LT → MT → Prop) : Prop := match z with
  | (p, l, e, R, s, m, args, below, meth, c) => ∀ (H : Heap) (locs : List Loc) (ls : Array Slot), Rep g w u H → va_S (fr g) s.heap H locs → lv_has ls nL (lv.map fun q => (q.1, trv g q.2)) → W p l e R s m args below meth c H locs kc ks (MQ below (QQ g Q) args s R.cells R.slots (fr g)) (F0 m pc ls (st.map (trv g)))
theorem lvm_at {g : GT} {lv : List (Nat × Value)} {ls : Array Slot} {nL j i : Nat} {v : Value} (hl : lv_has ls nL (lv.map fun q => (q.1, trv g q.2))) (h : lv[j]? = some (i, v)) : ls[i]? = some (.val (trv g v)) := lv_at hl j (by rw [List.getElem?_map, h]; rfl)
def lst1 (i : Nat) (v : Value) (lv : List (Nat × Value)) : List (Nat × Value) := (i, v) :: lv.filter (fun q => !(q.1 == i) && !(q.1 + 1 == i && q.2.category == 2))
def lst2 (i : Nat) (v : Value) (lv : List (Nat × Value)) : List (Nat × Value) := (i, v) :: lv.filter (fun q => !(q.1 == i) && (!(q.1 == i + 1) && !(q.1 + 1 == i && q.2.category == 2)))
theorem lst1_map (g : GT) (i : Nat) (v : Value) (lv : List (Nat × Value)) : lst1 i (trv g v) (lv.map fun q => (q.1, trv g q.2)) = (lst1 i v lv).map fun q => (q.1, trv g q.2) := by
  unfold lst1
  rw [List.map_cons, List.filter_map]
  congr 2
  apply List.filter_congr
  intro q _
  simp only [Function.comp, trv_cat]
theorem lst2_map (g : GT) (i : Nat) (v : Value) (lv : List (Nat × Value)) : lst2 i (trv g v) (lv.map fun q => (q.1, trv g q.2)) = (lst2 i v lv).map fun q => (q.1, trv g q.2) := by
  unfold lst2
  rw [List.map_cons, List.filter_map]
  congr 2
  apply List.filter_congr
  intro q _
  simp only [Function.comp, trv_cat]
theorem trm_sum (g : GT) (st : List Value) : ((st.map (trv g)).map fun v => v.category).sum = (st.map fun v => v.category).sum := by
  rw [List.map_map]
  congr 1
  apply List.map_congr_left
  intro v _
  exact trv_cat g v
section VPURE
variable {z : ZT} {g : GT} {cc : ByteArray} {nL : Nat} {own : String} {ret : Option FieldType} {D mc ms : Nat} {pc : Nat} {lv lv' : List (Nat × Value)} {st : List Value} {w : LT} {u : MT} {kc ks : Nat} {Q : Option Value → LT → MT → Prop}
theorem Viconst {n : Int} {x : Int32} (C : Cx z g cc nL own ret D mc ms) (d : decode cc pc = .ok (.iconst n, 1)) (hv : Int32.ofInt n = x) (k : V z g nL (pc + 1) lv (.int x :: st) w u kc ks Q) : V z g nL pc lv (st) w u kc ks Q := by
  obtain ⟨p, l, e, R, s, m, args, below, meth, c⟩ := z
  intro H locs ls hR hS hl
  exact lv_iconst C.1 C.2.1 d hv (k H locs ls hR hS hl)
theorem Vbipush {n : Int} {x : Int32} (C : Cx z g cc nL own ret D mc ms) (d : decode cc pc = .ok (.bipush n, 2)) (hv : (Int8.ofInt n).toInt32 = x) (k : V z g nL (pc + 2) lv (.int x :: st) w u kc ks Q) : V z g nL pc lv (st) w u kc ks Q := by
  obtain ⟨p, l, e, R, s, m, args, below, meth, c⟩ := z
  intro H locs ls hR hS hl
  exact lv_bipush C.1 C.2.1 d hv (k H locs ls hR hS hl)
theorem Vsipush {n : Int} {x : Int32} (C : Cx z g cc nL own ret D mc ms) (d : decode cc pc = .ok (.sipush n, 3)) (hv : (Int16.ofInt n).toInt32 = x) (k : V z g nL (pc + 3) lv (.int x :: st) w u kc ks Q) : V z g nL pc lv (st) w u kc ks Q := by
  obtain ⟨p, l, e, R, s, m, args, below, meth, c⟩ := z
  intro H locs ls hR hS hl
  exact lv_sipush C.1 C.2.1 d hv (k H locs ls hR hS hl)
theorem Vlconst {n : Fin 2} {x : Int64} (C : Cx z g cc nL own ret D mc ms) (d : decode cc pc = .ok (.lconst n, 1)) (hv : Int64.ofNat (n : Nat) = x) (k : V z g nL (pc + 1) lv (.long x :: st) w u kc ks Q) : V z g nL pc lv (st) w u kc ks Q := by
  obtain ⟨p, l, e, R, s, m, args, below, meth, c⟩ := z
  intro H locs ls hR hS hl
  exact lv_lconst C.1 C.2.1 d hv (k H locs ls hR hS hl)
theorem Vnull  (C : Cx z g cc nL own ret D mc ms) (d : decode cc pc = .ok (.aconst_null, 1)) (k : V z g nL (pc + 1) lv (.ref 0 :: st) w u kc ks Q) : V z g nL pc lv (st) w u kc ks Q := by
  obtain ⟨p, l, e, R, s, m, args, below, meth, c⟩ := z
  intro H locs ls hR hS hl
  exact lv_null C.1 C.2.1 d (k H locs ls hR hS hl)
theorem Vldc {i : Nat} {x : Int32} (C : Cx z g cc nL own ret D mc ms) (hw : Cond.constant own i x ∈ WT) (d : decode cc pc = .ok (.ldc i, 2)) (k : V z g nL (pc + 2) lv (.int x :: st) w u kc ks Q) : V z g nL pc lv (st) w u kc ks Q := by
  obtain ⟨p, l, e, R, s, m, args, below, meth, c⟩ := z
  intro H locs ls hR hS hl
  exact lv_ldc C.1 C.2.1 C.2.2.2.1 (C.2.2.2.2.1 _ hw) d (k H locs ls hR hS hl)
theorem Vldc2 {i : Nat} {x : Int64} (C : Cx z g cc nL own ret D mc ms) (hw : Cond.constantLong own i x ∈ WT) (d : decode cc pc = .ok (.ldc2_w i, 3)) (k : V z g nL (pc + 3) lv (.long x :: st) w u kc ks Q) : V z g nL pc lv (st) w u kc ks Q := by
  obtain ⟨p, l, e, R, s, m, args, below, meth, c⟩ := z
  intro H locs ls hR hS hl
  exact lv_ldc2 C.1 C.2.1 C.2.2.2.1 (C.2.2.2.2.1 _ hw) d (k H locs ls hR hS hl)
theorem Viload_n {k4 : Fin 4} {i : Nat} {x : Int32} (C : Cx z g cc nL own ret D mc ms) (j : Nat) (d : decode cc pc = .ok (.iload_n k4, 1)) (hi : (k4 : Nat) = i) (h : lv[j]? = some (i, .int x)) (k : V z g nL (pc + 1) lv (.int x :: st) w u kc ks Q) : V z g nL pc lv (st) w u kc ks Q := by
  obtain ⟨p, l, e, R, s, m, args, below, meth, c⟩ := z
  intro H locs ls hR hS hl
  exact lv_iload_n C.1 C.2.1 d hi (lvm_at (v := .int x) hl h) (k H locs ls hR hS hl)
theorem Viload {i : Nat} {x : Int32} (C : Cx z g cc nL own ret D mc ms) (j : Nat) (d : decode cc pc = .ok (.iload i, 2)) (h : lv[j]? = some (i, .int x)) (k : V z g nL (pc + 2) lv (.int x :: st) w u kc ks Q) : V z g nL pc lv (st) w u kc ks Q := by
  obtain ⟨p, l, e, R, s, m, args, below, meth, c⟩ := z
  intro H locs ls hR hS hl
  exact lv_iload C.1 C.2.1 d (lvm_at (v := .int x) hl h) (k H locs ls hR hS hl)
theorem Vlload_n {k4 : Fin 4} {i : Nat} {x : Int64} (C : Cx z g cc nL own ret D mc ms) (j : Nat) (d : decode cc pc = .ok (.lload_n k4, 1)) (hi : (k4 : Nat) = i) (h : lv[j]? = some (i, .long x)) (k : V z g nL (pc + 1) lv (.long x :: st) w u kc ks Q) : V z g nL pc lv (st) w u kc ks Q := by
  obtain ⟨p, l, e, R, s, m, args, below, meth, c⟩ := z
  intro H locs ls hR hS hl
  exact lv_lload_n C.1 C.2.1 d hi (lvm_at (v := .long x) hl h) (k H locs ls hR hS hl)
theorem Vlload {i : Nat} {x : Int64} (C : Cx z g cc nL own ret D mc ms) (j : Nat) (d : decode cc pc = .ok (.lload i, 2)) (h : lv[j]? = some (i, .long x)) (k : V z g nL (pc + 2) lv (.long x :: st) w u kc ks Q) : V z g nL pc lv (st) w u kc ks Q := by
  obtain ⟨p, l, e, R, s, m, args, below, meth, c⟩ := z
  intro H locs ls hR hS hl
  exact lv_lload C.1 C.2.1 d (lvm_at (v := .long x) hl h) (k H locs ls hR hS hl)
theorem Vaload_n {k4 : Fin 4} {i : Nat} {x : Nat} (C : Cx z g cc nL own ret D mc ms) (j : Nat) (d : decode cc pc = .ok (.aload_n k4, 1)) (hi : (k4 : Nat) = i) (h : lv[j]? = some (i, .ref x)) (k : V z g nL (pc + 1) lv (.ref x :: st) w u kc ks Q) : V z g nL pc lv st w u kc ks Q := by
  obtain ⟨p, l, e, R, s, m, args, below, meth, c⟩ := z
  intro H locs ls hR hS hl
  have h1 := lvm_at hl h
  have h2 := k H locs ls hR hS hl
  by_cases hx : x = 0
  · subst hx
    exact lv_aload_nN C.1 C.2.1 d hi h1 h2
  · simp only [trv, tr, hx, if_false, List.map_cons] at h1 h2
    exact lv_aload_n C.1 C.2.1 d hi h1 h2
theorem Vaload {i : Nat} {x : Nat} (C : Cx z g cc nL own ret D mc ms) (j : Nat) (d : decode cc pc = .ok (.aload i, 2)) (h : lv[j]? = some (i, .ref x)) (k : V z g nL (pc + 2) lv (.ref x :: st) w u kc ks Q) : V z g nL pc lv st w u kc ks Q := by
  obtain ⟨p, l, e, R, s, m, args, below, meth, c⟩ := z
  intro H locs ls hR hS hl
  have h1 := lvm_at hl h
  have h2 := k H locs ls hR hS hl
  by_cases hx : x = 0
  · subst hx
    exact lv_aloadN C.1 C.2.1 d h1 h2
  · simp only [trv, tr, hx, if_false, List.map_cons] at h1 h2
    exact lv_aload C.1 C.2.1 d h1 h2
theorem Vistore_n {k4 : Fin 4} {i : Nat} {x : Int32} (C : Cx z g cc nL own ret D mc ms) (d : decode cc pc = .ok (.istore_n k4, 1)) (hi : (k4 : Nat) = i) (hn : i < nL) (h : lst1 i (.int x) lv = lv') (k : V z g nL (pc + 1) lv' st w u kc ks Q) : V z g nL pc lv (.int x :: st) w u kc ks Q := by
  obtain ⟨p, l, e, R, s, m, args, below, meth, c⟩ := z
  intro H locs ls hR hS hl
  subst h
  exact lv_istore_n C.1 C.2.1 d hi hl hn (lst1_map g i (.int x) lv) (fun ls' hl' => k H locs ls' hR hS hl')
theorem Vistore {i : Nat} {x : Int32} (C : Cx z g cc nL own ret D mc ms) (d : decode cc pc = .ok (.istore i, 2)) (hn : i < nL) (h : lst1 i (.int x) lv = lv') (k : V z g nL (pc + 2) lv' st w u kc ks Q) : V z g nL pc lv (.int x :: st) w u kc ks Q := by
  obtain ⟨p, l, e, R, s, m, args, below, meth, c⟩ := z
  intro H locs ls hR hS hl
  subst h
  exact lv_istore C.1 C.2.1 d hl hn (lst1_map g i (.int x) lv) (fun ls' hl' => k H locs ls' hR hS hl')
theorem Vlstore_n {k4 : Fin 4} {i : Nat} {x : Int64} (C : Cx z g cc nL own ret D mc ms) (d : decode cc pc = .ok (.lstore_n k4, 1)) (hi : (k4 : Nat) = i) (hn : i + 1 < nL) (h : lst2 i (.long x) lv = lv') (k : V z g nL (pc + 1) lv' st w u kc ks Q) : V z g nL pc lv (.long x :: st) w u kc ks Q := by
  obtain ⟨p, l, e, R, s, m, args, below, meth, c⟩ := z
  intro H locs ls hR hS hl
  subst h
  exact lv_lstore_n C.1 C.2.1 d hi hl hn (lst2_map g i (.long x) lv) (fun ls' hl' => k H locs ls' hR hS hl')
theorem Vlstore {i : Nat} {x : Int64} (C : Cx z g cc nL own ret D mc ms) (d : decode cc pc = .ok (.lstore i, 2)) (hn : i + 1 < nL) (h : lst2 i (.long x) lv = lv') (k : V z g nL (pc + 2) lv' st w u kc ks Q) : V z g nL pc lv (.long x :: st) w u kc ks Q := by
  obtain ⟨p, l, e, R, s, m, args, below, meth, c⟩ := z
  intro H locs ls hR hS hl
  subst h
  exact lv_lstore C.1 C.2.1 d hl hn (lst2_map g i (.long x) lv) (fun ls' hl' => k H locs ls' hR hS hl')
theorem Vastore_n {k4 : Fin 4} {i : Nat} {x : Nat} (C : Cx z g cc nL own ret D mc ms) (d : decode cc pc = .ok (.astore_n k4, 1)) (hi : (k4 : Nat) = i) (hn : i < nL) (h : lst1 i (.ref x) lv = lv') (k : V z g nL (pc + 1) lv' st w u kc ks Q) : V z g nL pc lv (.ref x :: st) w u kc ks Q := by
  obtain ⟨p, l, e, R, s, m, args, below, meth, c⟩ := z
  intro H locs ls hR hS hl
  subst h
  have h1 := lst1_map g i (.ref x) lv
  by_cases hx : x = 0
  · subst hx
    exact lv_astore_nN C.1 C.2.1 d hi hl hn h1 (fun ls' hl' => k H locs ls' hR hS hl')
  · have h2 : trv g (.ref x) = .ref (adr g x) := by simp [trv, tr, hx]
    rw [h2] at h1
    show W p l e R s m args below meth c H locs kc ks _ (F0 m pc ls (trv g (.ref x) :: st.map (trv g)))
    rw [h2]
    exact lv_astore_n C.1 C.2.1 d hi hl hn h1 (fun ls' hl' => k H locs ls' hR hS hl')
theorem Vastore {i : Nat} {x : Nat} (C : Cx z g cc nL own ret D mc ms) (d : decode cc pc = .ok (.astore i, 2)) (hn : i < nL) (h : lst1 i (.ref x) lv = lv') (k : V z g nL (pc + 2) lv' st w u kc ks Q) : V z g nL pc lv (.ref x :: st) w u kc ks Q := by
  obtain ⟨p, l, e, R, s, m, args, below, meth, c⟩ := z
  intro H locs ls hR hS hl
  subst h
  have h1 := lst1_map g i (.ref x) lv
  by_cases hx : x = 0
  · subst hx
    exact lv_astoreN C.1 C.2.1 d hl hn h1 (fun ls' hl' => k H locs ls' hR hS hl')
  · have h2 : trv g (.ref x) = .ref (adr g x) := by simp [trv, tr, hx]
    rw [h2] at h1
    show W p l e R s m args below meth c H locs kc ks _ (F0 m pc ls (trv g (.ref x) :: st.map (trv g)))
    rw [h2]
    exact lv_astore C.1 C.2.1 d hl hn h1 (fun ls' hl' => k H locs ls' hR hS hl')
theorem Viinc {i j : Nat} {n : Int} {x v : Int32} (C : Cx z g cc nL own ret D mc ms) (d : decode cc pc = .ok (.iinc i n, 3)) (h : lv[j]? = some (i, .int x)) (hv : x + Int32.ofInt n = v) (hn : i < nL) (hl' : lst1 i (.int v) lv = lv') (k : V z g nL (pc + 3) lv' st w u kc ks Q) : V z g nL pc lv st w u kc ks Q := by
  obtain ⟨p, l, e, R, s, m, args, below, meth, c⟩ := z
  intro H locs ls hR hS hl
  subst hl'
  exact lv_iinc C.1 C.2.1 d hl (k := j) (by rw [List.getElem?_map, h]; rfl) hv hn (lst1_map g i (.int v) lv) (fun ls' hl' => k H locs ls' hR hS hl')
theorem Viadd {x y : Int32} (C : Cx z g cc nL own ret D mc ms) (d : decode cc pc = .ok (.iadd, 1)) (k : V z g nL (pc + 1) lv (.int (x + y) :: st) w u kc ks Q) : V z g nL pc lv (.int y :: .int x :: st) w u kc ks Q := by
  obtain ⟨p, l, e, R, s, m, args, below, meth, c⟩ := z
  intro H locs ls hR hS hl
  exact lv_iadd C.1 C.2.1 d (k H locs ls hR hS hl)
theorem Visub {x y : Int32} (C : Cx z g cc nL own ret D mc ms) (d : decode cc pc = .ok (.isub, 1)) (k : V z g nL (pc + 1) lv (.int (x - y) :: st) w u kc ks Q) : V z g nL pc lv (.int y :: .int x :: st) w u kc ks Q := by
  obtain ⟨p, l, e, R, s, m, args, below, meth, c⟩ := z
  intro H locs ls hR hS hl
  exact lv_isub C.1 C.2.1 d (k H locs ls hR hS hl)
theorem Vimul {x y : Int32} (C : Cx z g cc nL own ret D mc ms) (d : decode cc pc = .ok (.imul, 1)) (k : V z g nL (pc + 1) lv (.int (x * y) :: st) w u kc ks Q) : V z g nL pc lv (.int y :: .int x :: st) w u kc ks Q := by
  obtain ⟨p, l, e, R, s, m, args, below, meth, c⟩ := z
  intro H locs ls hR hS hl
  exact lv_imul C.1 C.2.1 d (k H locs ls hR hS hl)
theorem Viand {x y : Int32} (C : Cx z g cc nL own ret D mc ms) (d : decode cc pc = .ok (.iand, 1)) (k : V z g nL (pc + 1) lv (.int (x &&& y) :: st) w u kc ks Q) : V z g nL pc lv (.int y :: .int x :: st) w u kc ks Q := by
  obtain ⟨p, l, e, R, s, m, args, below, meth, c⟩ := z
  intro H locs ls hR hS hl
  exact lv_iand C.1 C.2.1 d (k H locs ls hR hS hl)
theorem Vidiv {x y : Int32} (C : Cx z g cc nL own ret D mc ms) (d : decode cc pc = .ok (.idiv, 1)) (hne : ¬ y = 0) (k : V z g nL (pc + 1) lv (.int (x / y) :: st) w u kc ks Q) : V z g nL pc lv (.int y :: .int x :: st) w u kc ks Q := by
  obtain ⟨p, l, e, R, s, m, args, below, meth, c⟩ := z
  intro H locs ls hR hS hl
  exact lv_idiv C.1 C.2.1 d hne (k H locs ls hR hS hl)
theorem Virem {x y : Int32} (C : Cx z g cc nL own ret D mc ms) (d : decode cc pc = .ok (.irem, 1)) (hne : ¬ y = 0) (k : V z g nL (pc + 1) lv (.int (x - x / y * y) :: st) w u kc ks Q) : V z g nL pc lv (.int y :: .int x :: st) w u kc ks Q := by
  obtain ⟨p, l, e, R, s, m, args, below, meth, c⟩ := z
  intro H locs ls hR hS hl
  exact lv_irem C.1 C.2.1 d hne (k H locs ls hR hS hl)
theorem Vineg {x : Int32} (C : Cx z g cc nL own ret D mc ms) (d : decode cc pc = .ok (.ineg, 1)) (k : V z g nL (pc + 1) lv (.int (-x) :: st) w u kc ks Q) : V z g nL pc lv (.int x :: st) w u kc ks Q := by
  obtain ⟨p, l, e, R, s, m, args, below, meth, c⟩ := z
  intro H locs ls hR hS hl
  exact lv_ineg C.1 C.2.1 d (k H locs ls hR hS hl)
theorem Vladd {x y : Int64} (C : Cx z g cc nL own ret D mc ms) (d : decode cc pc = .ok (.ladd, 1)) (k : V z g nL (pc + 1) lv (.long (x + y) :: st) w u kc ks Q) : V z g nL pc lv (.long y :: .long x :: st) w u kc ks Q := by
  obtain ⟨p, l, e, R, s, m, args, below, meth, c⟩ := z
  intro H locs ls hR hS hl
  exact lv_ladd C.1 C.2.1 d (k H locs ls hR hS hl)
theorem Vlsub {x y : Int64} (C : Cx z g cc nL own ret D mc ms) (d : decode cc pc = .ok (.lsub, 1)) (k : V z g nL (pc + 1) lv (.long (x - y) :: st) w u kc ks Q) : V z g nL pc lv (.long y :: .long x :: st) w u kc ks Q := by
  obtain ⟨p, l, e, R, s, m, args, below, meth, c⟩ := z
  intro H locs ls hR hS hl
  exact lv_lsub C.1 C.2.1 d (k H locs ls hR hS hl)
theorem Vlmul {x y : Int64} (C : Cx z g cc nL own ret D mc ms) (d : decode cc pc = .ok (.lmul, 1)) (k : V z g nL (pc + 1) lv (.long (x * y) :: st) w u kc ks Q) : V z g nL pc lv (.long y :: .long x :: st) w u kc ks Q := by
  obtain ⟨p, l, e, R, s, m, args, below, meth, c⟩ := z
  intro H locs ls hR hS hl
  exact lv_lmul C.1 C.2.1 d (k H locs ls hR hS hl)
theorem Vland {x y : Int64} (C : Cx z g cc nL own ret D mc ms) (d : decode cc pc = .ok (.land, 1)) (k : V z g nL (pc + 1) lv (.long (x &&& y) :: st) w u kc ks Q) : V z g nL pc lv (.long y :: .long x :: st) w u kc ks Q := by
  obtain ⟨p, l, e, R, s, m, args, below, meth, c⟩ := z
  intro H locs ls hR hS hl
  exact lv_land C.1 C.2.1 d (k H locs ls hR hS hl)
theorem Vlor {x y : Int64} (C : Cx z g cc nL own ret D mc ms) (d : decode cc pc = .ok (.lor, 1)) (k : V z g nL (pc + 1) lv (.long (x ||| y) :: st) w u kc ks Q) : V z g nL pc lv (.long y :: .long x :: st) w u kc ks Q := by
  obtain ⟨p, l, e, R, s, m, args, below, meth, c⟩ := z
  intro H locs ls hR hS hl
  exact lv_lor C.1 C.2.1 d (k H locs ls hR hS hl)
theorem Vldiv {x y : Int64} (C : Cx z g cc nL own ret D mc ms) (d : decode cc pc = .ok (.ldiv, 1)) (hne : ¬ y = 0) (k : V z g nL (pc + 1) lv (.long (x / y) :: st) w u kc ks Q) : V z g nL pc lv (.long y :: .long x :: st) w u kc ks Q := by
  obtain ⟨p, l, e, R, s, m, args, below, meth, c⟩ := z
  intro H locs ls hR hS hl
  exact lv_ldiv C.1 C.2.1 d hne (k H locs ls hR hS hl)
theorem Vlshl {x : Int64} {y : Int32} (C : Cx z g cc nL own ret D mc ms) (d : decode cc pc = .ok (.lshl, 1)) (k : V z g nL (pc + 1) lv (.long (x <<< (y.toInt64 &&& 63)) :: st) w u kc ks Q) : V z g nL pc lv (.int y :: .long x :: st) w u kc ks Q := by
  obtain ⟨p, l, e, R, s, m, args, below, meth, c⟩ := z
  intro H locs ls hR hS hl
  exact lv_lshl C.1 C.2.1 d rfl (k H locs ls hR hS hl)
theorem Vlushr {x : Int64} {y : Int32} (C : Cx z g cc nL own ret D mc ms) (d : decode cc pc = .ok (.lushr, 1)) (k : V z g nL (pc + 1) lv (.long (x.toUInt64 >>> (y.toInt64.toUInt64 &&& Int64.toUInt64 63)).toInt64 :: st) w u kc ks Q) : V z g nL pc lv (.int y :: .long x :: st) w u kc ks Q := by
  obtain ⟨p, l, e, R, s, m, args, below, meth, c⟩ := z
  intro H locs ls hR hS hl
  exact lv_lushr C.1 C.2.1 d rfl (k H locs ls hR hS hl)
theorem Vlshr {x : Int64} {y : Int32} (C : Cx z g cc nL own ret D mc ms) (d : decode cc pc = .ok (.lshr, 1)) (k : V z g nL (pc + 1) lv (.long (x >>> (y.toInt64 &&& 63)) :: st) w u kc ks Q) : V z g nL pc lv (.int y :: .long x :: st) w u kc ks Q := by
  obtain ⟨p, l, e, R, s, m, args, below, meth, c⟩ := z
  intro H locs ls hR hS hl
  exact lv_lshr C.1 C.2.1 d rfl (k H locs ls hR hS hl)
theorem Vi2l {x : Int32} (C : Cx z g cc nL own ret D mc ms) (d : decode cc pc = .ok (.i2l, 1)) (k : V z g nL (pc + 1) lv (.long x.toInt64 :: st) w u kc ks Q) : V z g nL pc lv (.int x :: st) w u kc ks Q := by
  obtain ⟨p, l, e, R, s, m, args, below, meth, c⟩ := z
  intro H locs ls hR hS hl
  exact lv_i2l C.1 C.2.1 d rfl (k H locs ls hR hS hl)
theorem Vl2i {x : Int64} (C : Cx z g cc nL own ret D mc ms) (d : decode cc pc = .ok (.l2i, 1)) (k : V z g nL (pc + 1) lv (.int x.toInt32 :: st) w u kc ks Q) : V z g nL pc lv (.long x :: st) w u kc ks Q := by
  obtain ⟨p, l, e, R, s, m, args, below, meth, c⟩ := z
  intro H locs ls hR hS hl
  exact lv_l2i C.1 C.2.1 d rfl (k H locs ls hR hS hl)
theorem Vi2c {x : Int32} (C : Cx z g cc nL own ret D mc ms) (d : decode cc pc = .ok (.i2c, 1)) (k : V z g nL (pc + 1) lv (.int (x.toUInt32 % 65536).toInt32 :: st) w u kc ks Q) : V z g nL pc lv (.int x :: st) w u kc ks Q := by
  obtain ⟨p, l, e, R, s, m, args, below, meth, c⟩ := z
  intro H locs ls hR hS hl
  exact lv_i2c C.1 C.2.1 d rfl (k H locs ls hR hS hl)
theorem Vlcmp {x y : Int64} (C : Cx z g cc nL own ret D mc ms) (d : decode cc pc = .ok (.lcmp, 1)) (k : V z g nL (pc + 1) lv (.int (lg_cmp x y) :: st) w u kc ks Q) : V z g nL pc lv (.long y :: .long x :: st) w u kc ks Q := by
  obtain ⟨p, l, e, R, s, m, args, below, meth, c⟩ := z
  intro H locs ls hR hS hl
  exact W.lcmp C.1 C.2.1 d (k H locs ls hR hS hl)
theorem Vdup {a : Value} (C : Cx z g cc nL own ret D mc ms) (d : decode cc pc = .ok (.dup, 1)) (ha : a.category = 1) (k : V z g nL (pc + 1) lv (a :: a :: st) w u kc ks Q) : V z g nL pc lv (a :: st) w u kc ks Q := by
  obtain ⟨p, l, e, R, s, m, args, below, meth, c⟩ := z
  intro H locs ls hR hS hl
  exact lv_dup C.1 C.2.1 d ((trv_cat g a).trans ha) (k H locs ls hR hS hl)
theorem Vpop {a : Value} (C : Cx z g cc nL own ret D mc ms) (d : decode cc pc = .ok (.pop, 1)) (ha : a.category = 1) (k : V z g nL (pc + 1) lv (st) w u kc ks Q) : V z g nL pc lv (a :: st) w u kc ks Q := by
  obtain ⟨p, l, e, R, s, m, args, below, meth, c⟩ := z
  intro H locs ls hR hS hl
  exact lv_pop C.1 C.2.1 d ((trv_cat g a).trans ha) (k H locs ls hR hS hl)
theorem Vdup2 {a b : Value} (C : Cx z g cc nL own ret D mc ms) (d : decode cc pc = .ok (.dup2, 1)) (ha : a.category = 1) (hb : b.category = 1) (k : V z g nL (pc + 1) lv (a :: b :: a :: b :: st) w u kc ks Q) : V z g nL pc lv (a :: b :: st) w u kc ks Q := by
  obtain ⟨p, l, e, R, s, m, args, below, meth, c⟩ := z
  intro H locs ls hR hS hl
  exact lv_dup2_11 C.1 C.2.1 d ((trv_cat g a).trans ha) ((trv_cat g b).trans hb) (k H locs ls hR hS hl)
theorem Vdup2L {a : Value} (C : Cx z g cc nL own ret D mc ms) (d : decode cc pc = .ok (.dup2, 1)) (ha : a.category = 2) (k : V z g nL (pc + 1) lv (a :: a :: st) w u kc ks Q) : V z g nL pc lv (a :: st) w u kc ks Q := by
  obtain ⟨p, l, e, R, s, m, args, below, meth, c⟩ := z
  intro H locs ls hR hS hl
  exact lv_dup2_2 C.1 C.2.1 d ((trv_cat g a).trans ha) (k H locs ls hR hS hl)
theorem Vif_eq {x : Int32} {off : Int} {tgt : Nat} (C : Cx z g cc nL own ret D mc ms) (d : decode cc pc = .ok (.ifCond .eq off, 3)) (ht : (pc : Int) + off = (tgt : Int)) (kt : x = 0 → V z g nL tgt lv st w u kc ks Q) (kf : ¬ x = 0 → V z g nL (pc + 3) lv st w u kc ks Q) : V z g nL pc lv (.int x :: st) w u kc ks Q := by
  obtain ⟨p, l, e, R, s, m, args, below, meth, c⟩ := z
  intro H locs ls hR hS hl
  exact lv_if_eq C.1 C.2.1 d ht (fun q => kt q H locs ls hR hS hl) (fun q => kf q H locs ls hR hS hl)
theorem Vicmp_eq {x y : Int32} {off : Int} {tgt : Nat} (C : Cx z g cc nL own ret D mc ms) (d : decode cc pc = .ok (.if_icmp .eq off, 3)) (ht : (pc : Int) + off = (tgt : Int)) (kt : x = y → V z g nL tgt lv st w u kc ks Q) (kf : ¬ x = y → V z g nL (pc + 3) lv st w u kc ks Q) : V z g nL pc lv (.int y :: .int x :: st) w u kc ks Q := by
  obtain ⟨p, l, e, R, s, m, args, below, meth, c⟩ := z
  intro H locs ls hR hS hl
  exact lv_icmp_eq C.1 C.2.1 d ht (fun q => kt q H locs ls hR hS hl) (fun q => kf q H locs ls hR hS hl)
theorem Vif_ne {x : Int32} {off : Int} {tgt : Nat} (C : Cx z g cc nL own ret D mc ms) (d : decode cc pc = .ok (.ifCond .ne off, 3)) (ht : (pc : Int) + off = (tgt : Int)) (kt : ¬ x = 0 → V z g nL tgt lv st w u kc ks Q) (kf : x = 0 → V z g nL (pc + 3) lv st w u kc ks Q) : V z g nL pc lv (.int x :: st) w u kc ks Q := by
  obtain ⟨p, l, e, R, s, m, args, below, meth, c⟩ := z
  intro H locs ls hR hS hl
  exact lv_if_ne C.1 C.2.1 d ht (fun q => kt q H locs ls hR hS hl) (fun q => kf q H locs ls hR hS hl)
theorem Vicmp_ne {x y : Int32} {off : Int} {tgt : Nat} (C : Cx z g cc nL own ret D mc ms) (d : decode cc pc = .ok (.if_icmp .ne off, 3)) (ht : (pc : Int) + off = (tgt : Int)) (kt : ¬ x = y → V z g nL tgt lv st w u kc ks Q) (kf : x = y → V z g nL (pc + 3) lv st w u kc ks Q) : V z g nL pc lv (.int y :: .int x :: st) w u kc ks Q := by
  obtain ⟨p, l, e, R, s, m, args, below, meth, c⟩ := z
  intro H locs ls hR hS hl
  exact lv_icmp_ne C.1 C.2.1 d ht (fun q => kt q H locs ls hR hS hl) (fun q => kf q H locs ls hR hS hl)
theorem Vif_lt {x : Int32} {off : Int} {tgt : Nat} (C : Cx z g cc nL own ret D mc ms) (d : decode cc pc = .ok (.ifCond .lt off, 3)) (ht : (pc : Int) + off = (tgt : Int)) (kt : x < 0 → V z g nL tgt lv st w u kc ks Q) (kf : ¬ x < 0 → V z g nL (pc + 3) lv st w u kc ks Q) : V z g nL pc lv (.int x :: st) w u kc ks Q := by
  obtain ⟨p, l, e, R, s, m, args, below, meth, c⟩ := z
  intro H locs ls hR hS hl
  exact lv_if_lt C.1 C.2.1 d ht (fun q => kt q H locs ls hR hS hl) (fun q => kf q H locs ls hR hS hl)
theorem Vicmp_lt {x y : Int32} {off : Int} {tgt : Nat} (C : Cx z g cc nL own ret D mc ms) (d : decode cc pc = .ok (.if_icmp .lt off, 3)) (ht : (pc : Int) + off = (tgt : Int)) (kt : x < y → V z g nL tgt lv st w u kc ks Q) (kf : ¬ x < y → V z g nL (pc + 3) lv st w u kc ks Q) : V z g nL pc lv (.int y :: .int x :: st) w u kc ks Q := by
  obtain ⟨p, l, e, R, s, m, args, below, meth, c⟩ := z
  intro H locs ls hR hS hl
  exact lv_icmp_lt C.1 C.2.1 d ht (fun q => kt q H locs ls hR hS hl) (fun q => kf q H locs ls hR hS hl)
theorem Vif_ge {x : Int32} {off : Int} {tgt : Nat} (C : Cx z g cc nL own ret D mc ms) (d : decode cc pc = .ok (.ifCond .ge off, 3)) (ht : (pc : Int) + off = (tgt : Int)) (kt : 0 ≤ x → V z g nL tgt lv st w u kc ks Q) (kf : ¬ 0 ≤ x → V z g nL (pc + 3) lv st w u kc ks Q) : V z g nL pc lv (.int x :: st) w u kc ks Q := by
  obtain ⟨p, l, e, R, s, m, args, below, meth, c⟩ := z
  intro H locs ls hR hS hl
  exact lv_if_ge C.1 C.2.1 d ht (fun q => kt q H locs ls hR hS hl) (fun q => kf q H locs ls hR hS hl)
theorem Vicmp_ge {x y : Int32} {off : Int} {tgt : Nat} (C : Cx z g cc nL own ret D mc ms) (d : decode cc pc = .ok (.if_icmp .ge off, 3)) (ht : (pc : Int) + off = (tgt : Int)) (kt : y ≤ x → V z g nL tgt lv st w u kc ks Q) (kf : ¬ y ≤ x → V z g nL (pc + 3) lv st w u kc ks Q) : V z g nL pc lv (.int y :: .int x :: st) w u kc ks Q := by
  obtain ⟨p, l, e, R, s, m, args, below, meth, c⟩ := z
  intro H locs ls hR hS hl
  exact lv_icmp_ge C.1 C.2.1 d ht (fun q => kt q H locs ls hR hS hl) (fun q => kf q H locs ls hR hS hl)
theorem Vif_gt {x : Int32} {off : Int} {tgt : Nat} (C : Cx z g cc nL own ret D mc ms) (d : decode cc pc = .ok (.ifCond .gt off, 3)) (ht : (pc : Int) + off = (tgt : Int)) (kt : 0 < x → V z g nL tgt lv st w u kc ks Q) (kf : ¬ 0 < x → V z g nL (pc + 3) lv st w u kc ks Q) : V z g nL pc lv (.int x :: st) w u kc ks Q := by
  obtain ⟨p, l, e, R, s, m, args, below, meth, c⟩ := z
  intro H locs ls hR hS hl
  exact lv_if_gt C.1 C.2.1 d ht (fun q => kt q H locs ls hR hS hl) (fun q => kf q H locs ls hR hS hl)
theorem Vicmp_gt {x y : Int32} {off : Int} {tgt : Nat} (C : Cx z g cc nL own ret D mc ms) (d : decode cc pc = .ok (.if_icmp .gt off, 3)) (ht : (pc : Int) + off = (tgt : Int)) (kt : y < x → V z g nL tgt lv st w u kc ks Q) (kf : ¬ y < x → V z g nL (pc + 3) lv st w u kc ks Q) : V z g nL pc lv (.int y :: .int x :: st) w u kc ks Q := by
  obtain ⟨p, l, e, R, s, m, args, below, meth, c⟩ := z
  intro H locs ls hR hS hl
  exact lv_icmp_gt C.1 C.2.1 d ht (fun q => kt q H locs ls hR hS hl) (fun q => kf q H locs ls hR hS hl)
theorem Vif_le {x : Int32} {off : Int} {tgt : Nat} (C : Cx z g cc nL own ret D mc ms) (d : decode cc pc = .ok (.ifCond .le off, 3)) (ht : (pc : Int) + off = (tgt : Int)) (kt : x ≤ 0 → V z g nL tgt lv st w u kc ks Q) (kf : ¬ x ≤ 0 → V z g nL (pc + 3) lv st w u kc ks Q) : V z g nL pc lv (.int x :: st) w u kc ks Q := by
  obtain ⟨p, l, e, R, s, m, args, below, meth, c⟩ := z
  intro H locs ls hR hS hl
  exact lv_if_le C.1 C.2.1 d ht (fun q => kt q H locs ls hR hS hl) (fun q => kf q H locs ls hR hS hl)
theorem Vicmp_le {x y : Int32} {off : Int} {tgt : Nat} (C : Cx z g cc nL own ret D mc ms) (d : decode cc pc = .ok (.if_icmp .le off, 3)) (ht : (pc : Int) + off = (tgt : Int)) (kt : x ≤ y → V z g nL tgt lv st w u kc ks Q) (kf : ¬ x ≤ y → V z g nL (pc + 3) lv st w u kc ks Q) : V z g nL pc lv (.int y :: .int x :: st) w u kc ks Q := by
  obtain ⟨p, l, e, R, s, m, args, below, meth, c⟩ := z
  intro H locs ls hR hS hl
  exact lv_icmp_le C.1 C.2.1 d ht (fun q => kt q H locs ls hR hS hl) (fun q => kf q H locs ls hR hS hl)
theorem Vgoto {off : Int} {tgt : Nat} (C : Cx z g cc nL own ret D mc ms) (d : decode cc pc = .ok (.goto off, 3)) (ht : (pc : Int) + off = (tgt : Int)) (k : V z g nL tgt lv st w u kc ks Q) : V z g nL pc lv st w u kc ks Q := by
  obtain ⟨p, l, e, R, s, m, args, below, meth, c⟩ := z
  intro H locs ls hR hS hl
  exact lv_goto C.1 C.2.1 d ht (k H locs ls hR hS hl)
theorem Vifnull {x : Nat} {off : Int} {tgt : Nat} (C : Cx z g cc nL own ret D mc ms) (d : decode cc pc = .ok (.ifnull off, 3)) (ht : (pc : Int) + off = (tgt : Int)) (kt : x = 0 → V z g nL tgt lv st w u kc ks Q) (kf : ¬ x = 0 → V z g nL (pc + 3) lv st w u kc ks Q) : V z g nL pc lv (.ref x :: st) w u kc ks Q := by
  obtain ⟨p, l, e, R, s, m, args, below, meth, c⟩ := z
  intro H locs ls hR hS hl
  by_cases hx : x = 0
  · subst hx
    exact lv_ifnullN C.1 C.2.1 d ht (kt rfl H locs ls hR hS hl)
  · show W p l e R s m args below meth c H locs kc ks _ (F0 m pc ls (trv g (.ref x) :: st.map (trv g)))
    rw [show trv g (.ref x) = .ref (adr g x) by simp [trv, tr, hx]]
    exact lv_ifnull C.1 C.2.1 d (kf hx H locs ls hR hS hl)
theorem Vifnonnull {x : Nat} {off : Int} {tgt : Nat} (C : Cx z g cc nL own ret D mc ms) (d : decode cc pc = .ok (.ifnonnull off, 3)) (ht : (pc : Int) + off = (tgt : Int)) (kt : ¬ x = 0 → V z g nL tgt lv st w u kc ks Q) (kf : x = 0 → V z g nL (pc + 3) lv st w u kc ks Q) : V z g nL pc lv (.ref x :: st) w u kc ks Q := by
  obtain ⟨p, l, e, R, s, m, args, below, meth, c⟩ := z
  intro H locs ls hR hS hl
  by_cases hx : x = 0
  · subst hx
    exact lv_ifnonnullN C.1 C.2.1 d (kf rfl H locs ls hR hS hl)
  · show W p l e R s m args below meth c H locs kc ks _ (F0 m pc ls (trv g (.ref x) :: st.map (trv g)))
    rw [show trv g (.ref x) = .ref (adr g x) by simp [trv, tr, hx]]
    exact lv_ifnonnull C.1 C.2.1 d ht (kt hx H locs ls hR hS hl)
/-- two tokens, or null, are one if their numbers are -/
theorem tok_inj {g : GT} {U : State} (h : Stk g U) {x y : Nat} (hx : x ≤ 34) (hy : y ≤ 34) : (if x = 0 then none else some (adr g x)) = (if y = 0 then none else some (adr g y)) ↔ x = y := by
  constructor
  · intro e
    by_cases h1 : x = 0
    · by_cases h2 : y = 0
      · omega
      · simp [h1, h2] at e
    · by_cases h2 : y = 0
      · simp [h1, h2] at e
      · simp only [h1, h2, if_false, Option.some.injEq, adr, hx, hy, if_true] at e
        have := h.2 (x - 1) (y - 1) (by show x - 1 < 34; omega) (by show y - 1 < 34; omega) e
        omega
  · intro e
    rw [e]
theorem tr_rf (g : GT) (x : Nat) : trv g (.ref x) = va_rf (if x = 0 then none else some (adr g x)) := by
  simp only [trv, tr]
  by_cases h : x = 0 <;> simp [h, va_rf]
theorem Vacmp_eq {x y : Nat} {off : Int} {tgt : Nat} (C : Cx z g cc nL own ret D mc ms) (d : decode cc pc = .ok (.if_acmp .eq off, 3)) (ht : (pc : Int) + off = (tgt : Int)) (hx : x ≤ 34) (hy : y ≤ 34) (kt : x = y → V z g nL tgt lv st w u kc ks Q) (kf : ¬ x = y → V z g nL (pc + 3) lv st w u kc ks Q) : V z g nL pc lv (.ref y :: .ref x :: st) w u kc ks Q := by
  obtain ⟨p, l, e, R, s, m, args, below, meth, c⟩ := z
  intro H locs ls hR hS hl
  have hi := tok_inj C.2.2.2.2.2.2.2.1.2.1 hx hy
  show W p l e R s m args below meth c H locs kc ks _ (F0 m pc ls (trv g (.ref y) :: trv g (.ref x) :: st.map (trv g)))
  rw [tr_rf, tr_rf]
  exact lv_acmp_eq C.1 C.2.1 d ht (fun q => kt (hi.mp q) H locs ls hR hS hl) (fun q => kf (fun r => q (hi.mpr r)) H locs ls hR hS hl)
theorem Vacmp_ne {x y : Nat} {off : Int} {tgt : Nat} (C : Cx z g cc nL own ret D mc ms) (d : decode cc pc = .ok (.if_acmp .ne off, 3)) (ht : (pc : Int) + off = (tgt : Int)) (hx : x ≤ 34) (hy : y ≤ 34) (kt : ¬ x = y → V z g nL tgt lv st w u kc ks Q) (kf : x = y → V z g nL (pc + 3) lv st w u kc ks Q) : V z g nL pc lv (.ref y :: .ref x :: st) w u kc ks Q := by
  obtain ⟨p, l, e, R, s, m, args, below, meth, c⟩ := z
  intro H locs ls hR hS hl
  have hi := tok_inj C.2.2.2.2.2.2.2.1.2.1 hx hy
  show W p l e R s m args below meth c H locs kc ks _ (F0 m pc ls (trv g (.ref y) :: trv g (.ref x) :: st.map (trv g)))
  rw [tr_rf, tr_rf]
  exact lv_acmp_ne C.1 C.2.1 d ht (fun q => kt (fun r => q (hi.mpr r)) H locs ls hR hS hl) (fun q => kf (hi.mp q) H locs ls hR hS hl)
theorem VtableIn {dflt lo hi : Int} {offs : Array Int} {len : Nat} {x : Int32} {off : Int} {tgt : Nat} (C : Cx z g cc nL own ret D mc ms) (d : decode cc pc = .ok (.tableswitch dflt lo hi offs, len)) (h1 : ¬ x.toInt < lo) (h2 : ¬ hi < x.toInt) (ho : offs[(x.toInt - lo).toNat]? = some off) (ht : (pc : Int) + off = (tgt : Int)) (k : V z g nL tgt lv st w u kc ks Q) : V z g nL pc lv (.int x :: st) w u kc ks Q := by
  obtain ⟨p, l, e, R, s, m, args, below, meth, c⟩ := z
  intro H locs ls hR hS hl
  exact lv_tableIn C.1 C.2.1 d h1 h2 ho ht (k H locs ls hR hS hl)
theorem VtableOut {dflt lo hi : Int} {offs : Array Int} {len : Nat} {x : Int32} {tgt : Nat} (C : Cx z g cc nL own ret D mc ms) (d : decode cc pc = .ok (.tableswitch dflt lo hi offs, len)) (h : x.toInt < lo ∨ hi < x.toInt) (ht : (pc : Int) + dflt = (tgt : Int)) (k : V z g nL tgt lv st w u kc ks Q) : V z g nL pc lv (.int x :: st) w u kc ks Q := by
  obtain ⟨p, l, e, R, s, m, args, below, meth, c⟩ := z
  intro H locs ls hR hS hl
  exact lv_tableOut C.1 C.2.1 d h ht (k H locs ls hR hS hl)
end VPURE
end
section
/-! ===== ROWS OVER THE HEAP ===== -/
theorem Rep.dyn {g : GT} {w : LT} {u : MT} {H : Heap} (hR : Rep g w u H) {a : Nat} (h : lt_t w a ≠ 99) : 100 ≤ a ∧ a < lt_n w := by
  refine ⟨?_, ?_⟩
  · rcases Nat.lt_or_ge a 100 with q | q
    · exact absurd (hR.2.2.1 a (Or.inl q)) h
    · exact q
  · rcases Nat.lt_or_ge a (lt_n w) with q | q
    · exact q
    · exact absurd (hR.2.2.1 a (Or.inr q)) h
theorem adr_inj {g : GT} {a b : Nat} (ha : 100 ≤ a) (hb : 100 ≤ b) (h : adr g a = adr g b) : a = b := by
  rw [adr_dyn g ha, adr_dyn g hb] at h
  omega
theorem Rep.obj {g : GT} {w : LT} {u : MT} {H : Heap} (hR : Rep g w u H) {a t : Nat} (h : lt_t w a = t) (ht : t < 13) : t_OB (adr g a) (gC g t) (cN t) (gD g t) H (fv g w u t a) := by
  have h1 := hR.dyn (a := a) (by omega)
  have h2 := (hR.2.2.2 a h1.1 h1.2).1 (by omega)
  rw [h] at h2
  exact h2
theorem Rep.arr {g : GT} {w : LT} {u : MT} {H : Heap} (hR : Rep g w u H) {a t : Nat} (h : lt_t w a = t) (h1 : 20 ≤ t) (h2 : t < 27) : H[adr g a]? = some (arrV (gA g t) (lt_l w a) (av g w u t a)) := by
  have h3 := hR.dyn (a := a) (by omega)
  have h4 := (hR.2.2.2 a h3.1 h3.2).2 (by omega) (by omega)
  rw [h] at h4
  exact h4
theorem Rep.fr {g : GT} {w : LT} {u : MT} {H : Heap} (hR : Rep g w u H) {a : Nat} (h : lt_t w a ≠ 99) : fr g (adr g a) := by
  have h1 := hR.dyn h
  show gn g ≤ adr g a
  rw [adr_dyn g h1.1]
  omega
theorem Rep.val {g : GT} {w : LT} {u : MT} {H : Heap} (hR : Rep g w u H) {a : Nat} (h : lt_t w a ≠ 99) : trv g (.ref a) = .ref (adr g a) := tr_dyn g (hR.dyn h).1
/-- one cell is another now -/
def Upd (w : LT) (u : MT) (w' : LT) (u' : MT) (a : Nat) : Prop := lt_n w' = lt_n w ∧ (∀ b, lt_t w' b = lt_t w b) ∧ (∀ b, lt_l w' b = lt_l w b) ∧ ∀ b, b ≠ a → w'.2.2.2 b = w.2.2.2 b ∧ u'.1 b = u.1 b ∧ u'.2.1 b = u.2.1 b ∧ u'.2.2 b = u.2.2 b
theorem Upd.i (w : LT) (u : MT) (a k : Nat) (v : Int32) : Upd w u w (sI u a k v) a := ⟨rfl, fun _ => rfl, fun _ => rfl, fun _ h => ⟨rfl, up2_ne _ _ _ h, rfl, rfl⟩⟩
theorem Upd.l (w : LT) (u : MT) (a k : Nat) (v : Int64) : Upd w u w (sL u a k v) a := ⟨rfl, fun _ => rfl, fun _ => rfl, fun _ h => ⟨rfl, rfl, up2_ne _ _ _ h, rfl⟩⟩
theorem Upd.k (w : LT) (u : MT) (a k v : Nat) : Upd w u w (sK u a k v) a := ⟨rfl, fun _ => rfl, fun _ => rfl, fun _ h => ⟨rfl, rfl, rfl, up2_ne _ _ _ h⟩⟩
theorem Upd.p (w : LT) (u : MT) (a k v : Nat) : Upd w u (sP w a k v) u a := ⟨rfl, fun _ => rfl, fun _ => rfl, fun _ h => ⟨up2_ne _ _ _ h, rfl, rfl, rfl⟩⟩
theorem fv_eq {g : GT} {w w' : LT} {u u' : MT} {t b k : Nat} (h1 : w'.2.2.2 b = w.2.2.2 b) (h2 : u'.1 b = u.1 b) (h3 : u'.2.2 b = u.2.2 b) : fv g w' u' t b k = fv g w u t b k := by
  unfold fv lt_p gI gK
  rw [h1, h2, h3]
theorem av_eq {g : GT} {w w' : LT} {u u' : MT} {t b k : Nat} (h1 : w'.2.2.2 b = w.2.2.2 b) (h2 : u'.1 b = u.1 b) (h3 : u'.2.1 b = u.2.1 b) (h4 : u'.2.2 b = u.2.2 b) : av g w' u' t b k = av g w u t b k := by
  unfold av lt_p gI gK gL
  rw [h1, h2, h3, h4]
theorem cellOk.go {g : GT} {w w' : LT} {u u' : MT} {b : Nat} {H H' : Heap} (h : cellOk g w u b H) (ht : lt_t w' b = lt_t w b) (hl : lt_l w' b = lt_l w b) (h1 : w'.2.2.2 b = w.2.2.2 b) (h2 : u'.1 b = u.1 b) (h3 : u'.2.1 b = u.2.1 b) (h4 : u'.2.2 b = u.2.2 b) (hq : H'[adr g b]? = H[adr g b]?) : cellOk g w' u' b H' := by
  unfold cellOk
  rw [ht, hl]
  refine ⟨fun q => ?_, fun q1 q2 => ?_⟩
  · exact ((h.1 q).kept hq).to (fun k _ => (fv_eq h1 h2 h4).symm)
  · rw [hq, h.2 q1 q2]
    congr 2
    funext j
    exact (av_eq h1 h2 h3 h4).symm
theorem Rep.put {g : GT} {w w' : LT} {u u' : MT} {H H' : Heap} {a : Nat} (hR : Rep g w u H) (hU : Upd w u w' u' a) (ha : lt_t w a ≠ 99) (z : H'.size = H.size) (oq : ∀ q : Nat, q ≠ adr g a → H'[q]? = H[q]?) (hc : cellOk g w' u' a H') : Rep g w' u' H' := by
  obtain ⟨h1, h2, h3, h4⟩ := hR
  have hd := Rep.dyn ⟨h1, h2, h3, h4⟩ ha
  obtain ⟨e1, e2, e3, e4⟩ := hU
  refine ⟨by rw [z, h1, e1], by rw [e1]; exact h2, fun b hb => by rw [e2]; exact h3 b (by rw [e1] at hb; exact hb), fun b hb1 hb2 => ?_⟩
  by_cases hba : b = a
  · rw [hba]; exact hc
  · obtain ⟨f1, f2, f3, f4⟩ := e4 b hba
    exact (h4 b hb1 (by rw [e1] at hb2; exact hb2)).go (e2 b) (e3 b) f1 f2 f3 f4 (oq _ (fun q => hba (adr_inj hb1 hd.1 q)))
/-- a constant's link to a field -/
def GF (own : String) (idx t k : Nat) : Prop := t < 13 ∧ k < cN t ∧ (Cond.fieldLink own idx (cT t k).1 (cT t k).2.1 (cT t k).2.2.1 ∈ WT ∨ ∃ host, Cond.fieldLinkNest own idx (cT t k).1 (cT t k).2.1 (cT t k).2.2.1 host ∈ NWs)
section VHEAP
variable {z : ZT} {g : GT} {cc : ByteArray} {nL : Nat} {own : String} {ret : Option FieldType} {D mc ms : Nat} {pc : Nat} {lv lv' : List (Nat × Value)} {st : List Value} {w w' : LT} {u u' : MT} {kc ks : Nat} {Q : Option Value → LT → MT → Prop}
theorem Vget {idx t k a : Nat} {v : Value} (C : Cx z g cc nL own ret D mc ms) (d : decode cc pc = .ok (.getfield idx, 3)) (hf : GF own idx t k) (ht : lt_t w a = t) (hv : fv g w u t a k = trv g v) (kk : V z g nL (pc + 3) lv (v :: st) w u kc ks Q) : V z g nL pc lv (.ref a :: st) w u kc ks Q := by
  obtain ⟨p, l, e, R, s, m, args, below, meth, c⟩ := z
  intro H locs ls hR hS hl
  obtain ⟨hx, hb, -, hown, hts, -, -, hsc, -⟩ := C
  have hK := hsc.1
  obtain ⟨ht13, hk, hlk⟩ := hf
  obtain ⟨cell, q1, q2, q3, q4⟩ := hR.obj ht ht13
  obtain ⟨hSl, hfc, kC, hkC, hkind⟩ := hK.1 t _ (cl_at t ht13)
  obtain ⟨cf, kf, fi, f, hi, hsl⟩ := hSl k hk
  have hst := (u_facts hfc hkC (u_lays hts (cl_ws t ht13) hk) hi).1
  have h5 : cell.slots[f.slot]? = some (trv g v) := by rw [hsl]; rw [← hv]; exact q4 k hk
  have h6 := kk H locs ls hR hS hl
  show W p l e R s m args below meth c H locs kc ks _ (F0 m pc ls (trv g (.ref a) :: st.map (trv g)))
  rw [hR.val (a := a) (by omega)]
  rcases hlk with h | ⟨host, h⟩
  · exact W.getf hx hb hown (hts _ h) hi hst q1 (by rw [q3]; exact fun h => by cases h) h5 rfl rfl d h6
  · exact va_Wgetf hx hb hown (hsc.nest h args) hi hst q1 (by rw [q3]; exact fun h => by cases h) h5 rfl rfl d h6
theorem VgetI {idx t k a : Nat} (C : Cx z g cc nL own ret D mc ms) (d : decode cc pc = .ok (.getfield idx, 3)) (hf : GF own idx t k) (ht : lt_t w a = t) (hk : fk t k = 0) (kk : V z g nL (pc + 3) lv (.int (gI u a k) :: st) w u kc ks Q) : V z g nL pc lv (.ref a :: st) w u kc ks Q :=
  Vget C d hf ht (by simp [fv, hk, trv]) kk
theorem VgetP {idx t k a b : Nat} (C : Cx z g cc nL own ret D mc ms) (d : decode cc pc = .ok (.getfield idx, 3)) (hf : GF own idx t k) (ht : lt_t w a = t) (hk : fk t k = 1) (hp : lt_p w a k = b) (kk : V z g nL (pc + 3) lv (.ref b :: st) w u kc ks Q) : V z g nL pc lv (.ref a :: st) w u kc ks Q :=
  Vget C d hf ht (by simp [fv, hk, trv, hp]) kk
theorem VgetK {idx t k a : Nat} (C : Cx z g cc nL own ret D mc ms) (d : decode cc pc = .ok (.getfield idx, 3)) (hf : GF own idx t k) (ht : lt_t w a = t) (hk : fk t k = 2) (kk : V z g nL (pc + 3) lv (.ref (gK u a k) :: st) w u kc ks Q) : V z g nL pc lv (.ref a :: st) w u kc ks Q :=
  Vget C d hf ht (by simp [fv, hk, trv]) kk
theorem Vput {idx t k a : Nat} {v : Value} (C : Cx z g cc nL own ret D mc ms) (d : decode cc pc = .ok (.putfield idx, 3)) (hf : GF own idx t k) (ht : lt_t w a = t) (hfin : (cT t k).2.2.2 = false) (hn : narrow (cY t k) (trv g v) = trv g v) (hfit : fits (cY t k) (trv g v) = true) (hU : Upd w u w' u' a) (hv : ∀ j, j < cN t → fv g w' u' t a j = updV (fv g w u t a) k (trv g v) j) (kk : V z g nL (pc + 3) lv st w' u' kc ks Q) : V z g nL pc lv (v :: .ref a :: st) w u kc ks Q := by
  obtain ⟨p, l, e, R, s, m, args, below, meth, c⟩ := z
  intro H locs ls hR hS hl
  obtain ⟨hx, hb, -, hown, hts, -, -, hsc, -⟩ := C
  have hK := hsc.1
  obtain ⟨ht13, hk, hlk⟩ := hf
  have hap := va_apart (own := own) hts (cl_ws t ht13) (cY t) (cl_ty t ht13) (cl_nm t ht13) hK (cl_at t ht13)
  obtain ⟨cell, q1, q2, q3, q4⟩ := hR.obj ht ht13
  obtain ⟨hSl, hfc, kC, hkC, hkind⟩ := hK.1 t _ (cl_at t ht13)
  obtain ⟨cf, kf, fi, f, hi, hsl⟩ := hSl k hk
  have hlay := hts _ (cl_ws t ht13 _ (u_in_lay hk))
  unfold u_lay at hlay
  rw [if_neg (by rw [hfin]; decide)] at hlay
  have hst := (u_facts hfc hkC (u_lays hts (cl_ws t ht13) hk) hi).1
  have h6 := u_store hfc hkC hkind hlay hi (cl_ty t ht13 k hk) hn hfit
  show W p l e R s m args below meth c H locs kc ks _ (F0 m pc ls (trv g v :: trv g (.ref a) :: st.map (trv g)))
  rw [hR.val (a := a) (by omega)]
  have fin : ∀ H' : Heap, H'[adr g a]? = some (cell.setSlot f.slot (trv g v)) → H'.size = H.size → (∀ q, q ≠ adr g a → H'[q]? = H[q]?) → W p l e R s m args below meth c H' (locs ++ [⟨adr g a, f.slot⟩]) kc ks (MQ below (QQ g Q) args s R.cells R.slots (fr g)) (F0 m (pc + 3) ls (st.map (trv g))) := by
    intro H' e1 e2 e3
    rw [hsl] at e1 ⊢
    refine kk H' _ ls (hR.put hU (by omega) e2 e3 ?_) (hS.put e2 e3 (hR.fr (by omega))) hl
    have ht' : lt_t w' a = t := (hU.2.1 a).trans ht
    refine ⟨fun _ => ?_, fun q => absurd q (by omega)⟩
    rw [ht']
    exact t_OB.to (V := updV (fv g w u t a) k (trv g v)) ⟨_, e1, q2, q3, t_set q4 hap hk (trv g v)⟩ (fun j hj => (hv j hj).symm)
  rcases hlk with h | ⟨host, h⟩
  · exact W.putK hx hb (f := f) ⟨hown, hts _ h, ⟨_, _, _, hi⟩, hst⟩ (by rw [q2]; exact h6) q1 q3 (by rw [hsl]; exact k2_hasslot (q4 k hk)) rfl rfl d fin
  · exact va_WputK hx hb (f := f) hown (hsc.nest h args) hi hst (by rw [q2]; exact h6) q1 q3 (by rw [hsl]; exact k2_hasslot (q4 k hk)) rfl rfl d fin
theorem VputF {idx t k a : Nat} {v : Value} (C : Cx z g cc nL own ret D mc ms) (hcn : Cn z) (d : decode cc pc = .ok (.putfield idx, 3)) (hf : t < 13 ∧ k < cN t ∧ Cond.fieldLink own idx (cT t k).1 (cT t k).2.1 (cT t k).2.2.1 ∈ WT) (ht : lt_t w a = t) (hfin : (cT t k).2.2.2 = true) (hdecl : (cT t k).1 = own) (hn : narrow (cY t k) (trv g v) = trv g v) (hfit : fits (cY t k) (trv g v) = true) (hU : Upd w u w' u' a) (hv : ∀ j, j < cN t → fv g w' u' t a j = updV (fv g w u t a) k (trv g v) j) (kk : V z g nL (pc + 3) lv st w' u' kc ks Q) : V z g nL pc lv (v :: .ref a :: st) w u kc ks Q := by
  obtain ⟨p, l, e, R, s, m, args, below, meth, c⟩ := z
  intro H locs ls hR hS hl
  obtain ⟨hx, hb, -, hown, hts, -, -, hsc, -⟩ := C
  have hK := hsc.1
  obtain ⟨ht13, hk, hlk⟩ := hf
  have hap := va_apart (own := own) hts (cl_ws t ht13) (cY t) (cl_ty t ht13) (cl_nm t ht13) hK (cl_at t ht13)
  obtain ⟨cell, q1, q2, q3, q4⟩ := hR.obj ht ht13
  obtain ⟨hSl, hfc, kC, hkC, hkind⟩ := hK.1 t _ (cl_at t ht13)
  obtain ⟨cf, kf, fi, f, hi, hsl⟩ := hSl k hk
  have hlay := hts _ (cl_ws t ht13 _ (u_in_lay hk))
  unfold u_lay at hlay
  rw [if_pos hfin] at hlay
  have hst := (u_facts hfc hkC (u_lays hts (cl_ws t ht13) hk) hi).1
  have hcf : m.cls = cf := by
    obtain ⟨_, _, c', _, _, _, -, -, hf', -, -, -, hown2, -⟩ := Cond.laysFinal_spec hlay
    have e1 : c' = cf := by have := hi.symm.trans hf'; simp at this; exact this.1.symm
    rw [hdecl] at hown2
    rw [← e1]; exact Option.some.inj (hown.symm.trans hown2)
  have h6 := u_fits hfc hkC hkind (Or.inr hlay) hi (cl_ty t ht13 k hk) hn hfit
  show W p l e R s m args below meth c H locs kc ks _ (F0 m pc ls (trv g v :: trv g (.ref a) :: st.map (trv g)))
  rw [hR.val (a := a) (by omega)]
  refine W.putFinK hx hb hown (hts _ hlk) hi hst hcf hcn (by rw [q2]; exact h6) q1 q3 (by rw [hsl]; exact k2_hasslot (q4 k hk)) rfl rfl d fun H' e1 e2 e3 => ?_
  rw [hsl] at e1 ⊢
  refine kk H' _ ls (hR.put hU (by omega) e2 e3 ?_) (hS.put e2 e3 (hR.fr (by omega))) hl
  have ht' : lt_t w' a = t := (hU.2.1 a).trans ht
  refine ⟨fun _ => ?_, fun q => absurd q (by omega)⟩
  rw [ht']
  exact t_OB.to (V := updV (fv g w u t a) k (trv g v)) ⟨_, e1, q2, q3, t_set q4 hap hk (trv g v)⟩ (fun j hj => (hv j hj).symm)
theorem fv_sI (g : GT) (w : LT) (u : MT) {t a k : Nat} (x : Int32) (hk : fk t k = 0) (j : Nat) : fv g w (sI u a k x) t a j = updV (fv g w u t a) k (trv g (.int x)) j := by
  by_cases hj : j = k
  · subst hj
    simp [fv, hk, updV, trv, gI, sI, up2]
  · simp [fv, updV, hj, gI, gK, sI, up2]
theorem fv_sK (g : GT) (w : LT) (u : MT) {t a k : Nat} (x : Nat) (hk : fk t k = 2) (j : Nat) : fv g w (sK u a k x) t a j = updV (fv g w u t a) k (trv g (.ref x)) j := by
  by_cases hj : j = k
  · subst hj
    simp [fv, hk, updV, trv, gK, sK, up2]
  · simp [fv, updV, hj, gI, gK, sK, up2]
theorem fv_sP (g : GT) (w : LT) (u : MT) {t a k : Nat} (x : Nat) (hk : fk t k = 1) (j : Nat) : fv g (sP w a k x) u t a j = updV (fv g w u t a) k (trv g (.ref x)) j := by
  by_cases hj : j = k
  · subst hj
    simp [fv, hk, updV, trv, lt_p, sP, up2]
  · simp [fv, updV, hj, gI, gK, lt_p, sP, up2]
theorem fit_ref (g : GT) (x : Nat) {ty : FieldType} (h : ty.isReference = true) : narrow ty (trv g (.ref x)) = trv g (.ref x) ∧ fits ty (trv g (.ref x)) = true := by
  rw [tr_rf]
  cases ty <;> first | (simp [FieldType.isReference] at h; done) | (split <;> exact ⟨rfl, rfl⟩)
theorem VputI {idx t k a : Nat} {x : Int32} (C : Cx z g cc nL own ret D mc ms) (d : decode cc pc = .ok (.putfield idx, 3)) (hf : GF own idx t k) (ht : lt_t w a = t) (hfin : (cT t k).2.2.2 = false) (hk : fk t k = 0) (hn : narrow (cY t k) (.int x) = .int x) (hfit : fits (cY t k) (.int x) = true) (kk : V z g nL (pc + 3) lv st w (sI u a k x) kc ks Q) : V z g nL pc lv (.int x :: .ref a :: st) w u kc ks Q :=
  Vput C d hf ht hfin hn hfit (Upd.i w u a k x) (fun j _ => fv_sI g w u x hk j) kk
theorem VputK {idx t k a x : Nat} (C : Cx z g cc nL own ret D mc ms) (d : decode cc pc = .ok (.putfield idx, 3)) (hf : GF own idx t k) (ht : lt_t w a = t) (hfin : (cT t k).2.2.2 = false) (hk : fk t k = 2) (hy : (cY t k).isReference = true) (kk : V z g nL (pc + 3) lv st w (sK u a k x) kc ks Q) : V z g nL pc lv (.ref x :: .ref a :: st) w u kc ks Q :=
  Vput C d hf ht hfin (fit_ref g x hy).1 (fit_ref g x hy).2 (Upd.k w u a k x) (fun j _ => fv_sK g w u x hk j) kk
theorem VputP {idx t k a x : Nat} (C : Cx z g cc nL own ret D mc ms) (d : decode cc pc = .ok (.putfield idx, 3)) (hf : GF own idx t k) (ht : lt_t w a = t) (hfin : (cT t k).2.2.2 = false) (hk : fk t k = 1) (hy : (cY t k).isReference = true) (kk : V z g nL (pc + 3) lv st (sP w a k x) u kc ks Q) : V z g nL pc lv (.ref x :: .ref a :: st) w u kc ks Q :=
  Vput C d hf ht hfin (fit_ref g x hy).1 (fit_ref g x hy).2 (Upd.p w u a k x) (fun j _ => fv_sP g w u x hk j) kk
theorem VputIF {idx t k a : Nat} {x : Int32} (C : Cx z g cc nL own ret D mc ms) (hcn : Cn z) (d : decode cc pc = .ok (.putfield idx, 3)) (hf : t < 13 ∧ k < cN t ∧ Cond.fieldLink own idx (cT t k).1 (cT t k).2.1 (cT t k).2.2.1 ∈ WT) (ht : lt_t w a = t) (hfin : (cT t k).2.2.2 = true) (hdecl : (cT t k).1 = own) (hk : fk t k = 0) (hn : narrow (cY t k) (.int x) = .int x) (hfit : fits (cY t k) (.int x) = true) (kk : V z g nL (pc + 3) lv st w (sI u a k x) kc ks Q) : V z g nL pc lv (.int x :: .ref a :: st) w u kc ks Q :=
  VputF C hcn d hf ht hfin hdecl hn hfit (Upd.i w u a k x) (fun j _ => fv_sI g w u x hk j) kk
theorem VputPF {idx t k a x : Nat} (C : Cx z g cc nL own ret D mc ms) (hcn : Cn z) (d : decode cc pc = .ok (.putfield idx, 3)) (hf : t < 13 ∧ k < cN t ∧ Cond.fieldLink own idx (cT t k).1 (cT t k).2.1 (cT t k).2.2.1 ∈ WT) (ht : lt_t w a = t) (hfin : (cT t k).2.2.2 = true) (hdecl : (cT t k).1 = own) (hk : fk t k = 1) (hy : (cY t k).isReference = true) (kk : V z g nL (pc + 3) lv st (sP w a k x) u kc ks Q) : V z g nL pc lv (.ref x :: .ref a :: st) w u kc ks Q :=
  VputF C hcn d hf ht hfin hdecl (fit_ref g x hy).1 (fit_ref g x hy).2 (Upd.p w u a k x) (fun j _ => fv_sP g w u x hk j) kk
/-! arrays -/
theorem Stc.arr {g : GT} {s : State} (h : Stc g s) {t : Nat} (h1 : 20 ≤ t) (h2 : t < 27) : ArrOfT s (gA g t) (aTy t) ∧ va_RA s (gA g t) (aTy t) := by
  have h3 := h.1.2
  match t, h1, h2 with
  | 20, _, _ => exact h3 0 _ rfl
  | 21, _, _ => exact h3 1 _ rfl
  | 22, _, _ => exact h3 2 _ rfl
  | 23, _, _ => exact h3 3 _ rfl
  | 24, _, _ => exact h3 4 _ rfl
  | 25, _, _ => exact h3 5 _ rfl
  | 26, _, _ => exact h3 6 _ rfl
  | n + 27, _, h => omega
theorem Viald {a n : Nat} {i : Int32} (C : Cx z g cc nL own ret D mc ms) (d : decode cc pc = .ok (.iaload, 1)) (ht : lt_t w a = 20) (hn : lt_l w a = n) (hin : vp_in i n) (kk : V z g nL (pc + 1) lv (.int (gI u a i.toNatClampNeg) :: st) w u kc ks Q) : V z g nL pc lv (.int i :: .ref a :: st) w u kc ks Q := by
  obtain ⟨p, l, e, R, s, m, args, below, meth, c⟩ := z
  intro H locs ls hR hS hl
  have hlt : i.toNatClampNeg < lt_l w a := by rw [hn]; exact Nat.not_le.mp fun q => hin (Or.inr q)
  show W p l e R s m args below meth c H locs kc ks _ (F0 m pc ls (.int i :: trv g (.ref a) :: st.map (trv g)))
  rw [hR.val (a := a) (by omega)]
  exact W.iald (v := .int (gI u a i.toNatClampNeg)) C.1 C.2.1 (hR.arr ht (by omega) (by omega)) ((C.2.2.2.2.2.2.2.1.arr (t := 20) (by omega) (by omega)).1 _ _) (fun q => by cases q) (by rw [arrV_size, hn]; exact hin) (by rw [arrV_read _ _ hlt]; rfl) rfl rfl d (kk H locs ls hR hS hl)
theorem Vlald {a n : Nat} {i : Int32} (C : Cx z g cc nL own ret D mc ms) (d : decode cc pc = .ok (.laload, 1)) (ht : lt_t w a = 21) (hn : lt_l w a = n) (hin : vp_in i n) (kk : V z g nL (pc + 1) lv (.long (gL u a i.toNatClampNeg) :: st) w u kc ks Q) : V z g nL pc lv (.int i :: .ref a :: st) w u kc ks Q := by
  obtain ⟨p, l, e, R, s, m, args, below, meth, c⟩ := z
  intro H locs ls hR hS hl
  have hlt : i.toNatClampNeg < lt_l w a := by rw [hn]; exact Nat.not_le.mp fun q => hin (Or.inr q)
  show W p l e R s m args below meth c H locs kc ks _ (F0 m pc ls (.int i :: trv g (.ref a) :: st.map (trv g)))
  rw [hR.val (a := a) (by omega)]
  exact W.lald (v := .long (gL u a i.toNatClampNeg)) C.1 C.2.1 (hR.arr ht (by omega) (by omega)) ((C.2.2.2.2.2.2.2.1.arr (t := 21) (by omega) (by omega)).1 _ _) (fun q => by cases q) (by rw [arrV_size, hn]; exact hin) (by rw [arrV_read _ _ hlt]; rfl) rfl rfl d (kk H locs ls hR hS hl)
theorem Vcald {a n : Nat} {i : Int32} (C : Cx z g cc nL own ret D mc ms) (d : decode cc pc = .ok (.caload, 1)) (ht : lt_t w a = 23) (hn : lt_l w a = n) (hin : vp_in i n) (kk : V z g nL (pc + 1) lv (.int (gI u a i.toNatClampNeg) :: st) w u kc ks Q) : V z g nL pc lv (.int i :: .ref a :: st) w u kc ks Q := by
  obtain ⟨p, l, e, R, s, m, args, below, meth, c⟩ := z
  intro H locs ls hR hS hl
  have hlt : i.toNatClampNeg < lt_l w a := by rw [hn]; exact Nat.not_le.mp fun q => hin (Or.inr q)
  show W p l e R s m args below meth c H locs kc ks _ (F0 m pc ls (.int i :: trv g (.ref a) :: st.map (trv g)))
  rw [hR.val (a := a) (by omega)]
  exact W.cald (v := .int (gI u a i.toNatClampNeg)) C.1 C.2.1 (hR.arr ht (by omega) (by omega)) ((C.2.2.2.2.2.2.2.1.arr (t := 23) (by omega) (by omega)).1 _ _) (fun q => by cases q) (by rw [arrV_size, hn]; exact hin) (by rw [arrV_read _ _ hlt]; rfl) rfl rfl d (kk H locs ls hR hS hl)
theorem Vzald {a n : Nat} {i : Int32} (C : Cx z g cc nL own ret D mc ms) (d : decode cc pc = .ok (.baload, 1)) (ht : lt_t w a = 22) (hn : lt_l w a = n) (hin : vp_in i n) (kk : V z g nL (pc + 1) lv (.int (gI u a i.toNatClampNeg) :: st) w u kc ks Q) : V z g nL pc lv (.int i :: .ref a :: st) w u kc ks Q := by
  obtain ⟨p, l, e, R, s, m, args, below, meth, c⟩ := z
  intro H locs ls hR hS hl
  have hlt : i.toNatClampNeg < lt_l w a := by rw [hn]; exact Nat.not_le.mp fun q => hin (Or.inr q)
  show W p l e R s m args below meth c H locs kc ks _ (F0 m pc ls (.int i :: trv g (.ref a) :: st.map (trv g)))
  rw [hR.val (a := a) (by omega)]
  exact W.zald (v := .int (gI u a i.toNatClampNeg)) C.1 C.2.1 (hR.arr ht (by omega) (by omega)) ((C.2.2.2.2.2.2.2.1.arr (t := 22) (by omega) (by omega)).1 _ _) (fun q => by cases q) (by rw [arrV_size, hn]; exact hin) (by rw [arrV_read _ _ hlt]; rfl) rfl rfl d (kk H locs ls hR hS hl)
theorem Vaald {a n t b : Nat} {i : Int32} (C : Cx z g cc nL own ret D mc ms) (d : decode cc pc = .ok (.aaload, 1)) (h24 : 24 ≤ t) (h27 : t < 27) (ht : lt_t w a = t) (hn : lt_l w a = n) (hin : vp_in i n) (hv : av g w u t a i.toNatClampNeg = trv g (.ref b)) (kk : V z g nL (pc + 1) lv (.ref b :: st) w u kc ks Q) : V z g nL pc lv (.int i :: .ref a :: st) w u kc ks Q := by
  obtain ⟨p, l, e, R, s, m, args, below, meth, c⟩ := z
  intro H locs ls hR hS hl
  have hlt : i.toNatClampNeg < lt_l w a := by rw [hn]; exact Nat.not_le.mp fun q => hin (Or.inr q)
  show W p l e R s m args below meth c H locs kc ks _ (F0 m pc ls (.int i :: trv g (.ref a) :: st.map (trv g)))
  rw [hR.val (a := a) (by omega)]
  refine W.aald (v := trv g (.ref b)) (ty := aTy t) C.1 C.2.1 (hR.arr ht (by omega) (by omega)) ((C.2.2.2.2.2.2.2.1.arr (t := t) (by omega) (by omega)).1 _ _) ?_ (fun q => by cases q) (by rw [arrV_size, hn]; exact hin) (by rw [arrV_read _ _ hlt, hv]) rfl rfl d (kk H locs ls hR hS hl)
  match t, h24, h27 with
  | 24, _, _ => rfl
  | 25, _, _ => rfl
  | 26, _, _ => rfl
  | n + 27, _, h => omega
theorem VaaldK {a n : Nat} {i : Int32} (C : Cx z g cc nL own ret D mc ms) (d : decode cc pc = .ok (.aaload, 1)) (ht : lt_t w a = 24) (hn : lt_l w a = n) (hin : vp_in i n) (kk : V z g nL (pc + 1) lv (.ref (gK u a i.toNatClampNeg) :: st) w u kc ks Q) : V z g nL pc lv (.int i :: .ref a :: st) w u kc ks Q :=
  Vaald C d (by omega) (by omega) ht hn hin rfl kk
theorem VaaldP {a n t b : Nat} {i : Int32} (C : Cx z g cc nL own ret D mc ms) (d : decode cc pc = .ok (.aaload, 1)) (h25 : t = 25 ∨ t = 26) (ht : lt_t w a = t) (hn : lt_l w a = n) (hin : vp_in i n) (hb : lt_p w a i.toNatClampNeg = b) (kk : V z g nL (pc + 1) lv (.ref b :: st) w u kc ks Q) : V z g nL pc lv (.int i :: .ref a :: st) w u kc ks Q :=
  Vaald C d (by omega) (by omega) ht hn hin (by rcases h25 with rfl | rfl <;> simp [av, trv, hb]) kk
theorem Valen {a n t : Nat} (C : Cx z g cc nL own ret D mc ms) (d : decode cc pc = .ok (.arraylength, 1)) (h20 : 20 ≤ t) (h27 : t < 27) (ht : lt_t w a = t) (hn : lt_l w a = n) (kk : V z g nL (pc + 1) lv (.int (Int32.ofNat n) :: st) w u kc ks Q) : V z g nL pc lv (.ref a :: st) w u kc ks Q := by
  obtain ⟨p, l, e, R, s, m, args, below, meth, c⟩ := z
  intro H locs ls hR hS hl
  show W p l e R s m args below meth c H locs kc ks _ (F0 m pc ls (trv g (.ref a) :: st.map (trv g)))
  rw [hR.val (a := a) (by omega)]
  exact W.alen (n := Int32.ofNat n) C.1 C.2.1 (hR.arr ht (by omega) (by omega)) ((C.2.2.2.2.2.2.2.1.arr (t := t) (by omega) (by omega)).1 _ _) (by rw [arrV_size, hn]; done) rfl rfl d (kk H locs ls hR hS hl)
theorem Rep.ast {H H' : Heap} {a t i : Nat} {v : Value} (hR : Rep g w u H) (hU : Upd w u w' u' a) (ht : lt_t w a = t) (h1 : 20 ≤ t) (h2 : t < 27) (z0 : H'.size = H.size) (oq : ∀ q : Nat, q ≠ adr g a → H'[q]? = H[q]?) (hc : H'[adr g a]? = some ((arrV (gA g t) (lt_l w a) (av g w u t a)).setSlot i v)) (hv : ∀ j, av g w' u' t a j = updV (av g w u t a) i v j) : Rep g w' u' H' := by
  refine hR.put hU (by omega) z0 oq ⟨fun q => absurd q (by rw [hU.2.1 a, ht]; omega), fun _ _ => ?_⟩
  rw [hU.2.1 a, hU.2.2.1 a, ht, hc, arrV_store]
  congr 2
  funext j
  exact (hv j).symm
theorem Viast {a n : Nat} {i x : Int32} (C : Cx z g cc nL own ret D mc ms) (d : decode cc pc = .ok (.iastore, 1)) (ht : lt_t w a = 20) (hn : lt_l w a = n) (hin : vp_in i n) (kk : V z g nL (pc + 1) lv st w (sI u a i.toNatClampNeg x) kc ks Q) : V z g nL pc lv (.int x :: .int i :: .ref a :: st) w u kc ks Q := by
  obtain ⟨p, l, e, R, s, m, args, below, meth, c⟩ := z
  intro H locs ls hR hS hl
  show W p l e R s m args below meth c H locs kc ks _ (F0 m pc ls (.int x :: .int i :: trv g (.ref a) :: st.map (trv g)))
  rw [hR.val (a := a) (by omega)]
  refine W.iast C.1 C.2.1 (hR.arr ht (by omega) (by omega)) ((C.2.2.2.2.2.2.2.1.arr (t := 20) (by omega) (by omega)).1 _ _) (fun q => by cases q) (by rw [arrV_size, hn]; exact hin) rfl rfl d fun H1 e1 z1 oq => ?_
  refine kk H1 _ ls (hR.ast (Upd.i w u a _ x) ht (by omega) (by omega) z1 oq e1 (fun j => ?_)) (hS.put z1 oq (hR.fr (by omega))) hl
  by_cases hj : j = i.toNatClampNeg <;> simp [av, updV, gI, sI, up2, hj]
theorem Vlast {a n : Nat} {i : Int32} {x : Int64} (C : Cx z g cc nL own ret D mc ms) (d : decode cc pc = .ok (.lastore, 1)) (ht : lt_t w a = 21) (hn : lt_l w a = n) (hin : vp_in i n) (kk : V z g nL (pc + 1) lv st w (sL u a i.toNatClampNeg x) kc ks Q) : V z g nL pc lv (.long x :: .int i :: .ref a :: st) w u kc ks Q := by
  obtain ⟨p, l, e, R, s, m, args, below, meth, c⟩ := z
  intro H locs ls hR hS hl
  show W p l e R s m args below meth c H locs kc ks _ (F0 m pc ls (.long x :: .int i :: trv g (.ref a) :: st.map (trv g)))
  rw [hR.val (a := a) (by omega)]
  refine W.last C.1 C.2.1 (hR.arr ht (by omega) (by omega)) ((C.2.2.2.2.2.2.2.1.arr (t := 21) (by omega) (by omega)).1 _ _) (fun q => by cases q) (by rw [arrV_size, hn]; exact hin) rfl rfl d fun H1 e1 z1 oq => ?_
  refine kk H1 _ ls (hR.ast (Upd.l w u a _ x) ht (by omega) (by omega) z1 oq e1 (fun j => ?_)) (hS.put z1 oq (hR.fr (by omega))) hl
  by_cases hj : j = i.toNatClampNeg <;> simp [av, updV, gL, sL, up2, hj]
theorem Vzast {a n : Nat} {i x : Int32} (C : Cx z g cc nL own ret D mc ms) (d : decode cc pc = .ok (.bastore, 1)) (ht : lt_t w a = 22) (hn : lt_l w a = n) (hin : vp_in i n) (kk : V z g nL (pc + 1) lv st w (sI u a i.toNatClampNeg (vp_nar .boolean x)) kc ks Q) : V z g nL pc lv (.int x :: .int i :: .ref a :: st) w u kc ks Q := by
  obtain ⟨p, l, e, R, s, m, args, below, meth, c⟩ := z
  intro H locs ls hR hS hl
  show W p l e R s m args below meth c H locs kc ks _ (F0 m pc ls (.int x :: .int i :: trv g (.ref a) :: st.map (trv g)))
  rw [hR.val (a := a) (by omega)]
  refine W.zast C.1 C.2.1 (hR.arr ht (by omega) (by omega)) ((C.2.2.2.2.2.2.2.1.arr (t := 22) (by omega) (by omega)).1 _ _) (fun q => by cases q) (by rw [arrV_size, hn]; exact hin) rfl rfl d fun H1 e1 z1 oq => ?_
  refine kk H1 _ ls (hR.ast (Upd.i w u a _ _) ht (by omega) (by omega) z1 oq e1 (fun j => ?_)) (hS.put z1 oq (hR.fr (by omega))) hl
  by_cases hj : j = i.toNatClampNeg
  · simp [av, updV, gI, sI, up2, hj]
    rfl
  · simp [av, updV, gI, sI, up2, hj]
theorem Vcast {a n : Nat} {i x : Int32} (C : Cx z g cc nL own ret D mc ms) (d : decode cc pc = .ok (.castore, 1)) (ht : lt_t w a = 23) (hn : lt_l w a = n) (hin : vp_in i n) (kk : V z g nL (pc + 1) lv st w (sI u a i.toNatClampNeg (vp_nar .char x)) kc ks Q) : V z g nL pc lv (.int x :: .int i :: .ref a :: st) w u kc ks Q := by
  obtain ⟨p, l, e, R, s, m, args, below, meth, c⟩ := z
  intro H locs ls hR hS hl
  show W p l e R s m args below meth c H locs kc ks _ (F0 m pc ls (.int x :: .int i :: trv g (.ref a) :: st.map (trv g)))
  rw [hR.val (a := a) (by omega)]
  refine W.cast C.1 C.2.1 (hR.arr ht (by omega) (by omega)) ((C.2.2.2.2.2.2.2.1.arr (t := 23) (by omega) (by omega)).1 _ _) (fun q => by cases q) (by rw [arrV_size, hn]; exact hin) rfl rfl d fun H1 e1 z1 oq => ?_
  refine kk H1 _ ls (hR.ast (Upd.i w u a _ _) ht (by omega) (by omega) z1 oq e1 (fun j => ?_)) (hS.put z1 oq (hR.fr (by omega))) hl
  by_cases hj : j = i.toNatClampNeg
  · simp [av, updV, gI, sI, up2, hj]
    rfl
  · simp [av, updV, gI, sI, up2, hj]
end VHEAP
end
section
/-! ===== NEW CELLS, STATICS, CALLS, RETURNS ===== -/
/-- a new cell of a kind and a length, all of it 0 -/
def nwL (w : LT) (t n : Nat) : LT := (w.1 + 1, (fun b => if b = w.1 then t else w.2.1 b), (fun b => if b = w.1 then n else w.2.2.1 b), fun b => if b = w.1 then (fun _ => 0) else w.2.2.2 b)
def nwM (w : LT) (u : MT) : MT := ((fun b => if b = w.1 then (fun _ => 0) else u.1 b), (fun b => if b = w.1 then (fun _ => 0) else u.2.1 b), fun b => if b = w.1 then (fun _ => 0) else u.2.2 b)
theorem Rep.new {g : GT} {w : LT} {u : MT} {H H' : Heap} {t n : Nat} (hR : Rep g w u H) (z : H'.size = H.size + 1) (oq : ∀ q : Nat, q < H.size → H'[q]? = H[q]?) (hc : cellOk g (nwL w t n) (nwM w u) w.1 H') : Rep g (nwL w t n) (nwM w u) H' := by
  obtain ⟨h1, h2, h3, h4⟩ := hR
  have e1 : lt_n (nwL w t n) = lt_n w + 1 := rfl
  refine ⟨by rw [z, h1, e1]; omega, by rw [e1]; omega, fun b hb => ?_, fun b hb1 hb2 => ?_⟩
  · rw [e1] at hb
    have hne : b ≠ w.1 := by have : lt_n w = w.1 := rfl; omega
    show (if b = w.1 then t else w.2.1 b) = 99
    rw [if_neg hne]
    exact h3 b (by omega)
  · by_cases hba : b = w.1
    · rw [hba]; exact hc
    · have hlt : b < lt_n w := by have : lt_n w = w.1 := rfl; rw [e1] at hb2; omega
      refine (h4 b hb1 hlt).go (if_neg hba) (if_neg hba) (if_neg hba) (if_neg hba) (if_neg hba) (if_neg hba) (oq _ ?_)
      rw [adr_dyn g hb1, h1]
      have : lt_n w = w.1 := rfl
      omega
theorem nw_adr {g : GT} {w : LT} {u : MT} {H : Heap} (hR : Rep g w u H) : adr g w.1 = H.size := by
  have h2 : 100 ≤ w.1 := hR.2.1
  rw [adr_dyn g h2, hR.1]
theorem va_S_new {g : GT} {H0 H H' : Heap} {locs : List Loc} (hS : va_S (fr g) H0 H locs) (z : H'.size = H.size + 1) (oq : ∀ q : Nat, q < H.size → H'[q]? = H[q]?) : va_S (fr g) H0 H' locs :=
  ⟨Nat.le_trans hS.1 (by omega), fun x h1 h2 => (oq x (Nat.lt_of_lt_of_le h1 hS.1)).trans (hS.2.1 x h1 h2), hS.2.2⟩
/-- a method's contract over the memory -/
def Mt (g : GT) (y : MethodName) (mb : ByteArray) (ml : Nat) (mr : Option FieldType) (dp mc ms : Nat) (as : List Value) (w : LT) (u : MT) (Q : Option Value → LT → MT → Prop) : Prop :=
  ∀ l : Launch, Met l y (.code y mb ml mr :: WT) (rmD dp mc ms) (va_Pc (as.map (trv g)) (fun U => Stc g U ∧ Rep g w u U.heap)) (QQ g Q) mc ms (fr g)
/-- what a call's constant says -/
def YB (own : String) (idx : Nat) (y : MethodName) (mb : ByteArray) (ml : Nat) (mr : Option FieldType) (n : Nat) : Prop :=
  (Cond.methodLink own idx y ∈ WT ∨ ∃ host, Cond.methodLinkNest own idx y host ∈ NWs) ∧ Cond.code y mb ml mr ∈ WT ∧ Cond.initialized y.cls ∈ WT ∧ (y.cls ≠ "java/lang/invoke/MethodHandle" ∧ y.cls ≠ "java/lang/invoke/VarHandle" ∧ (parseMethodDescriptor y.desc).map (fun d => d.parameters.length) = some n)
def YV (own : String) (idx : Nat) (y : MethodName) (mb : ByteArray) (ml : Nat) (mr : Option FieldType) (n t : Nat) : Prop := YB own idx y mb ml mr n ∧ Cond.instanceMethod y ∈ WT ∧ Cond.selects (cS t) y y ∈ WT ∧ t < 13
theorem good_cons {y : MethodName} {mb : ByteArray} {ml : Nat} {mr : Option FieldType} (h : Cond.code y mb ml mr ∈ WT) : GoodIn WT (.code y mb ml mr :: WT) := fun w hw => (List.mem_cons.mp hw).elim (fun e => by rw [e]; exact WT_good _ h) (fun h2 => WT_good w h2)
section VCALL
variable {z : ZT} {g : GT} {cc : ByteArray} {nL : Nat} {own : String} {ret : Option FieldType} {D mc ms : Nat} {pc : Nat} {lv lv' : List (Nat × Value)} {st : List Value} {w w' : LT} {u u' : MT} {kc ks : Nat} {Q : Option Value → LT → MT → Prop}
theorem Vwiden {k2 s2 : Nat} (h1 : kc ≤ k2) (h2 : ks ≤ s2) (k : V z g nL pc lv st w u k2 s2 Q) : V z g nL pc lv st w u kc ks Q := by
  obtain ⟨p, l, e, R, s, m, args, below, meth, c⟩ := z
  intro H locs ls hR hS hl
  exact W.widen h1 h2 (k H locs ls hR hS hl)
theorem Vnew {idx t : Nat} (C : Cx z g cc nL own ret D mc ms) (d : decode cc pc = .ok (.new idx, 3)) (ht : t < 13) (h1 : Cond.classLink own idx (cS t) ∈ WT) (h2 : Cond.instantiable (cS t) (cN t) ∈ WT) (h3 : Cond.initialized (cS t) ∈ WT) (hc : kc + 1 ≤ mc) (hs : ks + cN t ≤ ms) (k : V z g nL (pc + 3) lv (.ref w.1 :: st) (nwL w t 0) (nwM w u) (kc + 1) (ks + cN t) Q) : V z g nL pc lv st w u kc ks Q := by
  obtain ⟨p, l, e, R, s, m, args, below, meth, c⟩ := z
  intro H locs ls hR hS hl
  obtain ⟨hx, hb, -, hown, hts, -, -, hsc, hRm⟩ := C
  have hK := hsc.1
  have hKn := hK.1 t _ (cl_at t ht)
  refine W.newcK hx hb hown (hts _ h1) (hts _ h2) (hts _ h3) rfl d (by rw [hRm]; exact hc) (by rw [hRm]; exact hs) hKn.2.1 rfl fun H1 kC hkC e1 z1 o1 => ?_
  have h5 := k H1 locs ls (hR.new z1 o1 ?_) (va_S_new hS z1 o1) hl
  · rw [← nw_adr hR]
    rw [← tr_dyn g (show 100 ≤ w.1 from hR.2.1)]
    exact h5
  · have ht2 : lt_t (nwL w t 0) w.1 = t := if_pos rfl
    refine ⟨fun _ => ?_, fun q => absurd q (by rw [ht2]; omega)⟩
    rw [ht2, nw_adr hR]
    refine (u_born (cY t) hts (cl_ws t ht) hKn hkC e1 (cl_ty t ht)).to (fun j hj => ?_)
    have hok := fk_ok t ht j hj
    unfold fkOk at hok
    have g1 : gI (nwM w u) w.1 j = 0 := by simp [gI, nwM]
    have g2 : gK (nwM w u) w.1 j = 0 := by simp [gK, nwM]
    have g3 : lt_p (nwL w t 0) w.1 j = 0 := by simp [lt_p, nwL]
    unfold fv
    rw [g1, g2, g3]
    split at hok
    · rename_i h9; rw [h9]; simp at hok; simp [hok]; rfl
    · rename_i h9; rw [h9]; simp at hok; simp [hok]; rfl
    · rename_i h9
      rw [h9]
      split at hok
      · simp at hok; simp [hok, tr]; rfl
      · simp at hok; simp [hok, tr]; rfl
    · rename_i h9; rw [h9]; simp at hok; simp [hok, tr]; rfl
    · simp at hok
theorem Vnewa {at_ : ArrayType} {t n : Nat} {x : Int32} (C : Cx z g cc nL own ret D mc ms) (d : decode cc pc = .ok (.newarray at_, 2)) (ht1 : 20 ≤ t) (ht2 : t < 24) (hty : newarray.typeOf at_ = aTy t) (hw : Cond.arrayClass (newarray.typeOf at_) ∈ WT) (hx0 : ¬ x < 0) (hxn : x.toNatClampNeg = n) (hn : n * 8 ≤ 536870912) (hc : kc + 1 ≤ mc) (hs : ks + n ≤ ms) (k : V z g nL (pc + 2) lv (.ref w.1 :: st) (nwL w t n) (nwM w u) (kc + 1) (ks + n) Q) : V z g nL pc lv (.int x :: st) w u kc ks Q := by
  obtain ⟨p, l, e, R, s, m, args, below, meth, c⟩ := z
  intro H locs ls hR hS hl
  obtain ⟨hx, hb, -, hown, hts, -, -, hst, hRm⟩ := C
  have hby : n * componentBytes (newarray.typeOf at_) ≤ 536870912 := by
    rw [hty]
    have h4 : t = 20 ∨ t = 21 ∨ t = 22 ∨ t = 23 := by omega
    rcases h4 with h | h | h | h <;> rw [h] <;> exact Nat.le_trans (Nat.mul_le_mul_left n (by decide)) hn
  refine va_newaK hx hb (hts _ hw) rfl d rfl hx0 hxn hby (by rw [hRm]; exact hc) (by rw [hRm]; exact hs) rfl fun H1 cA e1 z1 o1 hAr hNm => ?_
  have hcA : cA = gA g t := by
    have h2 := va_RA_name (hst.arr (t := t) (by omega) (by omega)).2
    rw [hty] at hNm
    exact Option.some.inj (hNm.symm.trans h2)
  subst hcA
  have h5 := k H1 locs ls (hR.new z1 o1 ?_) (va_S_new hS z1 o1) hl
  · rw [← nw_adr hR]
    rw [← tr_dyn g (show 100 ≤ w.1 from hR.2.1)]
    exact h5
  · have h6 : lt_t (nwL w t n) w.1 = t := if_pos rfl
    have h7 : lt_l (nwL w t n) w.1 = n := if_pos rfl
    refine ⟨fun q => absurd q (by rw [h6]; omega), fun _ _ => ?_⟩
    rw [h6, h7, nw_adr hR, e1, hty]
    have h4 : t = 20 ∨ t = 21 ∨ t = 22 ∨ t = 23 := by omega
    congr 2
    funext j
    rcases h4 with h | h | h | h <;> rw [h]
    · simp [av, gI, nwM]; rfl
    · simp [av, gL, nwM]; rfl
    · simp [av, gI, nwM]; rfl
    · simp [av, gI, nwM]; rfl
theorem Vanew {idx t n : Nat} {x : Int32} (C : Cx z g cc nL own ret D mc ms) (d : decode cc pc = .ok (.anewarray idx, 3)) (ht1 : 24 ≤ t) (ht2 : t < 27) {E : String} (hE : aTy t = .object E) (h1 : Cond.classLink own idx E ∈ WT) (h2 : Cond.arrayOver (.object E) ∈ WT) (hx0 : ¬ x < 0) (hxn : x.toNatClampNeg = n) (hn : n * 8 ≤ 536870912) (hc : kc + 1 ≤ mc) (hs : ks + n ≤ ms) (k : V z g nL (pc + 3) lv (.ref w.1 :: st) (nwL w t n) (nwM w u) (kc + 1) (ks + n) Q) : V z g nL pc lv (.int x :: st) w u kc ks Q := by
  obtain ⟨p, l, e, R, s, m, args, below, meth, c⟩ := z
  intro H locs ls hR hS hl
  obtain ⟨hx, hb, -, hown, hts, -, -, hst, hRm⟩ := C
  subst hxn
  refine W.anew hx hb hown (hts _ h1) (hts _ h2) rfl d rfl hx0 (by omega) (by rw [hRm]; exact hc) (by rw [hRm]; exact hs) fun cA kA comp f1 f2 f3 f4 => ?_
  generalize hH1 : H.push ({ cls := cA, slots := Array.replicate x.toNatClampNeg .null, vm := .none } : Cell) = H1
  have z1 : H1.size = H.size + 1 := by rw [← hH1, Array.size_push]
  have e1 : H1[H.size]? = some (arrV cA x.toNatClampNeg (fun _ => .null)) := by rw [← hH1, Array.getElem?_push_size, ← arrV_new]
  have o1 : ∀ q : Nat, q < H.size → H1[q]? = H[q]? := fun q hq => by rw [← hH1, Array.getElem?_push, if_neg (Nat.ne_of_lt hq)]
  have hcA : cA = gA g t := by
    have h2 := (hst.arr (t := t) (by omega) (by omega)).2
    rw [hE] at h2
    obtain ⟨kA', comp', _, _, _, h9⟩ := h2
    exact Option.some.inj (f1.symm.trans h9)
  subst hcA
  have h5 := k H1 locs ls (hR.new z1 o1 ?_) (va_S_new hS z1 o1) hl
  · rw [← nw_adr hR]
    rw [← tr_dyn g (show 100 ≤ w.1 from hR.2.1)]
    exact h5
  · have h6 : lt_t (nwL w t x.toNatClampNeg) w.1 = t := if_pos rfl
    have h7 : lt_l (nwL w t x.toNatClampNeg) w.1 = x.toNatClampNeg := if_pos rfl
    refine ⟨fun q => absurd q (by rw [h6]; omega), fun _ _ => ?_⟩
    rw [h6, h7, nw_adr hR, e1]
    have h4 : t = 24 ∨ t = 25 ∨ t = 26 := by omega
    congr 2
    funext j
    rcases h4 with h | h | h <;> rw [h]
    · simp [av, gK, nwM, tr]
    · simp [av, lt_p, nwL, tr]
    · simp [av, lt_p, nwL, tr]
/-- a reference to a cell that is there goes into an array of its kind -/
theorem VaastP {a n t b tb : Nat} {i : Int32} (C : Cx z g cc nL own ret D mc ms) (d : decode cc pc = .ok (.aastore, 1)) (h25 : (t = 25 ∧ tb = 5) ∨ (t = 26 ∧ tb = 7)) (ht : lt_t w a = t) (hn : lt_l w a = n) (htb : lt_t w b = tb) (hin : vp_in i n) (kk : V z g nL (pc + 1) lv st (sP w a i.toNatClampNeg b) u kc ks Q) : V z g nL pc lv (.ref b :: .int i :: .ref a :: st) w u kc ks Q := by
  obtain ⟨p, l, e, R, s, m, args, below, meth, c⟩ := z
  intro H locs ls hR hS hl
  have hb13 : tb < 13 := by omega
  show W p l e R s m args below meth c H locs kc ks _ (F0 m pc ls (trv g (.ref b) :: .int i :: trv g (.ref a) :: st.map (trv g)))
  rw [hR.val (a := a) (by omega), hR.val (a := b) (by omega)]
  obtain ⟨cellV, g1, g2, g3, -⟩ := hR.obj htb hb13
  have hst := C.2.2.2.2.2.2.2.1
  have hcls := (hst.1.1 tb _ (cl_at tb hb13)).2
  have hra := (hst.arr (t := t) (by omega) (by omega)).2
  have hE : aTy t = .object (cS tb) := by rcases h25 with ⟨rfl, rfl⟩ | ⟨rfl, rfl⟩ <;> rfl
  rw [hE] at hra
  obtain ⟨kA, comp, k1, k2, k3, -⟩ := hra
  have hcomp : comp = gC g tb := Option.some.inj (k3.symm.trans hcls.1)
  subst hcomp
  obtain ⟨kC, hkC, -⟩ := hcls.2
  have hlt : i.toNatClampNeg < lt_l w a := by rw [hn]; exact Nat.not_le.mp fun q => hin (Or.inr q)
  refine W.aast C.1 C.2.1 (hR.arr ht (by omega) (by omega)) (fun q h => by cases h) (fun h => by cases h) k1 k2 rfl hkC ⟨fun q => hin (Or.inl q), by rw [arrV_size]; exact hlt⟩ g1 (fun q h => by rw [g3] at h; cases h) (by rw [g2]; exact hkC) (by rw [g2]; exact va_assign hcls) rfl rfl d fun H1 e1 z1 oq => ?_
  refine kk H1 _ ls (hR.ast (Upd.p w u a _ b) ht (by omega) (by omega) z1 oq e1 (fun j => ?_)) (hS.put z1 oq (hR.fr (by omega))) hl
  have hvb : tr g b = .ref (adr g b) := tr_dyn g (hR.dyn (a := b) (by omega)).1
  by_cases hj : j = i.toNatClampNeg
  · rcases h25 with ⟨rfl, -⟩ | ⟨rfl, -⟩ <;> simp [av, updV, lt_p, sP, up2, hj, hvb]
  · rcases h25 with ⟨rfl, -⟩ | ⟨rfl, -⟩ <;> simp [av, updV, lt_p, sP, up2, hj]
/-- a token goes into an array of tokens -/
theorem VaastK {a n x : Nat} {i : Int32} (C : Cx z g cc nL own ret D mc ms) (d : decode cc pc = .ok (.aastore, 1)) (ht : lt_t w a = 24) (hn : lt_l w a = n) (hx1 : 1 ≤ x) (hx2 : x ≤ 34) (hin : vp_in i n) (kk : V z g nL (pc + 1) lv st w (sK u a i.toNatClampNeg x) kc ks Q) : V z g nL pc lv (.ref x :: .int i :: .ref a :: st) w u kc ks Q := by
  obtain ⟨p, l, e, R, s, m, args, below, meth, c⟩ := z
  intro H locs ls hR hS hl
  have hst := C.2.2.2.2.2.2.2.1
  have hvb : tr g x = .ref (gad g (x - 1)) := by simp [tr, adr, show ¬ x = 0 by omega, hx2]
  show W p l e R s m args below meth c H locs kc ks _ (F0 m pc ls (tr g x :: .int i :: trv g (.ref a) :: st.map (trv g)))
  rw [hR.val (a := a) (by omega), hvb]
  obtain ⟨cellV, g1, g2, g3⟩ := va_recvE hst.2.1 (i := x - 1) (by show x - 1 < 34; omega) hS
  have hcls := (hst.1.1 9 _ (cl_at 9 (by omega))).2
  obtain ⟨kA, comp, k1, k2, k3, -⟩ := (hst.arr (t := 24) (by omega) (by omega)).2
  have hcomp : comp = gC g 9 := Option.some.inj (k3.symm.trans hcls.1)
  subst hcomp
  have hcv : cellV.cls = gC g 9 := Option.some.inj (g3.symm.trans hcls.1)
  obtain ⟨kC, hkC, -⟩ := hcls.2
  have hlt : i.toNatClampNeg < lt_l w a := by rw [hn]; exact Nat.not_le.mp fun q => hin (Or.inr q)
  refine W.aast C.1 C.2.1 (hR.arr ht (by omega) (by omega)) (fun q h => by cases h) (fun h => by cases h) k1 k2 rfl hkC ⟨fun q => hin (Or.inl q), by rw [arrV_size]; exact hlt⟩ g1 (fun q h => by rw [h] at g2; cases g2) (by rw [hcv]; exact hkC) (by rw [hcv]; exact va_assign hcls) rfl rfl d fun H1 e1 z1 oq => ?_
  refine kk H1 _ ls (hR.ast (Upd.k w u a _ x) ht (by omega) (by omega) z1 oq e1 (fun j => ?_)) (hS.put z1 oq (hR.fr (by omega))) hl
  by_cases hj : j = i.toNatClampNeg
  · simp [av, updV, gK, sK, up2, hj, hvb]
  · simp [av, updV, gK, sK, up2, hj]
/-- a token's name -/
theorem Vtok {idx i x : Nat} {n : String} (C : Cx z g cc nL own ret D mc ms) (d : decode cc pc = .ok (.getstatic idx, 3)) (hw : Cond.fieldLink own idx "SunVillage$Token" n "LSunVillage$Token;" ∈ WT) (hi : i < 34) (hn : tkN.getD i "" = n) (hx : x = i + 1) (kk : V z g nL (pc + 3) lv (.ref x :: st) w u kc ks Q) : V z g nL pc lv st w u kc ks Q := by
  obtain ⟨p, l, e, R, s, m, args, below, meth, c⟩ := z
  intro H locs ls hR hS hl
  have hst := C.2.2.2.2.2.2.2.1
  have h1 := (hst.2.1.1 i hi).1
  rw [hn] at h1
  subst hx
  have h2 := kk H locs ls hR hS hl
  have hv : trv g (.ref (i + 1)) = .ref (gad g i) := by simp [trv, tr, adr, show i + 1 ≤ 34 by omega]
  rw [List.map_cons, hv] at h2
  exact va_gets C.1 C.2.1 h1 hS C.2.2.2.1 (C.2.2.2.2.1 _ hw) (fun _ h => h) d h2
/-- a token's code -/
theorem Vtokc {idx x : Nat} (C : Cx z g cc nL own ret D mc ms) (d : decode cc pc = .ok (.getfield idx, 3)) (hw : Cond.fieldLink own idx "SunVillage$Token" "code" "I" ∈ WT ∨ ∃ host, Cond.fieldLinkNest own idx "SunVillage$Token" "code" "I" host ∈ NWs) (hx1 : 1 ≤ x) (hx2 : x ≤ 34) (kk : V z g nL (pc + 3) lv (.int (tkC.getD (x - 1) 0) :: st) w u kc ks Q) : V z g nL pc lv (.ref x :: st) w u kc ks Q := by
  obtain ⟨p, l, e, R, s, m, args, below, meth, c⟩ := z
  intro H locs ls hR hS hl
  have hst := C.2.2.2.2.2.2.2.1
  have hv : trv g (.ref x) = .ref (gad g (x - 1)) := by simp [trv, tr, adr, hx2, show ¬ x = 0 by omega]
  have h2 := kk H locs ls hR hS hl
  rw [List.map_cons, hv]
  obtain ⟨cf, k, fi, f, cell, h1, h3, h4, h5, h6, h7⟩ := ((hst.2.1.1 (x - 1) (by show x - 1 < 34; omega)).2.2 _ (List.mem_cons_self)).kept hS.2.1
  rcases hw with hw | ⟨host, hw⟩
  · exact W.getf C.1 C.2.1 C.2.2.2.1 (C.2.2.2.2.1 _ hw) h1 h3 h4 h5 h6 rfl rfl d h2
  · exact va_Wgetf C.1 C.2.1 C.2.2.2.1 (hst.nest hw args) h1 h3 h4 h5 h6 rfl rfl d h2
/-! returns -/
theorem Vret_end {v : Option Value} {H : Heap} {s t : State} {locs : List Loc} (hR : Rep g w u H) (hS : va_S (fr g) s.heap H locs) (hq : Q v w u) (ht : t.heap = H) (args : Array Value) : QQ g Q args s (.returned (v.map (trv g))) t :=
  ⟨⟨v, w, u, rfl, hq, by rw [ht]; exact hR⟩, hS.F ht⟩
theorem Viret {x : Int32} (C : Cx z g cc nL own (some .int) D mc ms) (d : decode cc pc = .ok (.ireturn, 1)) (h1 : kc ≤ mc) (h2 : ks ≤ ms) (hq : Q (some (.int x)) w u) : V z g nL pc lv [.int x] w u kc ks Q := by
  obtain ⟨p, l, e, R, s, m, args, below, meth, c⟩ := z
  intro H locs ls hR hS hl
  obtain ⟨hx, hb, -, hown, hts, hr, hlk, -, hRm⟩ := C
  subst hRm
  exact W.widen h1 h2 (W.iret hx hb hr (fun t ht _ => Vret_end (v := some (.int x)) hR hS hq ht args) hS.2.2 d)
theorem Vzret {x : Int32} (C : Cx z g cc nL own (some .boolean) D mc ms) (d : decode cc pc = .ok (.ireturn, 1)) (hn : narrow .boolean (.int x) = .int x) (h1 : kc ≤ mc) (h2 : ks ≤ ms) (hq : Q (some (.int x)) w u) : V z g nL pc lv [.int x] w u kc ks Q := by
  obtain ⟨p, l, e, R, s, m, args, below, meth, c⟩ := z
  intro H locs ls hR hS hl
  obtain ⟨hx, hb, -, hown, hts, hr, hlk, -, hRm⟩ := C
  subst hRm
  exact W.widen h1 h2 (W.zret hx hb hr hn (fun t ht _ => Vret_end (v := some (.int x)) hR hS hq ht args) hS.2.2 d)
theorem Vlret {x : Int64} (C : Cx z g cc nL own (some .long) D mc ms) (d : decode cc pc = .ok (.lreturn, 1)) (h1 : kc ≤ mc) (h2 : ks ≤ ms) (hq : Q (some (.long x)) w u) : V z g nL pc lv [.long x] w u kc ks Q := by
  obtain ⟨p, l, e, R, s, m, args, below, meth, c⟩ := z
  intro H locs ls hR hS hl
  obtain ⟨hx, hb, -, hown, hts, hr, hlk, -, hRm⟩ := C
  subst hRm
  exact W.widen h1 h2 (W.lret hx hb hr (fun t ht _ => Vret_end (v := some (.long x)) hR hS hq ht args) hS.2.2 d)
theorem Vvret (C : Cx z g cc nL own none D mc ms) (d : decode cc pc = .ok (.return_, 1)) (h1 : kc ≤ mc) (h2 : ks ≤ ms) (hq : Q none w u) : V z g nL pc lv [] w u kc ks Q := by
  obtain ⟨p, l, e, R, s, m, args, below, meth, c⟩ := z
  intro H locs ls hR hS hl
  obtain ⟨hx, hb, -, hown, hts, hr, hlk, -, hRm⟩ := C
  subst hRm
  exact W.widen h1 h2 (W.vret hx hb hr (fun t ht _ => Vret_end (v := none) hR hS hq ht args) hS.2.2 d)
theorem Varet {x : Nat} {E : String} (C : Cx z g cc nL own (some (.object E)) D mc ms) (d : decode cc pc = .ok (.areturn, 1)) (h1 : kc ≤ mc) (h2 : ks ≤ ms) (hq : Q (some (.ref x)) w u) : V z g nL pc lv [.ref x] w u kc ks Q := by
  obtain ⟨p, l, e, R, s, m, args, below, meth, c⟩ := z
  intro H locs ls hR hS hl
  obtain ⟨hx, hb, -, hown, hts, hr, hlk, -, hRm⟩ := C
  subst hRm
  exact W.widen h1 h2 (W.aret hx hb hr (Or.inl ⟨_, rfl⟩) (tr_or g x) (fun t ht _ => Vret_end (v := some (.ref x)) hR hS hq ht args) hS.2.2 d)
/-! calls -/
theorem Pc_blind (g : GT) (as : List Value) (w : LT) (u : MT) : FrameBlind (va_Pc (as.map (trv g)) (fun U => Stc g U ∧ Rep g w u U.heap)) := by
  intro a U f mk ⟨h1, h2, h3⟩
  exact ⟨h1, h2.go (s := U) (U := U.calling f mk a) (State.WarmedH.refl U) (Nat.le_refl _) (fun _ _ _ => rfl), h3⟩
theorem Stc.now {s U : State} {H : Heap} {locs : List Loc} (h : Stc g s) (hS : va_S (fr g) s.heap H locs) (hU : U.heap = H) (hW : s.WarmedH U.vm) : Stc g U :=
  h.go hW (by rw [hU]; exact hS.1) (fun a h1 h2 => by rw [hU]; exact hS.2.1 a h1 h2)
/-- the callee's cells: what a receiver must be -/
def Rcv (w : LT) (a t : Nat) : Prop := (lt_t w a = t ∧ t < 13) ∨ (t = 9 ∧ 1 ≤ a ∧ a ≤ 34)
theorem Rcv.get {a t : Nat} {s : State} {H : Heap} {locs : List Loc} (h : Rcv w a t) (hst : Stc g s) (hR : Rep g w u H) (hS : va_S (fr g) s.heap H locs) : trv g (.ref a) = .ref (adr g a) ∧ ∃ cell : Cell, H[adr g a]? = some cell ∧ cell.vm.isStatics = false ∧ s.vm.findClass (cS t) = some cell.cls := by
  rcases h with ⟨h1, h2⟩ | ⟨rfl, h1, h2⟩
  · obtain ⟨cell, q1, q2, q3, q4⟩ := hR.obj h1 h2
    exact ⟨hR.val (by omega), cell, q1, by rw [q3]; rfl, by rw [q2]; exact (hst.1.1 t _ (cl_at t h2)).2.1⟩
  · obtain ⟨cell, g1, g2, g3⟩ := va_recvE hst.2.1 (i := a - 1) (by show a - 1 < 34; omega) hS
    have he : adr g a = gad g (a - 1) := by simp [adr, h2]
    exact ⟨by simp [trv, tr, show ¬ a = 0 by omega], cell, by rw [he]; exact g1, g2, g3⟩
theorem Vrun_go {Qa : Option Value → LT → MT → Prop} {p : Program} {l : Launch} {e : Env} {R : Room} {s : State} {m : MethodId} {args a : Array Value} {below : List Frame} {meth : Method} {c : Code} {H : Heap} {locs : List Loc} {c2 s2 : Nat} {ls : Array Slot} {st0 rest : List Value} {P : State → Prop}
    (hr : va_Run p l e R s m args below meth c H locs kc ks c2 s2 (F0 m pc ls st0) rest (QQ g Qa a) (fr g)) (hS : va_S (fr g) s.heap H locs)
    (kk : ∀ (v : Option Value) (w1 : LT) (u1 : MT) (H1 : Heap) (locs1 : List Loc), Qa v w1 u1 → Rep g w1 u1 H1 → va_S (fr g) s.heap H1 locs1 → W p l e R s m args below meth c H1 locs1 (kc + c2) (ks + s2) P (F0 m (pc + 3) ls ((v.map (trv g)).toList ++ rest))) : W p l e R s m args below meth c H locs kc ks P (F0 m pc ls st0) := by
  intro T hT X
  obtain ⟨v, st₀, t, T', L, h0, X', hL, e1, e2, ⟨⟨v1, w1, u1, hv, hp, hb⟩, hz, hk⟩, sto⟩ := hr T hT X
  cases hv
  rw [h0] at hz hk
  obtain ⟨t2, a1, b1⟩ := kk v1 w1 u1 T'.heap (locs ++ L) hp (by rw [e1]; exact hb)
    ⟨Nat.le_trans hS.1 (by rw [e1]; exact hz), fun q h1 h2 => by rw [e1, hk q (Nat.lt_of_lt_of_le h1 hS.1) h2]; exact hS.2.1 q h1 h2, fun q hq => by
      rcases List.mem_append.mp hq with h | h
      · exact hS.2.2 q h
      · exact hL q h⟩ T' rfl X'
  exact ⟨t2, sto t2 a1, b1⟩
theorem map_rev (g : GT) (as rest : List Value) : (as.reverse ++ rest).map (trv g) = (as.map (trv g)).reverse ++ rest.map (trv g) := by simp
theorem lv_roomT {m : MethodId} {ls : Array Slot} {st0 rest : List Value} (h : (rest.map fun v => v.category).sum ≤ 8) : 2 * (F0 m pc ls st0).monitorRoom + (((rest.map (trv g))).map fun v => v.category).sum ≤ 8 := by
  rw [trm_sum]
  exact lv_room h
theorem VcallV {idx t n a c2 s2 dp ml : Nat} {y : MethodName} {mb : ByteArray} {mr : Option FieldType} {as rest : List Value} {Qa : Option Value → LT → MT → Prop} (C : Cx z g cc nL own ret D mc ms) (d : decode cc pc = .ok (.invokevirtual idx, 3)) (hM : Mt g y mb ml mr dp c2 s2 (.ref a :: as) w u Qa) (hy : YV own idx y mb ml mr n t) (hrv : Rcv w a t) (hst : st = as.reverse ++ .ref a :: rest) (hn : as.length = n) (hrm : (rest.map fun v => v.category).sum ≤ 8) (hml : ml ≤ 45) (hdp : dp + 1 ≤ D) (hc : kc + c2 ≤ mc) (hs : ks + s2 ≤ ms)
    (kk : ∀ v w1 u1, Qa v w1 u1 → V z g nL (pc + 3) lv (v.toList ++ rest) w1 u1 (kc + c2) (ks + s2) Q) : V z g nL pc lv st w u kc ks Q := by
  obtain ⟨p, l, e, R, s, m, args, below, meth, c⟩ := z
  intro H locs ls hR hS hl
  obtain ⟨hx, hb, hmL, hown, hts, -, -, hsc, hRm⟩ := C
  obtain ⟨⟨hlk, hcd, hin, hd1, hd2, hd3⟩, hi1, hi2, ht13⟩ := hy
  obtain ⟨hva, hcell⟩ := hrv.get hsc hR hS
  subst hst
  have hstk : (as.reverse ++ .ref a :: rest).map (trv g) = (as.map (trv g)).reverse ++ .ref (adr g a) :: rest.map (trv g) := by
    rw [map_rev, List.map_cons, hva]
  have hpre : PreV s H (cS t) (adr g a) (va_Pc ((Value.ref a :: as).map (trv g)) (fun U => Stc g U ∧ Rep g w u U.heap)) (as.map (trv g)) :=
    ⟨Pc_blind g _ w u, hcell, fun U hU hW => ⟨by rw [List.map_cons, hva], hsc.now hS hU hW, by rw [hU]; exact hR⟩⟩
  have hR1 : (rmD dp c2 s2).frames + 1 ≤ R.frames ∧ 8 + (ml + 11) + (rmD dp c2 s2).locals ≤ R.locals := by
    rw [hRm]
    show dp + 1 ≤ D ∧ 8 + (ml + 11) + 64 * dp ≤ 64 * D
    omega
  have hlen : (as.map (trv g)).length = n := by rw [List.length_map]; exact hn
  have hfit : kc + c2 ≤ R.cells ∧ ks + s2 ≤ R.slots := by rw [hRm]; exact ⟨hc, hs⟩
  rw [hstk]
  have fin : ∀ (v : Option Value) (w1 : LT) (u1 : MT) (H1 : Heap) (locs1 : List Loc), Qa v w1 u1 → Rep g w1 u1 H1 → va_S (fr g) s.heap H1 locs1 → W p l e R s m args below meth c H1 locs1 (kc + c2) (ks + s2) (MQ below (QQ g Q) args s R.cells R.slots (fr g)) (F0 m (pc + 3) ls ((v.map (trv g)).toList ++ rest.map (trv g))) := by
    intro v w1 u1 H1 locs1 q1 q2 q3
    have h9 := kk v w1 u1 q1 H1 locs1 ls q2 q3 hl
    cases v <;> exact h9
  rcases hlk with h | ⟨host, h⟩
  · exact Vrun_go (va_runV ⟨hx, hb, hmL, hown, hts⟩ (hM l) ⟨callB_of n hts (good_cons hcd) rfl rfl rfl (hts _ hin) (hts _ h) ⟨hd1, hd2, hd3⟩ hR1, hts _ hi1, hts _ hi2⟩ hpre rfl hlen hl.1 rfl (lv_roomT hrm) d hfit) hS fin
  · exact Vrun_go (va_runVN ⟨hx, hb, hmL, hown, hts⟩ (hM l) ⟨va_cnB n hts (good_cons hcd) rfl rfl rfl (hsc.2.2.2.2 _ h) (hts _ hin) ⟨hd1, hd2, hd3⟩ hR1, hts _ hi1, hts _ hi2⟩ hpre rfl hlen hl.1 rfl (lv_roomT hrm) d hfit) hS fin
end VCALL
end
section
/-! ===== STATIC CALLS, CONSTRUCTORS, Math, A METHOD'S CONTRACT OUT OF ITS BODY ===== -/
theorem lv_args_map (g : GT) : ∀ (as : List Value) (i : Nat), lv_args i (as.map (trv g)) = (lv_args i as).map fun q => (q.1, trv g q.2)
  | [], _ => rfl
  | v :: as, i => by
    show (i, trv g v) :: lv_args (if (trv g v).category = 2 then i + 2 else i + 1) (as.map (trv g)) = (i, trv g v) :: (lv_args (if v.category = 2 then i + 2 else i + 1) as).map _
    rw [trv_cat, lv_args_map g as]
theorem lg_sl_map (g : GT) (as : List Value) : (lg_sl (as.map (trv g))).length = (lg_sl as).length := by
  induction as with
  | nil => rfl
  | cons v as ih =>
    have h1 : ∀ (x : Value) (xs : List Value), (lg_sl (x :: xs)).length = (if x.category = 2 then 2 else 1) + (lg_sl xs).length := by
      intro x xs
      simp only [lg_sl, List.flatMap_cons, List.length_append]
      split <;> rfl
    rw [List.map_cons, h1, h1, trv_cat, ih]
theorem Mt_of {g : GT} {y : MethodName} {mb : ByteArray} {ml : Nat} {mr : Option FieldType} {D mc ms : Nat} {as : List Value} {w : LT} {u : MT} {Q : Option Value → LT → MT → Prop} {own : String} (hy : plainName y.cls = true) (hown : y.cls = own) (hlen : (lg_sl as).length ≤ ml)
    (body : ∀ z : ZT, Cx z g mb ml own mr D mc ms → (y.name = "<init>" → Cn z) → V z g ml 0 (lv_args 0 as) [] w u 0 0 Q) : Mt g y mb ml mr D mc ms as w u Q := by
  intro l
  refine Met.ofW (cc := mb) (maxL := ml) (ret := mr) hy rfl ?_
  intro p e s m args below meth c s₁ B hml hv
  obtain ⟨rfl, hst, hR⟩ := hv
  have hts := atoms_spec (ws := .code y mb ml mr :: WT) B.pre
  have ho : s.vm.findClass own = some m.cls := by rw [← hown]; exact findClass_of_methodNamed B.named
  have hl := lv_entry (as.map (trv g)) (n := ml) (by rw [lg_sl_map]; exact hlen)
  rw [lg_entry_eq]
  rw [lv_args_map] at hl
  exact body (p, l, e, rmD D mc ms, s, m, _, below, meth, c) ⟨B.exec, B.bytes, hml, ho, fun w hw => hts w (List.mem_cons_of_mem _ hw), B.returns, B.notSynchronized, hst, rfl⟩ (fun h => (name_of_methodNamed B.named B.method).1.trans h) s.heap [] _ hR va_S.rf hl
section VCALL2
variable {z : ZT} {g : GT} {cc : ByteArray} {nL : Nat} {own : String} {ret : Option FieldType} {D mc ms : Nat} {pc : Nat} {lv lv' : List (Nat × Value)} {st : List Value} {w w' : LT} {u u' : MT} {kc ks : Nat} {Q : Option Value → LT → MT → Prop}
theorem VcallS {idx n c2 s2 dp ml : Nat} {y : MethodName} {mb : ByteArray} {mr : Option FieldType} {as rest : List Value} {Qa : Option Value → LT → MT → Prop} (C : Cx z g cc nL own ret D mc ms) (d : decode cc pc = .ok (.invokestatic idx, 3)) (hM : Mt g y mb ml mr dp c2 s2 as w u Qa) (hy : YB own idx y mb ml mr n) (hsta : Cond.static y ∈ WT) (hst : st = as.reverse ++ rest) (hn : as.length = n) (hrm : (rest.map fun v => v.category).sum ≤ 8) (hml : ml ≤ 45) (hdp : dp + 1 ≤ D) (hc : kc + c2 ≤ mc) (hs : ks + s2 ≤ ms)
    (kk : ∀ v w1 u1, Qa v w1 u1 → V z g nL (pc + 3) lv (v.toList ++ rest) w1 u1 (kc + c2) (ks + s2) Q) : V z g nL pc lv st w u kc ks Q := by
  obtain ⟨p, l, e, R, s, m, args, below, meth, c⟩ := z
  intro H locs ls hR hS hl
  obtain ⟨hx, hb, hmL, hown, hts, -, -, hsc, hRm⟩ := C
  obtain ⟨hlk, hcd, hin, hd1, hd2, hd3⟩ := hy
  subst hst
  have hstk : (as.reverse ++ rest).map (trv g) = (as.map (trv g)).reverse ++ rest.map (trv g) := map_rev g as rest
  have hpre : PreS s H (va_Pc (as.map (trv g)) (fun U => Stc g U ∧ Rep g w u U.heap)) (as.map (trv g)) :=
    ⟨Pc_blind g _ w u, fun U hU hW => ⟨rfl, hsc.now hS hU hW, by rw [hU]; exact hR⟩⟩
  have hR1 : (rmD dp c2 s2).frames + 1 ≤ R.frames ∧ 8 + (ml + 11) + (rmD dp c2 s2).locals ≤ R.locals := by
    rw [hRm]
    show dp + 1 ≤ D ∧ 8 + (ml + 11) + 64 * dp ≤ 64 * D
    omega
  have hlen : (as.map (trv g)).length = n := by rw [List.length_map]; exact hn
  have hfit : kc + c2 ≤ R.cells ∧ ks + s2 ≤ R.slots := by rw [hRm]; exact ⟨hc, hs⟩
  rw [hstk]
  have fin : ∀ (v : Option Value) (w1 : LT) (u1 : MT) (H1 : Heap) (locs1 : List Loc), Qa v w1 u1 → Rep g w1 u1 H1 → va_S (fr g) s.heap H1 locs1 → W p l e R s m args below meth c H1 locs1 (kc + c2) (ks + s2) (MQ below (QQ g Q) args s R.cells R.slots (fr g)) (F0 m (pc + 3) ls ((v.map (trv g)).toList ++ rest.map (trv g))) := by
    intro v w1 u1 H1 locs1 q1 q2 q3
    have h9 := kk v w1 u1 q1 H1 locs1 ls q2 q3 hl
    cases v <;> exact h9
  rcases hlk with h | ⟨host, h⟩
  · exact Vrun_go (va_runS ⟨hx, hb, hmL, hown, hts⟩ (hM l) ⟨callB_of n hts (good_cons hcd) rfl rfl rfl (hts _ hin) (hts _ h) ⟨hd1, hd2, hd3⟩ hR1, hts _ hsta⟩ hpre rfl hlen hl.1 rfl (lv_roomT hrm) d hfit) hS fin
  · exact Vrun_go (va_runSN ⟨hx, hb, hmL, hown, hts⟩ (hM l) ⟨va_cnB n hts (good_cons hcd) rfl rfl rfl (hsc.2.2.2.2 _ h) (hts _ hin) ⟨hd1, hd2, hd3⟩ hR1, hts _ hsta, trivial⟩ hpre rfl hlen hl.1 rfl (lv_roomT hrm) d hfit) hS fin
theorem VcallI {idx t n a c2 s2 dp ml : Nat} {y : MethodName} {mb : ByteArray} {as rest : List Value} {Qa : Option Value → LT → MT → Prop} (C : Cx z g cc nL own ret D mc ms) (d : decode cc pc = .ok (.invokespecial idx, 3)) (hM : Mt g y mb ml none dp c2 s2 (.ref a :: as) w u Qa) (hy : YB own idx y mb ml none n) (hi1 : Cond.instanceMethod y ∈ WT) (hin1 : y.name = "<init>") (hta : lt_t w a = t) (ht13 : t < 13) (hst : st = as.reverse ++ .ref a :: rest) (hn : as.length = n) (hrm : (rest.map fun v => v.category).sum ≤ 8) (hml : ml ≤ 45) (hdp : dp + 1 ≤ D) (hc : kc + c2 ≤ mc) (hs : ks + s2 ≤ ms)
    (kk : ∀ v w1 u1, Qa v w1 u1 → V z g nL (pc + 3) lv (v.toList ++ rest) w1 u1 (kc + c2) (ks + s2) Q) : V z g nL pc lv st w u kc ks Q := by
  obtain ⟨p, l, e, R, s, m, args, below, meth, c⟩ := z
  intro H locs ls hR hS hl
  obtain ⟨hx, hb, hmL, hown, hts, -, -, hsc, hRm⟩ := C
  obtain ⟨hlk, hcd, hin, hd1, hd2, hd3⟩ := hy
  have hva := hR.val (a := a) (by omega)
  subst hst
  have hstk : (as.reverse ++ .ref a :: rest).map (trv g) = (as.map (trv g)).reverse ++ .ref (adr g a) :: rest.map (trv g) := by
    rw [map_rev, List.map_cons, hva]
  have hpre : PreS s H (va_Pc ((Value.ref a :: as).map (trv g)) (fun U => Stc g U ∧ Rep g w u U.heap)) (.ref (adr g a) :: as.map (trv g)) :=
    ⟨Pc_blind g _ w u, fun U hU hW => ⟨by rw [List.map_cons, hva], hsc.now hS hU hW, by rw [hU]; exact hR⟩⟩
  have hR1 : (rmD dp c2 s2).frames + 1 ≤ R.frames ∧ 8 + (ml + 11) + (rmD dp c2 s2).locals ≤ R.locals := by
    rw [hRm]
    show dp + 1 ≤ D ∧ 8 + (ml + 11) + 64 * dp ≤ 64 * D
    omega
  have hlen : (as.map (trv g)).length = n := by rw [List.length_map]; exact hn
  have hfit : kc + c2 ≤ R.cells ∧ ks + s2 ≤ R.slots := by rw [hRm]; exact ⟨hc, hs⟩
  rw [hstk]
  have fin : ∀ (v : Option Value) (w1 : LT) (u1 : MT) (H1 : Heap) (locs1 : List Loc), Qa v w1 u1 → Rep g w1 u1 H1 → va_S (fr g) s.heap H1 locs1 → W p l e R s m args below meth c H1 locs1 (kc + c2) (ks + s2) (MQ below (QQ g Q) args s R.cells R.slots (fr g)) (F0 m (pc + 3) ls ((v.map (trv g)).toList ++ rest.map (trv g))) := by
    intro v w1 u1 H1 locs1 q1 q2 q3
    have h9 := kk v w1 u1 q1 H1 locs1 ls q2 q3 hl
    cases v <;> exact h9
  rcases hlk with h | ⟨host, h⟩
  · exact Vrun_go (va_runI ⟨hx, hb, hmL, hown, hts⟩ (hM l) ⟨callB_of n hts (good_cons hcd) rfl rfl rfl (hts _ hin) (hts _ h) ⟨hd1, hd2, hd3⟩ hR1, hin1, hts _ hi1⟩ hpre rfl hlen hl.1 rfl (lv_roomT hrm) d hfit) hS fin
  · exact Vrun_go (va_runIN ⟨hx, hb, hmL, hown, hts⟩ (hM l) ⟨va_cnB n hts (good_cons hcd) rfl rfl rfl (hsc.2.2.2.2 _ h) (hts _ hin) ⟨hd1, hd2, hd3⟩ hR1, hin1, hts _ hi1⟩ hpre rfl hlen hl.1 rfl (lv_roomT hrm) d hfit) hS fin
/-! calls of methods whose answer is known -/
abbrev Qi (x : Int32) (w : LT) (u : MT) : Option Value → LT → MT → Prop := fun v w1 u1 => v = some (.int x) ∧ w1 = w ∧ u1 = u
abbrev Ql (x : Int64) (w : LT) (u : MT) : Option Value → LT → MT → Prop := fun v w1 u1 => v = some (.long x) ∧ w1 = w ∧ u1 = u
abbrev Qr (x : Nat) (w : LT) (u : MT) : Option Value → LT → MT → Prop := fun v w1 u1 => v = some (.ref x) ∧ w1 = w ∧ u1 = u
abbrev Qv (w : LT) (u : MT) : Option Value → LT → MT → Prop := fun v w1 u1 => v = none ∧ w1 = w ∧ u1 = u
theorem Kint {x : Int32} {w1 : LT} {u1 : MT} {k2 s2 : Nat} {rest : List Value} (k : V z g nL pc lv (.int x :: rest) w1 u1 k2 s2 Q) : ∀ v w2 u2, Qi x w1 u1 v w2 u2 → V z g nL pc lv (v.toList ++ rest) w2 u2 k2 s2 Q := by
  rintro v w2 u2 ⟨rfl, rfl, rfl⟩
  exact k
theorem Klong {x : Int64} {w1 : LT} {u1 : MT} {k2 s2 : Nat} {rest : List Value} (k : V z g nL pc lv (.long x :: rest) w1 u1 k2 s2 Q) : ∀ v w2 u2, Ql x w1 u1 v w2 u2 → V z g nL pc lv (v.toList ++ rest) w2 u2 k2 s2 Q := by
  rintro v w2 u2 ⟨rfl, rfl, rfl⟩
  exact k
theorem Kref {x : Nat} {w1 : LT} {u1 : MT} {k2 s2 : Nat} {rest : List Value} (k : V z g nL pc lv (.ref x :: rest) w1 u1 k2 s2 Q) : ∀ v w2 u2, Qr x w1 u1 v w2 u2 → V z g nL pc lv (v.toList ++ rest) w2 u2 k2 s2 Q := by
  rintro v w2 u2 ⟨rfl, rfl, rfl⟩
  exact k
theorem Kvoid {w1 : LT} {u1 : MT} {k2 s2 : Nat} {rest : List Value} (k : V z g nL pc lv rest w1 u1 k2 s2 Q) : ∀ v w2 u2, Qv w1 u1 v w2 u2 → V z g nL pc lv (v.toList ++ rest) w2 u2 k2 s2 Q := by
  rintro v w2 u2 ⟨rfl, rfl, rfl⟩
  exact k
theorem Vmin {idx : Nat} {x y : Int32} (C : Cx z g cc nL own ret D mc ms) (d : decode cc pc = .ok (.invokestatic idx, 3)) (h1 : Cond.methodLink own idx Lib.Math.min.name ∈ WT) (h2 : Cond.static Lib.Math.min.name ∈ WT) (h3 : Cond.initialized "java/lang/Math" ∈ WT) (h4 : Cond.code Lib.Math.min.name Lib.Math.min.code 2 (some .int) ∈ WT) (hrm : (st.map fun v => v.category).sum ≤ 8) (hD : 1 ≤ D) (hc : kc ≤ mc) (hs : ks ≤ ms) (k : V z g nL (pc + 3) lv (.int (if y < x then y else x) :: st) w u kc ks Q) : V z g nL pc lv (.int y :: .int x :: st) w u kc ks Q := by
  obtain ⟨p, l, e, R, s, m, args, below, meth, c⟩ := z
  intro H locs ls hR hS hl
  obtain ⟨hx, hb, hmL, hown, hts, -, -, hsc, hRm⟩ := C
  refine va_mmin hx hb (by rw [hmL]; exact hl.1.symm) hown (hts _ h1) (hts _ h2) (hts _ h3) (hts _ h4) (by rw [hRm]; exact hD) ?_ (by rw [hRm]; exact hc) (by rw [hRm]; exact hs) d (k H locs ls hR hS hl)
  rw [trm_sum, hRm]
  show _ ≤ 64 * D
  omega
theorem Vmax {idx : Nat} {x y : Int32} (C : Cx z g cc nL own ret D mc ms) (d : decode cc pc = .ok (.invokestatic idx, 3)) (h1 : Cond.methodLink own idx Lib.Math.max.name ∈ WT) (h2 : Cond.static Lib.Math.max.name ∈ WT) (h3 : Cond.initialized "java/lang/Math" ∈ WT) (h4 : Cond.code Lib.Math.max.name Lib.Math.max.code 2 (some .int) ∈ WT) (hrm : (st.map fun v => v.category).sum ≤ 8) (hD : 1 ≤ D) (hc : kc ≤ mc) (hs : ks ≤ ms) (k : V z g nL (pc + 3) lv (.int (if x < y then y else x) :: st) w u kc ks Q) : V z g nL pc lv (.int y :: .int x :: st) w u kc ks Q := by
  obtain ⟨p, l, e, R, s, m, args, below, meth, c⟩ := z
  intro H locs ls hR hS hl
  obtain ⟨hx, hb, hmL, hown, hts, -, -, hsc, hRm⟩ := C
  refine va_mmax hx hb (by rw [hmL]; exact hl.1.symm) hown (hts _ h1) (hts _ h2) (hts _ h3) (hts _ h4) (by rw [hRm]; exact hD) ?_ (by rw [hRm]; exact hc) (by rw [hRm]; exact hs) d (k H locs ls hR hS hl)
  rw [trm_sum, hRm]
  show _ ≤ 64 * D
  omega
theorem Vobj {idx a : Nat} (C : Cx z g cc nL own ret D mc ms) (d : decode cc pc = .ok (.invokespecial idx, 3)) (h1 : Cond.methodLink own idx Lib.objectInit ∈ WT) (h2 : Cond.instanceMethod Lib.objectInit ∈ WT) (h3 : Cond.code Lib.objectInit ⟨#[0xb1]⟩ 1 none ∈ WT) (ha : lt_t w a ≠ 99) (hrm : (st.map fun v => v.category).sum ≤ 8) (hD : 1 ≤ D) (k : V z g nL (pc + 3) lv st w u kc ks Q) : V z g nL pc lv (.ref a :: st) w u kc ks Q := by
  obtain ⟨p, l, e, R, s, m, args, below, meth, c⟩ := z
  intro H locs ls hR hS hl
  obtain ⟨hx, hb, hmL, hown, hts, -, -, hsc, hRm⟩ := C
  rw [List.map_cons, hR.val ha]
  refine W.objInit hx hb hown (hts _ h1) (hts _ h2) (hts _ h3) rfl (by rw [hmL]; exact hl.1) rfl d (by rw [hRm]; exact hD) ?_ (k H locs ls hR hS hl)
  have h5 := lv_roomT (g := g) (pc := pc) (m := m) (ls := ls) (st0 := .ref (adr g a) :: st.map (trv g)) hrm
  rw [hRm]
  show _ ≤ 64 * D
  omega
end VCALL2
/-! reading a method's decoded rows -/
theorem dAt {b : ByteArray} {L : List (Nat × Instr × Nat)} (h : ∀ q ∈ L, decode b q.1 = .ok q.2) (i : Nat) {pc : Nat} {r : Instr × Nat} (hi : L[i]? = some (pc, r)) : decode b pc = .ok r := h (pc, r) (List.mem_of_getElem? hi)
/-! checks of the functions -/
theorem ok_if {α : Type} {c : Prop} [Decidable c] {x : Option α} {r : α} (h : (if c then x else none) = some r) : c ∧ x = some r := by
  by_cases hc : c
  · rw [if_pos hc] at h; exact ⟨hc, h⟩
  · rw [if_neg hc] at h; cases h
theorem ok_t {α : Type} {c : Prop} [Decidable c] {x y : Option α} {r : α} (hc : c) (h : (if c then x else y) = some r) : x = some r := by rw [if_pos hc] at h; exact h
theorem ok_f {α : Type} {c : Prop} [Decidable c] {x y : Option α} {r : α} (hc : ¬ c) (h : (if c then x else y) = some r) : y = some r := by rw [if_neg hc] at h; exact h
theorem ok_b {α β : Type} {x : Option α} {f : α → Option β} {r : β} (h : x.bind f = some r) : ∃ a, x = some a ∧ f a = some r := by
  cases x with
  | none => cases h
  | some a => exact ⟨a, rfl, h⟩
end
