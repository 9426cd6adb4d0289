section
/-- a private method of a class that the tables say can be made, by its rows of tables_1 -/
def lw_okq (q : MethodName × Nat) : Prop := (q.1.cls ≠ "java/lang/invoke/MethodHandle" ∧ q.1.cls ≠ "java/lang/invoke/VarHandle") ∧ Cond.instantiable q.1.cls q.2 ∈ tables_1 ∧ Cond.privateMethod q.1 ∈ tables_1 ∧ Cond.instanceMethod q.1 ∈ tables_1
theorem lw_p0 : lw_okq (⟨"LabelTree$TreeReader", "readNumbers", "(LLabelTree$Letters;I)Z"⟩, 3) := ⟨⟨by decide +kernel, by decide +kernel⟩, List.mem_of_getElem? (i := 43) (by decide +kernel), List.mem_of_getElem? (i := 284) (by decide +kernel), List.mem_of_getElem? (i := 285) (by decide +kernel)⟩
theorem lw_p1 : lw_okq (⟨"LabelTree$TreeReader", "readNumber", "(LLabelTree$Letters;)I"⟩, 3) := ⟨⟨by decide +kernel, by decide +kernel⟩, List.mem_of_getElem? (i := 43) (by decide +kernel), List.mem_of_getElem? (i := 288) (by decide +kernel), List.mem_of_getElem? (i := 289) (by decide +kernel)⟩
theorem lw_p2 : lw_okq (⟨"LabelTree$TreeReader", "apply", "(ILLabelTree$Tree;)Z"⟩, 3) := ⟨⟨by decide +kernel, by decide +kernel⟩, List.mem_of_getElem? (i := 43) (by decide +kernel), List.mem_of_getElem? (i := 295) (by decide +kernel), List.mem_of_getElem? (i := 296) (by decide +kernel)⟩
theorem lw_p3 : lw_okq (⟨"LabelTree$TreeReader", "applyKind", "(LLabelTree$Tree;)Z"⟩, 3) := ⟨⟨by decide +kernel, by decide +kernel⟩, List.mem_of_getElem? (i := 43) (by decide +kernel), List.mem_of_getElem? (i := 299) (by decide +kernel), List.mem_of_getElem? (i := 300) (by decide +kernel)⟩
theorem lw_p4 : lw_okq (⟨"LabelTree$TreeReader", "applyRoot", "(LLabelTree$Tree;)Z"⟩, 3) := ⟨⟨by decide +kernel, by decide +kernel⟩, List.mem_of_getElem? (i := 43) (by decide +kernel), List.mem_of_getElem? (i := 311) (by decide +kernel), List.mem_of_getElem? (i := 312) (by decide +kernel)⟩
theorem lw_p5 : lw_okq (⟨"LabelTree$TreeReader", "applyNode", "(LLabelTree$Tree;)Z"⟩, 3) := ⟨⟨by decide +kernel, by decide +kernel⟩, List.mem_of_getElem? (i := 43) (by decide +kernel), List.mem_of_getElem? (i := 326) (by decide +kernel), List.mem_of_getElem? (i := 327) (by decide +kernel)⟩
theorem lw_p6 : lw_okq (⟨"LabelTree", "settle", "()V"⟩, 14) := ⟨⟨by decide +kernel, by decide +kernel⟩, List.mem_of_getElem? (i := 21) (by decide +kernel), List.mem_of_getElem? (i := 374) (by decide +kernel), List.mem_of_getElem? (i := 375) (by decide +kernel)⟩
theorem lw_p7 : lw_okq (⟨"LabelTree$Order", "take", "(III)V"⟩, 8) := ⟨⟨by decide +kernel, by decide +kernel⟩, List.mem_of_getElem? (i := 106) (by decide +kernel), List.mem_of_getElem? (i := 383) (by decide +kernel), List.mem_of_getElem? (i := 384) (by decide +kernel)⟩
theorem lw_p8 : lw_okq (⟨"LabelTree$Order", "isRank", "(I)Z"⟩, 8) := ⟨⟨by decide +kernel, by decide +kernel⟩, List.mem_of_getElem? (i := 106) (by decide +kernel), List.mem_of_getElem? (i := 391) (by decide +kernel), List.mem_of_getElem? (i := 392) (by decide +kernel)⟩
theorem lw_p9 : lw_okq (⟨"LabelTree$Order", "takeFollower", "(LLabelTree$Tree;I)V"⟩, 8) := ⟨⟨by decide +kernel, by decide +kernel⟩, List.mem_of_getElem? (i := 106) (by decide +kernel), List.mem_of_getElem? (i := 395) (by decide +kernel), List.mem_of_getElem? (i := 396) (by decide +kernel)⟩
theorem lw_p10 : lw_okq (⟨"LabelTree", "climb", "(II)I"⟩, 14) := ⟨⟨by decide +kernel, by decide +kernel⟩, List.mem_of_getElem? (i := 21) (by decide +kernel), List.mem_of_getElem? (i := 531) (by decide +kernel), List.mem_of_getElem? (i := 532) (by decide +kernel)⟩
theorem lw_p11 : lw_okq (⟨"LabelTree", "isPlace", "(II)Z"⟩, 14) := ⟨⟨by decide +kernel, by decide +kernel⟩, List.mem_of_getElem? (i := 21) (by decide +kernel), List.mem_of_getElem? (i := 555) (by decide +kernel), List.mem_of_getElem? (i := 556) (by decide +kernel)⟩
theorem lw_p12 : lw_okq (⟨"LabelTree$Past", "forgetFirst", "()V"⟩, 5) := ⟨⟨by decide +kernel, by decide +kernel⟩, List.mem_of_getElem? (i := 137) (by decide +kernel), List.mem_of_getElem? (i := 567) (by decide +kernel), List.mem_of_getElem? (i := 568) (by decide +kernel)⟩
theorem lw_p13 : lw_okq (⟨"LabelTree$PatternReader", "takes", "(ILLabelTree$Pattern;)Z"⟩, 5) := ⟨⟨by decide +kernel, by decide +kernel⟩, List.mem_of_getElem? (i := 59) (by decide +kernel), List.mem_of_getElem? (i := 654) (by decide +kernel), List.mem_of_getElem? (i := 655) (by decide +kernel)⟩
theorem lw_p14 : lw_okq (⟨"LabelTree$PatternReader", "takesTag", "(ILLabelTree$Pattern;)Z"⟩, 5) := ⟨⟨by decide +kernel, by decide +kernel⟩, List.mem_of_getElem? (i := 59) (by decide +kernel), List.mem_of_getElem? (i := 658) (by decide +kernel), List.mem_of_getElem? (i := 659) (by decide +kernel)⟩
theorem lw_p15 : lw_okq (⟨"LabelTree$PatternReader", "opens", "()Z"⟩, 5) := ⟨⟨by decide +kernel, by decide +kernel⟩, List.mem_of_getElem? (i := 59) (by decide +kernel), List.mem_of_getElem? (i := 671) (by decide +kernel), List.mem_of_getElem? (i := 672) (by decide +kernel)⟩
def lw_privs_1 : List (MethodName × Nat) := [(⟨"LabelTree$TreeReader", "readNumbers", "(LLabelTree$Letters;I)Z"⟩, 3), (⟨"LabelTree$TreeReader", "readNumber", "(LLabelTree$Letters;)I"⟩, 3), (⟨"LabelTree$TreeReader", "apply", "(ILLabelTree$Tree;)Z"⟩, 3), (⟨"LabelTree$TreeReader", "applyKind", "(LLabelTree$Tree;)Z"⟩, 3), (⟨"LabelTree$TreeReader", "applyRoot", "(LLabelTree$Tree;)Z"⟩, 3), (⟨"LabelTree$TreeReader", "applyNode", "(LLabelTree$Tree;)Z"⟩, 3), (⟨"LabelTree", "settle", "()V"⟩, 14), (⟨"LabelTree$Order", "take", "(III)V"⟩, 8), (⟨"LabelTree$Order", "isRank", "(I)Z"⟩, 8), (⟨"LabelTree$Order", "takeFollower", "(LLabelTree$Tree;I)V"⟩, 8), (⟨"LabelTree", "climb", "(II)I"⟩, 14), (⟨"LabelTree", "isPlace", "(II)Z"⟩, 14), (⟨"LabelTree$Past", "forgetFirst", "()V"⟩, 5), (⟨"LabelTree$PatternReader", "takes", "(ILLabelTree$Pattern;)Z"⟩, 5), (⟨"LabelTree$PatternReader", "takesTag", "(ILLabelTree$Pattern;)Z"⟩, 5), (⟨"LabelTree$PatternReader", "opens", "()Z"⟩, 5)]
theorem lw_r1 : ∀ q ∈ lw_privs_1, lw_okq q := List.forall_mem_cons.mpr ⟨lw_p0, List.forall_mem_cons.mpr ⟨lw_p1, List.forall_mem_cons.mpr ⟨lw_p2, List.forall_mem_cons.mpr ⟨lw_p3, List.forall_mem_cons.mpr ⟨lw_p4, List.forall_mem_cons.mpr ⟨lw_p5, List.forall_mem_cons.mpr ⟨lw_p6, List.forall_mem_cons.mpr ⟨lw_p7, List.forall_mem_cons.mpr ⟨lw_p8, List.forall_mem_cons.mpr ⟨lw_p9, List.forall_mem_cons.mpr ⟨lw_p10, List.forall_mem_cons.mpr ⟨lw_p11, List.forall_mem_cons.mpr ⟨lw_p12, List.forall_mem_cons.mpr ⟨lw_p13, List.forall_mem_cons.mpr ⟨lw_p14, List.forall_mem_cons.mpr ⟨lw_p15, fun _ h => absurd h List.not_mem_nil⟩⟩⟩⟩⟩⟩⟩⟩⟩⟩⟩⟩⟩⟩⟩⟩
theorem lw_p16 : lw_okq (⟨"LabelTree$PatternReader", "closes", "()Z"⟩, 5) := ⟨⟨by decide +kernel, by decide +kernel⟩, List.mem_of_getElem? (i := 59) (by decide +kernel), List.mem_of_getElem? (i := 675) (by decide +kernel), List.mem_of_getElem? (i := 676) (by decide +kernel)⟩
theorem lw_p17 : lw_okq (⟨"LabelTree$PatternReader", "takesAxis", "(I)Z"⟩, 5) := ⟨⟨by decide +kernel, by decide +kernel⟩, List.mem_of_getElem? (i := 59) (by decide +kernel), List.mem_of_getElem? (i := 679) (by decide +kernel), List.mem_of_getElem? (i := 680) (by decide +kernel)⟩
theorem lw_p18 : lw_okq (⟨"LabelTree", "matchAll", "()V"⟩, 14) := ⟨⟨by decide +kernel, by decide +kernel⟩, List.mem_of_getElem? (i := 21) (by decide +kernel), List.mem_of_getElem? (i := 721) (by decide +kernel), List.mem_of_getElem? (i := 722) (by decide +kernel)⟩
theorem lw_p19 : lw_okq (⟨"LabelTree$Matcher", "countOwn", "(I)V"⟩, 7) := ⟨⟨by decide +kernel, by decide +kernel⟩, List.mem_of_getElem? (i := 181) (by decide +kernel), List.mem_of_getElem? (i := 730) (by decide +kernel), List.mem_of_getElem? (i := 731) (by decide +kernel)⟩
theorem lw_p20 : lw_okq (⟨"LabelTree$Matcher", "product", "(III)J"⟩, 7) := ⟨⟨by decide +kernel, by decide +kernel⟩, List.mem_of_getElem? (i := 181) (by decide +kernel), List.mem_of_getElem? (i := 735) (by decide +kernel), List.mem_of_getElem? (i := 736) (by decide +kernel)⟩
theorem lw_p21 : lw_okq (⟨"LabelTree$Matcher", "countHung", "(I)V"⟩, 7) := ⟨⟨by decide +kernel, by decide +kernel⟩, List.mem_of_getElem? (i := 181) (by decide +kernel), List.mem_of_getElem? (i := 746) (by decide +kernel), List.mem_of_getElem? (i := 747) (by decide +kernel)⟩
theorem lw_p22 : lw_okq (⟨"LabelTree$Matcher", "sourceOf", "(II)I"⟩, 7) := ⟨⟨by decide +kernel, by decide +kernel⟩, List.mem_of_getElem? (i := 181) (by decide +kernel), List.mem_of_getElem? (i := 753) (by decide +kernel), List.mem_of_getElem? (i := 754) (by decide +kernel)⟩
theorem lw_p23 : lw_okq (⟨"LabelTree$Matcher", "reachesOn", "(I)Z"⟩, 7) := ⟨⟨by decide +kernel, by decide +kernel⟩, List.mem_of_getElem? (i := 181) (by decide +kernel), List.mem_of_getElem? (i := 763) (by decide +kernel), List.mem_of_getElem? (i := 764) (by decide +kernel)⟩
theorem lw_p24 : lw_okq (⟨"LabelTree$Matcher", "countRest", "(II)V"⟩, 7) := ⟨⟨by decide +kernel, by decide +kernel⟩, List.mem_of_getElem? (i := 181) (by decide +kernel), List.mem_of_getElem? (i := 767) (by decide +kernel), List.mem_of_getElem? (i := 768) (by decide +kernel)⟩
theorem lw_p25 : lw_okq (⟨"LabelTree$Matcher", "countOther", "(I)V"⟩, 7) := ⟨⟨by decide +kernel, by decide +kernel⟩, List.mem_of_getElem? (i := 181) (by decide +kernel), List.mem_of_getElem? (i := 771) (by decide +kernel), List.mem_of_getElem? (i := 772) (by decide +kernel)⟩
theorem lw_p26 : lw_okq (⟨"LabelTree", "keptTree", "(I)LLabelTree$Tree;"⟩, 14) := ⟨⟨by decide +kernel, by decide +kernel⟩, List.mem_of_getElem? (i := 21) (by decide +kernel), List.mem_of_getElem? (i := 804) (by decide +kernel), List.mem_of_getElem? (i := 805) (by decide +kernel)⟩
theorem lw_p27 : lw_okq (⟨"LabelTree", "mostFigures", "()I"⟩, 14) := ⟨⟨by decide +kernel, by decide +kernel⟩, List.mem_of_getElem? (i := 21) (by decide +kernel), List.mem_of_getElem? (i := 817) (by decide +kernel), List.mem_of_getElem? (i := 818) (by decide +kernel)⟩
theorem lw_p28 : lw_okq (⟨"LabelTreeModel", "root", "(I)V"⟩, 27) := ⟨⟨by decide +kernel, by decide +kernel⟩, List.mem_of_getElem? (i := 833) (by decide +kernel), List.mem_of_getElem? (i := 839) (by decide +kernel), List.mem_of_getElem? (i := 840) (by decide +kernel)⟩
theorem lw_p29 : lw_okq (⟨"LabelTreeModel", "comes", "(III)I"⟩, 27) := ⟨⟨by decide +kernel, by decide +kernel⟩, List.mem_of_getElem? (i := 833) (by decide +kernel), List.mem_of_getElem? (i := 843) (by decide +kernel), List.mem_of_getElem? (i := 844) (by decide +kernel)⟩
theorem lw_p30 : lw_okq (⟨"LabelTreeModel", "keyFor", "(II)I"⟩, 27) := ⟨⟨by decide +kernel, by decide +kernel⟩, List.mem_of_getElem? (i := 833) (by decide +kernel), List.mem_of_getElem? (i := 847) (by decide +kernel), List.mem_of_getElem? (i := 848) (by decide +kernel)⟩
theorem lw_p31 : lw_okq (⟨"LabelTreeModel", "childAt", "(II)I"⟩, 27) := ⟨⟨by decide +kernel, by decide +kernel⟩, List.mem_of_getElem? (i := 833) (by decide +kernel), List.mem_of_getElem? (i := 851) (by decide +kernel), List.mem_of_getElem? (i := 852) (by decide +kernel)⟩
def lw_privs_2 : List (MethodName × Nat) := [(⟨"LabelTree$PatternReader", "closes", "()Z"⟩, 5), (⟨"LabelTree$PatternReader", "takesAxis", "(I)Z"⟩, 5), (⟨"LabelTree", "matchAll", "()V"⟩, 14), (⟨"LabelTree$Matcher", "countOwn", "(I)V"⟩, 7), (⟨"LabelTree$Matcher", "product", "(III)J"⟩, 7), (⟨"LabelTree$Matcher", "countHung", "(I)V"⟩, 7), (⟨"LabelTree$Matcher", "sourceOf", "(II)I"⟩, 7), (⟨"LabelTree$Matcher", "reachesOn", "(I)Z"⟩, 7), (⟨"LabelTree$Matcher", "countRest", "(II)V"⟩, 7), (⟨"LabelTree$Matcher", "countOther", "(I)V"⟩, 7), (⟨"LabelTree", "keptTree", "(I)LLabelTree$Tree;"⟩, 14), (⟨"LabelTree", "mostFigures", "()I"⟩, 14), (⟨"LabelTreeModel", "root", "(I)V"⟩, 27), (⟨"LabelTreeModel", "comes", "(III)I"⟩, 27), (⟨"LabelTreeModel", "keyFor", "(II)I"⟩, 27), (⟨"LabelTreeModel", "childAt", "(II)I"⟩, 27)]
theorem lw_r2 : ∀ q ∈ lw_privs_2, lw_okq q := List.forall_mem_cons.mpr ⟨lw_p16, List.forall_mem_cons.mpr ⟨lw_p17, List.forall_mem_cons.mpr ⟨lw_p18, List.forall_mem_cons.mpr ⟨lw_p19, List.forall_mem_cons.mpr ⟨lw_p20, List.forall_mem_cons.mpr ⟨lw_p21, List.forall_mem_cons.mpr ⟨lw_p22, List.forall_mem_cons.mpr ⟨lw_p23, List.forall_mem_cons.mpr ⟨lw_p24, List.forall_mem_cons.mpr ⟨lw_p25, List.forall_mem_cons.mpr ⟨lw_p26, List.forall_mem_cons.mpr ⟨lw_p27, List.forall_mem_cons.mpr ⟨lw_p28, List.forall_mem_cons.mpr ⟨lw_p29, List.forall_mem_cons.mpr ⟨lw_p30, List.forall_mem_cons.mpr ⟨lw_p31, fun _ h => absurd h List.not_mem_nil⟩⟩⟩⟩⟩⟩⟩⟩⟩⟩⟩⟩⟩⟩⟩⟩
theorem lw_p32 : lw_okq (⟨"LabelTreeModel", "childBehind", "(II)I"⟩, 27) := ⟨⟨by decide +kernel, by decide +kernel⟩, List.mem_of_getElem? (i := 833) (by decide +kernel), List.mem_of_getElem? (i := 855) (by decide +kernel), List.mem_of_getElem? (i := 856) (by decide +kernel)⟩
theorem lw_p33 : lw_okq (⟨"LabelTreeModel", "childMany", "(I)I"⟩, 27) := ⟨⟨by decide +kernel, by decide +kernel⟩, List.mem_of_getElem? (i := 833) (by decide +kernel), List.mem_of_getElem? (i := 862) (by decide +kernel), List.mem_of_getElem? (i := 863) (by decide +kernel)⟩
theorem lw_p34 : lw_okq (⟨"LabelTreeModel", "keyBetween", "(II)I"⟩, 27) := ⟨⟨by decide +kernel, by decide +kernel⟩, List.mem_of_getElem? (i := 833) (by decide +kernel), List.mem_of_getElem? (i := 867) (by decide +kernel), List.mem_of_getElem? (i := 868) (by decide +kernel)⟩
theorem lw_p35 : lw_okq (⟨"LabelTreeModel", "isNode", "(I)Z"⟩, 27) := ⟨⟨by decide +kernel, by decide +kernel⟩, List.mem_of_getElem? (i := 833) (by decide +kernel), List.mem_of_getElem? (i := 957) (by decide +kernel), List.mem_of_getElem? (i := 958) (by decide +kernel)⟩
theorem lw_p36 : lw_okq (⟨"LabelTreeModel", "deepOf", "(I)I"⟩, 27) := ⟨⟨by decide +kernel, by decide +kernel⟩, List.mem_of_getElem? (i := 833) (by decide +kernel), List.mem_of_getElem? (i := 964) (by decide +kernel), List.mem_of_getElem? (i := 965) (by decide +kernel)⟩
theorem lw_p37 : lw_okq (⟨"LabelTreeModel", "placeOf", "(I)I"⟩, 27) := ⟨⟨by decide +kernel, by decide +kernel⟩, List.mem_of_getElem? (i := 833) (by decide +kernel), List.mem_of_getElem? (i := 968) (by decide +kernel), List.mem_of_getElem? (i := 969) (by decide +kernel)⟩
theorem lw_p38 : lw_okq (⟨"LabelTreeModel", "behind", "(I)I"⟩, 27) := ⟨⟨by decide +kernel, by decide +kernel⟩, List.mem_of_getElem? (i := 833) (by decide +kernel), List.mem_of_getElem? (i := 972) (by decide +kernel), List.mem_of_getElem? (i := 973) (by decide +kernel)⟩
theorem lw_p39 : lw_okq (⟨"LabelTreeModel", "belowSet", "(I)I"⟩, 27) := ⟨⟨by decide +kernel, by decide +kernel⟩, List.mem_of_getElem? (i := 833) (by decide +kernel), List.mem_of_getElem? (i := 976) (by decide +kernel), List.mem_of_getElem? (i := 977) (by decide +kernel)⟩
theorem lw_p40 : lw_okq (⟨"LabelTreeModel", "isOver", "(II)Z"⟩, 27) := ⟨⟨by decide +kernel, by decide +kernel⟩, List.mem_of_getElem? (i := 833) (by decide +kernel), List.mem_of_getElem? (i := 980) (by decide +kernel), List.mem_of_getElem? (i := 981) (by decide +kernel)⟩
theorem lw_p41 : lw_okq (⟨"LabelTreeModel", "notes", "()V"⟩, 27) := ⟨⟨by decide +kernel, by decide +kernel⟩, List.mem_of_getElem? (i := 833) (by decide +kernel), List.mem_of_getElem? (i := 1012) (by decide +kernel), List.mem_of_getElem? (i := 1013) (by decide +kernel)⟩
theorem lw_p42 : lw_okq (⟨"LabelTreeModel", "lays", "([II)V"⟩, 27) := ⟨⟨by decide +kernel, by decide +kernel⟩, List.mem_of_getElem? (i := 833) (by decide +kernel), List.mem_of_getElem? (i := 1016) (by decide +kernel), List.mem_of_getElem? (i := 1017) (by decide +kernel)⟩
theorem lw_p43 : lw_okq (⟨"LabelTreeModel", "takes", "([II)V"⟩, 27) := ⟨⟨by decide +kernel, by decide +kernel⟩, List.mem_of_getElem? (i := 833) (by decide +kernel), List.mem_of_getElem? (i := 1032) (by decide +kernel), List.mem_of_getElem? (i := 1033) (by decide +kernel)⟩
theorem lw_p44 : lw_okq (⟨"LabelTreeModel", "reads", "()I"⟩, 27) := ⟨⟨by decide +kernel, by decide +kernel⟩, List.mem_of_getElem? (i := 833) (by decide +kernel), List.mem_of_getElem? (i := 1072) (by decide +kernel), List.mem_of_getElem? (i := 1073) (by decide +kernel)⟩
theorem lw_p45 : lw_okq (⟨"LabelTreeModel", "readsItem", "(Z)Z"⟩, 27) := ⟨⟨by decide +kernel, by decide +kernel⟩, List.mem_of_getElem? (i := 833) (by decide +kernel), List.mem_of_getElem? (i := 1076) (by decide +kernel), List.mem_of_getElem? (i := 1077) (by decide +kernel)⟩
theorem lw_p46 : lw_okq (⟨"LabelTreeModel", "here", "()I"⟩, 27) := ⟨⟨by decide +kernel, by decide +kernel⟩, List.mem_of_getElem? (i := 833) (by decide +kernel), List.mem_of_getElem? (i := 1080) (by decide +kernel), List.mem_of_getElem? (i := 1081) (by decide +kernel)⟩
theorem lw_p47 : lw_okq (⟨"LabelTreeModel", "readsKind", "()Z"⟩, 27) := ⟨⟨by decide +kernel, by decide +kernel⟩, List.mem_of_getElem? (i := 833) (by decide +kernel), List.mem_of_getElem? (i := 1084) (by decide +kernel), List.mem_of_getElem? (i := 1085) (by decide +kernel)⟩
def lw_privs_3 : List (MethodName × Nat) := [(⟨"LabelTreeModel", "childBehind", "(II)I"⟩, 27), (⟨"LabelTreeModel", "childMany", "(I)I"⟩, 27), (⟨"LabelTreeModel", "keyBetween", "(II)I"⟩, 27), (⟨"LabelTreeModel", "isNode", "(I)Z"⟩, 27), (⟨"LabelTreeModel", "deepOf", "(I)I"⟩, 27), (⟨"LabelTreeModel", "placeOf", "(I)I"⟩, 27), (⟨"LabelTreeModel", "behind", "(I)I"⟩, 27), (⟨"LabelTreeModel", "belowSet", "(I)I"⟩, 27), (⟨"LabelTreeModel", "isOver", "(II)Z"⟩, 27), (⟨"LabelTreeModel", "notes", "()V"⟩, 27), (⟨"LabelTreeModel", "lays", "([II)V"⟩, 27), (⟨"LabelTreeModel", "takes", "([II)V"⟩, 27), (⟨"LabelTreeModel", "reads", "()I"⟩, 27), (⟨"LabelTreeModel", "readsItem", "(Z)Z"⟩, 27), (⟨"LabelTreeModel", "here", "()I"⟩, 27), (⟨"LabelTreeModel", "readsKind", "()Z"⟩, 27)]
theorem lw_r3 : ∀ q ∈ lw_privs_3, lw_okq q := List.forall_mem_cons.mpr ⟨lw_p32, List.forall_mem_cons.mpr ⟨lw_p33, List.forall_mem_cons.mpr ⟨lw_p34, List.forall_mem_cons.mpr ⟨lw_p35, List.forall_mem_cons.mpr ⟨lw_p36, List.forall_mem_cons.mpr ⟨lw_p37, List.forall_mem_cons.mpr ⟨lw_p38, List.forall_mem_cons.mpr ⟨lw_p39, List.forall_mem_cons.mpr ⟨lw_p40, List.forall_mem_cons.mpr ⟨lw_p41, List.forall_mem_cons.mpr ⟨lw_p42, List.forall_mem_cons.mpr ⟨lw_p43, List.forall_mem_cons.mpr ⟨lw_p44, List.forall_mem_cons.mpr ⟨lw_p45, List.forall_mem_cons.mpr ⟨lw_p46, List.forall_mem_cons.mpr ⟨lw_p47, fun _ h => absurd h List.not_mem_nil⟩⟩⟩⟩⟩⟩⟩⟩⟩⟩⟩⟩⟩⟩⟩⟩
theorem lw_p48 : lw_okq (⟨"LabelTreeModel", "number", "(III)Z"⟩, 27) := ⟨⟨by decide +kernel, by decide +kernel⟩, List.mem_of_getElem? (i := 833) (by decide +kernel), List.mem_of_getElem? (i := 1088) (by decide +kernel), List.mem_of_getElem? (i := 1089) (by decide +kernel)⟩
theorem lw_p49 : lw_okq (⟨"LabelTreeModel", "isFigure", "()Z"⟩, 27) := ⟨⟨by decide +kernel, by decide +kernel⟩, List.mem_of_getElem? (i := 833) (by decide +kernel), List.mem_of_getElem? (i := 1092) (by decide +kernel), List.mem_of_getElem? (i := 1093) (by decide +kernel)⟩
theorem lw_p50 : lw_okq (⟨"LabelTreeModel", "readsRoot", "()Z"⟩, 27) := ⟨⟨by decide +kernel, by decide +kernel⟩, List.mem_of_getElem? (i := 833) (by decide +kernel), List.mem_of_getElem? (i := 1096) (by decide +kernel), List.mem_of_getElem? (i := 1097) (by decide +kernel)⟩
theorem lw_p51 : lw_okq (⟨"LabelTreeModel", "readsNode", "()Z"⟩, 27) := ⟨⟨by decide +kernel, by decide +kernel⟩, List.mem_of_getElem? (i := 833) (by decide +kernel), List.mem_of_getElem? (i := 1100) (by decide +kernel), List.mem_of_getElem? (i := 1101) (by decide +kernel)⟩
theorem lw_p52 : lw_okq (⟨"LabelTreeModel", "readsPattern", "()I"⟩, 27) := ⟨⟨by decide +kernel, by decide +kernel⟩, List.mem_of_getElem? (i := 833) (by decide +kernel), List.mem_of_getElem? (i := 1115) (by decide +kernel), List.mem_of_getElem? (i := 1116) (by decide +kernel)⟩
theorem lw_p53 : lw_okq (⟨"LabelTreeModel", "readsStep", "(II)Z"⟩, 27) := ⟨⟨by decide +kernel, by decide +kernel⟩, List.mem_of_getElem? (i := 833) (by decide +kernel), List.mem_of_getElem? (i := 1119) (by decide +kernel), List.mem_of_getElem? (i := 1120) (by decide +kernel)⟩
theorem lw_p54 : lw_okq (⟨"LabelTreeModel", "isStep", "(I)Z"⟩, 27) := ⟨⟨by decide +kernel, by decide +kernel⟩, List.mem_of_getElem? (i := 833) (by decide +kernel), List.mem_of_getElem? (i := 1130) (by decide +kernel), List.mem_of_getElem? (i := 1131) (by decide +kernel)⟩
theorem lw_p55 : lw_okq (⟨"LabelTreeModel", "waysBy", "(II)J"⟩, 27) := ⟨⟨by decide +kernel, by decide +kernel⟩, List.mem_of_getElem? (i := 833) (by decide +kernel), List.mem_of_getElem? (i := 1139) (by decide +kernel), List.mem_of_getElem? (i := 1140) (by decide +kernel)⟩
theorem lw_p56 : lw_okq (⟨"LabelTreeModel", "sumOf", "(II)J"⟩, 27) := ⟨⟨by decide +kernel, by decide +kernel⟩, List.mem_of_getElem? (i := 833) (by decide +kernel), List.mem_of_getElem? (i := 1143) (by decide +kernel), List.mem_of_getElem? (i := 1144) (by decide +kernel)⟩
theorem lw_p57 : lw_okq (⟨"LabelTreeModel", "stands", "(III)Z"⟩, 27) := ⟨⟨by decide +kernel, by decide +kernel⟩, List.mem_of_getElem? (i := 833) (by decide +kernel), List.mem_of_getElem? (i := 1147) (by decide +kernel), List.mem_of_getElem? (i := 1148) (by decide +kernel)⟩
theorem lw_p58 : lw_okq (⟨"LabelTreeModel", "usefulSet", "(I)I"⟩, 27) := ⟨⟨by decide +kernel, by decide +kernel⟩, List.mem_of_getElem? (i := 833) (by decide +kernel), List.mem_of_getElem? (i := 1160) (by decide +kernel), List.mem_of_getElem? (i := 1161) (by decide +kernel)⟩
theorem lw_p59 : lw_okq (⟨"LabelTreeModel", "mostFigures", "()I"⟩, 27) := ⟨⟨by decide +kernel, by decide +kernel⟩, List.mem_of_getElem? (i := 833) (by decide +kernel), List.mem_of_getElem? (i := 1172) (by decide +kernel), List.mem_of_getElem? (i := 1173) (by decide +kernel)⟩
theorem lw_p60 : lw_okq (⟨"LabelTreeModel", "mostKeys", "()I"⟩, 27) := ⟨⟨by decide +kernel, by decide +kernel⟩, List.mem_of_getElem? (i := 833) (by decide +kernel), List.mem_of_getElem? (i := 1176) (by decide +kernel), List.mem_of_getElem? (i := 1177) (by decide +kernel)⟩
def lw_privs_4 : List (MethodName × Nat) := [(⟨"LabelTreeModel", "number", "(III)Z"⟩, 27), (⟨"LabelTreeModel", "isFigure", "()Z"⟩, 27), (⟨"LabelTreeModel", "readsRoot", "()Z"⟩, 27), (⟨"LabelTreeModel", "readsNode", "()Z"⟩, 27), (⟨"LabelTreeModel", "readsPattern", "()I"⟩, 27), (⟨"LabelTreeModel", "readsStep", "(II)Z"⟩, 27), (⟨"LabelTreeModel", "isStep", "(I)Z"⟩, 27), (⟨"LabelTreeModel", "waysBy", "(II)J"⟩, 27), (⟨"LabelTreeModel", "sumOf", "(II)J"⟩, 27), (⟨"LabelTreeModel", "stands", "(III)Z"⟩, 27), (⟨"LabelTreeModel", "usefulSet", "(I)I"⟩, 27), (⟨"LabelTreeModel", "mostFigures", "()I"⟩, 27), (⟨"LabelTreeModel", "mostKeys", "()I"⟩, 27)]
theorem lw_r4 : ∀ q ∈ lw_privs_4, lw_okq q := List.forall_mem_cons.mpr ⟨lw_p48, List.forall_mem_cons.mpr ⟨lw_p49, List.forall_mem_cons.mpr ⟨lw_p50, List.forall_mem_cons.mpr ⟨lw_p51, List.forall_mem_cons.mpr ⟨lw_p52, List.forall_mem_cons.mpr ⟨lw_p53, List.forall_mem_cons.mpr ⟨lw_p54, List.forall_mem_cons.mpr ⟨lw_p55, List.forall_mem_cons.mpr ⟨lw_p56, List.forall_mem_cons.mpr ⟨lw_p57, List.forall_mem_cons.mpr ⟨lw_p58, List.forall_mem_cons.mpr ⟨lw_p59, List.forall_mem_cons.mpr ⟨lw_p60, fun _ h => absurd h List.not_mem_nil⟩⟩⟩⟩⟩⟩⟩⟩⟩⟩⟩⟩⟩
def lw_privs : List (MethodName × Nat) := lw_privs_1 ++ (lw_privs_2 ++ (lw_privs_3 ++ (lw_privs_4)))
def lw_tbl : List Cond := k2_sels lw_privs ++ tables_1
theorem lw_privs_ok : ∀ q ∈ lw_privs, lw_okq q := by
  show ∀ q ∈ lw_privs_1 ++ (lw_privs_2 ++ (lw_privs_3 ++ (lw_privs_4))), lw_okq q
  exact List.forall_mem_append.mpr ⟨lw_r1, List.forall_mem_append.mpr ⟨lw_r2, List.forall_mem_append.mpr ⟨lw_r3, lw_r4⟩⟩⟩
end
section
/-! ===== BEGIN words of one list among another's, by their places ===== -/
theorem goodIn_r {big : List Cond} (ws : List Cond) (ps : List Nat) (hp : ws = ps.filterMap (fun i => big[i]?)) (h : ws.all goodWord = true) : GoodIn big ws := by
  intro w hw
  have h1 := List.all_eq_true.mp h w hw
  rw [hp] at hw
  obtain ⟨i, -, hi⟩ := List.mem_filterMap.mp hw
  have hm : w ∈ big := by first | exact List.mem_of_getElem? hi | exact List.getElem?_mem hi
  exact ⟨hm, good_of_word h1⟩
theorem goodIn_app {big a b : List Cond} (ha : GoodIn big a) (hb : GoodIn big b) : GoodIn big (a ++ b) := fun w h => (List.mem_append.mp h).elim (ha w) (hb w)
theorem goodIn_ca {big a b : List Cond} {c : Cond} (ha : GoodIn big (c :: a)) (hb : GoodIn big b) : GoodIn big (c :: (a ++ b)) := fun w h => (List.mem_cons.mp h).elim (fun e => ha w (List.mem_cons.mpr (Or.inl e))) (fun h => (List.mem_append.mp h).elim (fun h => ha w (List.mem_cons.mpr (Or.inr h))) (hb w))
theorem goodIn_sub {big ws : List Cond} (hm : ∀ w ∈ ws, w ∈ big) (h : ws.all goodWord = true) : GoodIn big ws := fun w hw => ⟨hm w hw, good_of_word (List.all_eq_true.mp h w hw)⟩
/-! ===== END ===== -/

def RX0 : String := "LabelTree$Keys"
def TX0 : u_T := fun k => match k with
  | _ => ("", "", "", false)
def tyX0 : Nat → FieldType := fun k => match k with
  | _ => .int
abbrev wsX00 : List Cond := u_ws RX0 TX0 0
theorem nmX0 : ∀ a, a < 0 → ∀ b, b < 0 → a ≠ b → (TX0 a).2.1 ≠ (TX0 b).2.1 := by decide +kernel
theorem tyX0_ok : ∀ k, k < 0 → parseFieldDescriptor (TX0 k).2.2.1 = some (tyX0 k) := by decide +kernel
abbrev cX0_choose : ByteArray := prog_2_method_2_code
def yX0_choose : MethodName := ⟨RX0, "choose", "(III)I"⟩
abbrev cX0_pick : ByteArray := prog_2_method_3_code
def yX0_pick : MethodName := ⟨RX0, "pick", "(III)I"⟩
abbrev cX0_length : ByteArray := prog_2_method_4_code
def yX0_length : MethodName := ⟨RX0, "length", "(I)I"⟩
abbrev cX0_figures : ByteArray := prog_2_method_5_code
def yX0_figures : MethodName := ⟨RX0, "figures", "(I)I"⟩
def RX1 : String := "LabelTree$Letters"
def TX1 : u_T := fun k => match k with
  | 0 => ("LabelTree$Letters", "letters", "[I", true)
  | _ => ("LabelTree$Letters", "size", "I", false)
def tyX1 : Nat → FieldType := fun k => match k with
  | 0 => .array .int
  | _ => .int
abbrev wsX10 : List Cond := u_ws RX1 TX1 2
theorem nmX1 : ∀ a, a < 2 → ∀ b, b < 2 → a ≠ b → (TX1 a).2.1 ≠ (TX1 b).2.1 := by decide +kernel
theorem tyX1_ok : ∀ k, k < 2 → parseFieldDescriptor (TX1 k).2.2.1 = some (tyX1 k) := by decide +kernel
abbrev cX1_init : ByteArray := prog_3_method_1_code
def yX1_init : MethodName := ⟨RX1, "<init>", "()V"⟩
abbrev cX1_size : ByteArray := prog_3_method_2_code
def yX1_size : MethodName := ⟨RX1, "size", "()I"⟩
abbrev cX1_isFull : ByteArray := prog_3_method_3_code
def yX1_isFull : MethodName := ⟨RX1, "isFull", "()Z"⟩
abbrev cX1_add : ByteArray := prog_3_method_4_code
def yX1_add : MethodName := ⟨RX1, "add", "(I)V"⟩
abbrev cX1_clear : ByteArray := prog_3_method_5_code
def yX1_clear : MethodName := ⟨RX1, "clear", "()V"⟩
abbrev cX1_letterAt : ByteArray := prog_3_method_6_code
def yX1_letterAt : MethodName := ⟨RX1, "letterAt", "(I)I"⟩
def RX2 : String := "LabelTree$Matcher"
def TX2 : u_T := fun k => match k with
  | 0 => ("LabelTree$Matcher", "own", "[[J", true)
  | 1 => ("LabelTree$Matcher", "hung", "[[J", true)
  | 2 => ("LabelTree$Matcher", "other", "[[J", true)
  | 3 => ("LabelTree$Matcher", "rest", "[J", true)
  | 4 => ("LabelTree$Matcher", "tree", "LLabelTree$Tree;", true)
  | 5 => ("LabelTree$Matcher", "order", "LLabelTree$Order;", true)
  | _ => ("LabelTree$Matcher", "pattern", "LLabelTree$Pattern;", true)
def tyX2 : Nat → FieldType := fun k => match k with
  | 0 => .array (.array .long)
  | 1 => .array (.array .long)
  | 2 => .array (.array .long)
  | 3 => .array .long
  | 4 => .object "LabelTree$Tree"
  | 5 => .object "LabelTree$Order"
  | _ => .object "LabelTree$Pattern"
abbrev wsX20 : List Cond := u_ws RX2 TX2 7
theorem nmX2 : ∀ a, a < 7 → ∀ b, b < 7 → a ≠ b → (TX2 a).2.1 ≠ (TX2 b).2.1 := by decide +kernel
theorem tyX2_ok : ∀ k, k < 7 → parseFieldDescriptor (TX2 k).2.2.1 = some (tyX2 k) := by decide +kernel
abbrev cX2_init : ByteArray := prog_4_method_1_code
def yX2_init : MethodName := ⟨RX2, "<init>", "(LLabelTree$Tree;LLabelTree$Order;LLabelTree$Pattern;)V"⟩
abbrev cX2_run : ByteArray := prog_4_method_2_code
def yX2_run : MethodName := ⟨RX2, "run", "()V"⟩
abbrev cX2_total : ByteArray := prog_4_method_3_code
def yX2_total : MethodName := ⟨RX2, "total", "()J"⟩
abbrev cX2_ways : ByteArray := prog_4_method_4_code
def yX2_ways : MethodName := ⟨RX2, "ways", "(II)J"⟩
abbrev cX2_countOwn : ByteArray := prog_4_method_5_code
def yX2_countOwn : MethodName := ⟨RX2, "countOwn", "(I)V"⟩
abbrev cX2_product : ByteArray := prog_4_method_6_code
def yX2_product : MethodName := ⟨RX2, "product", "(III)J"⟩
abbrev cX2_countHung : ByteArray := prog_4_method_7_code
def yX2_countHung : MethodName := ⟨RX2, "countHung", "(I)V"⟩
abbrev cX2_countRest : ByteArray := prog_4_method_8_code
def yX2_countRest : MethodName := ⟨RX2, "countRest", "(II)V"⟩
abbrev cX2_countOther : ByteArray := prog_4_method_9_code
def yX2_countOther : MethodName := ⟨RX2, "countOther", "(I)V"⟩
abbrev cX2_sourceOf : ByteArray := prog_4_method_10_code
def yX2_sourceOf : MethodName := ⟨RX2, "sourceOf", "(II)I"⟩
abbrev cX2_reachesOn : ByteArray := prog_4_method_11_code
def yX2_reachesOn : MethodName := ⟨RX2, "reachesOn", "(I)Z"⟩
def RX3 : String := "LabelTree$Order"
def TX3 : u_T := fun k => match k with
  | 0 => ("LabelTree$Order", "ranks", "[I", true)
  | 1 => ("LabelTree$Order", "nodes", "[I", true)
  | 2 => ("LabelTree$Order", "parents", "[I", true)
  | 3 => ("LabelTree$Order", "elders", "[I", true)
  | 4 => ("LabelTree$Order", "levels", "[I", true)
  | 5 => ("LabelTree$Order", "kids", "[I", true)
  | 6 => ("LabelTree$Order", "belows", "[I", true)
  | _ => ("LabelTree$Order", "size", "I", false)
def tyX3 : Nat → FieldType := fun k => match k with
  | 0 => .array .int
  | 1 => .array .int
  | 2 => .array .int
  | 3 => .array .int
  | 4 => .array .int
  | 5 => .array .int
  | 6 => .array .int
  | _ => .int
abbrev wsX30 : List Cond := u_ws RX3 TX3 8
theorem nmX3 : ∀ a, a < 8 → ∀ b, b < 8 → a ≠ b → (TX3 a).2.1 ≠ (TX3 b).2.1 := by decide +kernel
theorem tyX3_ok : ∀ k, k < 8 → parseFieldDescriptor (TX3 k).2.2.1 = some (tyX3 k) := by decide +kernel
abbrev cX3_init : ByteArray := prog_5_method_1_code
def yX3_init : MethodName := ⟨RX3, "<init>", "()V"⟩
abbrev cX3_read : ByteArray := prog_5_method_2_code
def yX3_read : MethodName := ⟨RX3, "read", "(LLabelTree$Tree;)V"⟩
abbrev cX3_takeFollower : ByteArray := prog_5_method_3_code
def yX3_takeFollower : MethodName := ⟨RX3, "takeFollower", "(LLabelTree$Tree;I)V"⟩
abbrev cX3_take : ByteArray := prog_5_method_4_code
def yX3_take : MethodName := ⟨RX3, "take", "(III)V"⟩
abbrev cX3_isRank : ByteArray := prog_5_method_5_code
def yX3_isRank : MethodName := ⟨RX3, "isRank", "(I)Z"⟩
abbrev cX3_size : ByteArray := prog_5_method_6_code
def yX3_size : MethodName := ⟨RX3, "size", "()I"⟩
abbrev cX3_rankOf : ByteArray := prog_5_method_7_code
def yX3_rankOf : MethodName := ⟨RX3, "rankOf", "(I)I"⟩
abbrev cX3_nodeAt : ByteArray := prog_5_method_8_code
def yX3_nodeAt : MethodName := ⟨RX3, "nodeAt", "(I)I"⟩
abbrev cX3_parentAt : ByteArray := prog_5_method_9_code
def yX3_parentAt : MethodName := ⟨RX3, "parentAt", "(I)I"⟩
abbrev cX3_elderAt : ByteArray := prog_5_method_10_code
def yX3_elderAt : MethodName := ⟨RX3, "elderAt", "(I)I"⟩
abbrev cX3_levelAt : ByteArray := prog_5_method_11_code
def yX3_levelAt : MethodName := ⟨RX3, "levelAt", "(I)I"⟩
abbrev cX3_kidsAt : ByteArray := prog_5_method_12_code
def yX3_kidsAt : MethodName := ⟨RX3, "kidsAt", "(I)I"⟩
abbrev cX3_belowAt : ByteArray := prog_5_method_13_code
def yX3_belowAt : MethodName := ⟨RX3, "belowAt", "(I)I"⟩
abbrev cX3_spans : ByteArray := prog_5_method_14_code
def yX3_spans : MethodName := ⟨RX3, "spans", "(II)Z"⟩
abbrev cX3_bitsFrom : ByteArray := prog_5_method_15_code
def yX3_bitsFrom : MethodName := ⟨RX3, "bitsFrom", "(I)I"⟩
abbrev cX3_mostLevels : ByteArray := prog_5_method_16_code
def yX3_mostLevels : MethodName := ⟨RX3, "mostLevels", "()I"⟩
def RX4 : String := "LabelTree$Past"
def TX4 : u_T := fun k => match k with
  | 0 => ("LabelTree$Past", "bits", "[I", true)
  | 1 => ("LabelTree$Past", "cames", "[I", true)
  | 2 => ("LabelTree$Past", "tagged", "[I", true)
  | 3 => ("LabelTree$Past", "tags", "[I", true)
  | _ => ("LabelTree$Past", "size", "I", false)
def tyX4 : Nat → FieldType := fun k => match k with
  | 0 => .array .int
  | 1 => .array .int
  | 2 => .array .int
  | 3 => .array .int
  | _ => .int
abbrev wsX40 : List Cond := u_ws RX4 TX4 5
theorem nmX4 : ∀ a, a < 5 → ∀ b, b < 5 → a ≠ b → (TX4 a).2.1 ≠ (TX4 b).2.1 := by decide +kernel
theorem tyX4_ok : ∀ k, k < 5 → parseFieldDescriptor (TX4 k).2.2.1 = some (tyX4 k) := by decide +kernel
abbrev cX4_init : ByteArray := prog_6_method_1_code
def yX4_init : MethodName := ⟨RX4, "<init>", "()V"⟩
abbrev cX4_size : ByteArray := prog_6_method_2_code
def yX4_size : MethodName := ⟨RX4, "size", "()I"⟩
abbrev cX4_clear : ByteArray := prog_6_method_3_code
def yX4_clear : MethodName := ⟨RX4, "clear", "()V"⟩
abbrev cX4_record : ByteArray := prog_6_method_4_code
def yX4_record : MethodName := ⟨RX4, "record", "(LLabelTree$Tree;I)V"⟩
abbrev cX4_forgetFirst : ByteArray := prog_6_method_5_code
def yX4_forgetFirst : MethodName := ⟨RX4, "forgetFirst", "()V"⟩
abbrev cX4_restore : ByteArray := prog_6_method_6_code
def yX4_restore : MethodName := ⟨RX4, "restore", "(LLabelTree$Tree;)V"⟩
def RX5 : String := "LabelTree$Pattern"
def TX5 : u_T := fun k => match k with
  | 0 => ("LabelTree$Pattern", "tags", "[I", true)
  | 1 => ("LabelTree$Pattern", "hangs", "[I", true)
  | 2 => ("LabelTree$Pattern", "axes", "[I", true)
  | 3 => ("LabelTree$Pattern", "size", "I", false)
  | _ => ("LabelTree$Pattern", "lastOutermost", "I", false)
def tyX5 : Nat → FieldType := fun k => match k with
  | 0 => .array .int
  | 1 => .array .int
  | 2 => .array .int
  | 3 => .int
  | _ => .int
abbrev wsX50 : List Cond := u_ws RX5 TX5 5
theorem nmX5 : ∀ a, a < 5 → ∀ b, b < 5 → a ≠ b → (TX5 a).2.1 ≠ (TX5 b).2.1 := by decide +kernel
theorem tyX5_ok : ∀ k, k < 5 → parseFieldDescriptor (TX5 k).2.2.1 = some (tyX5 k) := by decide +kernel
abbrev cX5_init : ByteArray := prog_7_method_1_code
def yX5_init : MethodName := ⟨RX5, "<init>", "()V"⟩
abbrev cX5_clear : ByteArray := prog_7_method_2_code
def yX5_clear : MethodName := ⟨RX5, "clear", "()V"⟩
abbrev cX5_copyFrom : ByteArray := prog_7_method_3_code
def yX5_copyFrom : MethodName := ⟨RX5, "copyFrom", "(LLabelTree$Pattern;)V"⟩
abbrev cX5_size : ByteArray := prog_7_method_4_code
def yX5_size : MethodName := ⟨RX5, "size", "()I"⟩
abbrev cX5_has : ByteArray := prog_7_method_5_code
def yX5_has : MethodName := ⟨RX5, "has", "(I)Z"⟩
abbrev cX5_add : ByteArray := prog_7_method_6_code
def yX5_add : MethodName := ⟨RX5, "add", "(III)I"⟩
abbrev cX5_setLastOutermost : ByteArray := prog_7_method_7_code
def yX5_setLastOutermost : MethodName := ⟨RX5, "setLastOutermost", "(I)V"⟩
abbrev cX5_lastOutermost : ByteArray := prog_7_method_8_code
def yX5_lastOutermost : MethodName := ⟨RX5, "lastOutermost", "()I"⟩
abbrev cX5_tagOf : ByteArray := prog_7_method_9_code
def yX5_tagOf : MethodName := ⟨RX5, "tagOf", "(I)I"⟩
abbrev cX5_hangOf : ByteArray := prog_7_method_10_code
def yX5_hangOf : MethodName := ⟨RX5, "hangOf", "(I)I"⟩
abbrev cX5_axisOf : ByteArray := prog_7_method_11_code
def yX5_axisOf : MethodName := ⟨RX5, "axisOf", "(I)I"⟩
abbrev cX5_fits : ByteArray := prog_7_method_12_code
def yX5_fits : MethodName := ⟨RX5, "fits", "(II)Z"⟩
def RX6 : String := "LabelTree$PatternReader"
def TX6 : u_T := fun k => match k with
  | 0 => ("LabelTree$PatternReader", "opened", "[I", true)
  | 1 => ("LabelTree$PatternReader", "depth", "I", false)
  | 2 => ("LabelTree$PatternReader", "due", "I", false)
  | 3 => ("LabelTree$PatternReader", "latest", "I", false)
  | _ => ("LabelTree$PatternReader", "axis", "I", false)
def tyX6 : Nat → FieldType := fun k => match k with
  | 0 => .array .int
  | 1 => .int
  | 2 => .int
  | 3 => .int
  | _ => .int
abbrev wsX60 : List Cond := u_ws RX6 TX6 5
theorem nmX6 : ∀ a, a < 5 → ∀ b, b < 5 → a ≠ b → (TX6 a).2.1 ≠ (TX6 b).2.1 := by decide +kernel
theorem tyX6_ok : ∀ k, k < 5 → parseFieldDescriptor (TX6 k).2.2.1 = some (tyX6 k) := by decide +kernel
abbrev cX6_init : ByteArray := prog_8_method_1_code
def yX6_init : MethodName := ⟨RX6, "<init>", "()V"⟩
abbrev cX6_read : ByteArray := prog_8_method_2_code
def yX6_read : MethodName := ⟨RX6, "read", "(LLabelTree$Letters;LLabelTree$Pattern;)I"⟩
abbrev cX6_takes : ByteArray := prog_8_method_3_code
def yX6_takes : MethodName := ⟨RX6, "takes", "(ILLabelTree$Pattern;)Z"⟩
abbrev cX6_takesTag : ByteArray := prog_8_method_4_code
def yX6_takesTag : MethodName := ⟨RX6, "takesTag", "(ILLabelTree$Pattern;)Z"⟩
abbrev cX6_takesAxis : ByteArray := prog_8_method_5_code
def yX6_takesAxis : MethodName := ⟨RX6, "takesAxis", "(I)Z"⟩
abbrev cX6_axisFor : ByteArray := prog_8_method_6_code
def yX6_axisFor : MethodName := ⟨RX6, "axisFor", "(I)I"⟩
abbrev cX6_opens : ByteArray := prog_8_method_7_code
def yX6_opens : MethodName := ⟨RX6, "opens", "()Z"⟩
abbrev cX6_closes : ByteArray := prog_8_method_8_code
def yX6_closes : MethodName := ⟨RX6, "closes", "()Z"⟩
def RX7 : String := "LabelTree$Tree"
def TX7 : u_T := fun k => match k with
  | 0 => ("LabelTree$Tree", "tags", "[I", true)
  | 1 => ("LabelTree$Tree", "parents", "[I", true)
  | 2 => ("LabelTree$Tree", "spots", "[I", true)
  | 3 => ("LabelTree$Tree", "thereBits", "I", false)
  | 4 => ("LabelTree$Tree", "came", "I", false)
  | _ => ("LabelTree$Tree", "kind", "I", false)
def tyX7 : Nat → FieldType := fun k => match k with
  | 0 => .array .int
  | 1 => .array .int
  | 2 => .array .int
  | 3 => .int
  | 4 => .int
  | _ => .int
abbrev wsX70 : List Cond := u_ws RX7 TX7 6
theorem nmX7 : ∀ a, a < 6 → ∀ b, b < 6 → a ≠ b → (TX7 a).2.1 ≠ (TX7 b).2.1 := by decide +kernel
theorem tyX7_ok : ∀ k, k < 6 → parseFieldDescriptor (TX7 k).2.2.1 = some (tyX7 k) := by decide +kernel
abbrev cX7_init : ByteArray := prog_9_method_1_code
def yX7_init : MethodName := ⟨RX7, "<init>", "()V"⟩
abbrev cX7_clear : ByteArray := prog_9_method_2_code
def yX7_clear : MethodName := ⟨RX7, "clear", "()V"⟩
abbrev cX7_copyFrom : ByteArray := prog_9_method_3_code
def yX7_copyFrom : MethodName := ⟨RX7, "copyFrom", "(LLabelTree$Tree;)V"⟩
abbrev cX7_isNumber : ByteArray := prog_9_method_4_code
def yX7_isNumber : MethodName := ⟨RX7, "isNumber", "(I)Z"⟩
abbrev cX7_isThere : ByteArray := prog_9_method_5_code
def yX7_isThere : MethodName := ⟨RX7, "isThere", "(I)Z"⟩
abbrev cX7_isFull : ByteArray := prog_9_method_6_code
def yX7_isFull : MethodName := ⟨RX7, "isFull", "()Z"⟩
abbrev cX7_came : ByteArray := prog_9_method_7_code
def yX7_came : MethodName := ⟨RX7, "came", "()I"⟩
abbrev cX7_kind : ByteArray := prog_9_method_8_code
def yX7_kind : MethodName := ⟨RX7, "kind", "()I"⟩
abbrev cX7_setKind : ByteArray := prog_9_method_9_code
def yX7_setKind : MethodName := ⟨RX7, "setKind", "(I)V"⟩
abbrev cX7_bits : ByteArray := prog_9_method_10_code
def yX7_bits : MethodName := ⟨RX7, "bits", "()I"⟩
abbrev cX7_tagOf : ByteArray := prog_9_method_11_code
def yX7_tagOf : MethodName := ⟨RX7, "tagOf", "(I)I"⟩
abbrev cX7_setTag : ByteArray := prog_9_method_12_code
def yX7_setTag : MethodName := ⟨RX7, "setTag", "(II)V"⟩
abbrev cX7_parentOf : ByteArray := prog_9_method_13_code
def yX7_parentOf : MethodName := ⟨RX7, "parentOf", "(I)I"⟩
abbrev cX7_spotOf : ByteArray := prog_9_method_14_code
def yX7_spotOf : MethodName := ⟨RX7, "spotOf", "(I)I"⟩
abbrev cX7_add : ByteArray := prog_9_method_15_code
def yX7_add : MethodName := ⟨RX7, "add", "(III)I"⟩
abbrev cX7_remove : ByteArray := prog_9_method_16_code
def yX7_remove : MethodName := ⟨RX7, "remove", "(I)V"⟩
abbrev cX7_rewind : ByteArray := prog_9_method_17_code
def yX7_rewind : MethodName := ⟨RX7, "rewind", "(II)V"⟩
abbrev cX7_kidsOf : ByteArray := prog_9_method_18_code
def yX7_kidsOf : MethodName := ⟨RX7, "kidsOf", "(I)I"⟩
abbrev cX7_nextKid : ByteArray := prog_9_method_19_code
def yX7_nextKid : MethodName := ⟨RX7, "nextKid", "(II)I"⟩
abbrev cX7_childAt : ByteArray := prog_9_method_20_code
def yX7_childAt : MethodName := ⟨RX7, "childAt", "(II)I"⟩
abbrev cX7_spotFor : ByteArray := prog_9_method_21_code
def yX7_spotFor : MethodName := ⟨RX7, "spotFor", "(II)I"⟩
def RX8 : String := "LabelTree$TreeReader"
def TX8 : u_T := fun k => match k with
  | 0 => ("LabelTree$TreeReader", "numbers", "[I", true)
  | 1 => ("LabelTree$TreeReader", "place", "I", false)
  | _ => ("LabelTree$TreeReader", "kindTold", "Z", false)
def tyX8 : Nat → FieldType := fun k => match k with
  | 0 => .array .int
  | 1 => .int
  | _ => .boolean
abbrev wsX80 : List Cond := u_ws RX8 TX8 3
theorem nmX8 : ∀ a, a < 3 → ∀ b, b < 3 → a ≠ b → (TX8 a).2.1 ≠ (TX8 b).2.1 := by decide +kernel
theorem tyX8_ok : ∀ k, k < 3 → parseFieldDescriptor (TX8 k).2.2.1 = some (tyX8 k) := by decide +kernel
abbrev cX8_init : ByteArray := prog_10_method_1_code
def yX8_init : MethodName := ⟨RX8, "<init>", "()V"⟩
abbrev cX8_read : ByteArray := prog_10_method_2_code
def yX8_read : MethodName := ⟨RX8, "read", "(LLabelTree$Letters;LLabelTree$Tree;)I"⟩
abbrev cX8_numbersBehind : ByteArray := prog_10_method_3_code
def yX8_numbersBehind : MethodName := ⟨RX8, "numbersBehind", "(I)I"⟩
abbrev cX8_readNumbers : ByteArray := prog_10_method_4_code
def yX8_readNumbers : MethodName := ⟨RX8, "readNumbers", "(LLabelTree$Letters;I)Z"⟩
abbrev cX8_readNumber : ByteArray := prog_10_method_5_code
def yX8_readNumber : MethodName := ⟨RX8, "readNumber", "(LLabelTree$Letters;)I"⟩
abbrev cX8_figureAt : ByteArray := prog_10_method_6_code
def yX8_figureAt : MethodName := ⟨RX8, "figureAt", "(LLabelTree$Letters;I)I"⟩
abbrev cX8_apply : ByteArray := prog_10_method_7_code
def yX8_apply : MethodName := ⟨RX8, "apply", "(ILLabelTree$Tree;)Z"⟩
abbrev cX8_applyKind : ByteArray := prog_10_method_8_code
def yX8_applyKind : MethodName := ⟨RX8, "applyKind", "(LLabelTree$Tree;)Z"⟩
abbrev cX8_applyRoot : ByteArray := prog_10_method_9_code
def yX8_applyRoot : MethodName := ⟨RX8, "applyRoot", "(LLabelTree$Tree;)Z"⟩
abbrev cX8_applyNode : ByteArray := prog_10_method_10_code
def yX8_applyNode : MethodName := ⟨RX8, "applyNode", "(LLabelTree$Tree;)Z"⟩
def RX9 : String := "LabelTree"
def TX9 : u_T := fun k => match k with
  | 0 => ("LabelTree", "text", "LLabelTree$Letters;", true)
  | 1 => ("LabelTree", "treeReader", "LLabelTree$TreeReader;", true)
  | 2 => ("LabelTree", "patternReader", "LLabelTree$PatternReader;", true)
  | 3 => ("LabelTree", "tree", "LLabelTree$Tree;", true)
  | 4 => ("LabelTree", "treeDraft", "LLabelTree$Tree;", true)
  | 5 => ("LabelTree", "order", "LLabelTree$Order;", true)
  | 6 => ("LabelTree", "past", "LLabelTree$Past;", true)
  | 7 => ("LabelTree", "keptFirst", "LLabelTree$Tree;", true)
  | 8 => ("LabelTree", "keptSecond", "LLabelTree$Tree;", true)
  | 9 => ("LabelTree", "keptSize", "I", false)
  | 10 => ("LabelTree", "steps", "LLabelTree$Pattern;", true)
  | 11 => ("LabelTree", "stepsDraft", "LLabelTree$Pattern;", true)
  | 12 => ("LabelTree", "matcher", "LLabelTree$Matcher;", true)
  | _ => ("LabelTree", "matched", "Z", false)
def tyX9 : Nat → FieldType := fun k => match k with
  | 0 => .object "LabelTree$Letters"
  | 1 => .object "LabelTree$TreeReader"
  | 2 => .object "LabelTree$PatternReader"
  | 3 => .object "LabelTree$Tree"
  | 4 => .object "LabelTree$Tree"
  | 5 => .object "LabelTree$Order"
  | 6 => .object "LabelTree$Past"
  | 7 => .object "LabelTree$Tree"
  | 8 => .object "LabelTree$Tree"
  | 9 => .int
  | 10 => .object "LabelTree$Pattern"
  | 11 => .object "LabelTree$Pattern"
  | 12 => .object "LabelTree$Matcher"
  | _ => .boolean
abbrev wsX90 : List Cond := u_ws RX9 TX9 14
theorem nmX9 : ∀ a, a < 14 → ∀ b, b < 14 → a ≠ b → (TX9 a).2.1 ≠ (TX9 b).2.1 := by decide +kernel
theorem tyX9_ok : ∀ k, k < 14 → parseFieldDescriptor (TX9 k).2.2.1 = some (tyX9 k) := by decide +kernel
abbrev cX9_init : ByteArray := prog_1_method_1_code
def yX9_init : MethodName := ⟨RX9, "<init>", "()V"⟩
abbrev cX9_write : ByteArray := prog_1_method_2_code
def yX9_write : MethodName := ⟨RX9, "write", "(I)I"⟩
abbrev cX9_wipe : ByteArray := prog_1_method_3_code
def yX9_wipe : MethodName := ⟨RX9, "wipe", "()I"⟩
abbrev cX9_fault : ByteArray := prog_1_method_4_code
def yX9_fault : MethodName := ⟨RX9, "fault", "()I"⟩
abbrev cX9_lay : ByteArray := prog_1_method_5_code
def yX9_lay : MethodName := ⟨RX9, "lay", "()I"⟩
abbrev cX9_node : ByteArray := prog_1_method_6_code
def yX9_node : MethodName := ⟨RX9, "node", "(II)I"⟩
abbrev cX9_child : ByteArray := prog_1_method_7_code
def yX9_child : MethodName := ⟨RX9, "child", "(II)I"⟩
abbrev cX9_key : ByteArray := prog_1_method_8_code
def yX9_key : MethodName := ⟨RX9, "key", "(III)I"⟩
abbrev cX9_at : ByteArray := prog_1_method_9_code
def yX9_at : MethodName := ⟨RX9, "at", "(I)I"⟩
abbrev cX9_grow : ByteArray := prog_1_method_10_code
def yX9_grow : MethodName := ⟨RX9, "grow", "(III)I"⟩
abbrev cX9_cut : ByteArray := prog_1_method_11_code
def yX9_cut : MethodName := ⟨RX9, "cut", "(I)I"⟩
abbrev cX9_tag : ByteArray := prog_1_method_12_code
def yX9_tag : MethodName := ⟨RX9, "tag", "(II)I"⟩
abbrev cX9_undo : ByteArray := prog_1_method_13_code
def yX9_undo : MethodName := ⟨RX9, "undo", "()I"⟩
abbrev cX9_between : ByteArray := prog_1_method_14_code
def yX9_between : MethodName := ⟨RX9, "between", "(III)I"⟩
abbrev cX9_ahead : ByteArray := prog_1_method_15_code
def yX9_ahead : MethodName := ⟨RX9, "ahead", "(II)I"⟩
abbrev cX9_above : ByteArray := prog_1_method_16_code
def yX9_above : MethodName := ⟨RX9, "above", "(II)I"⟩
abbrev cX9_meet : ByteArray := prog_1_method_17_code
def yX9_meet : MethodName := ⟨RX9, "meet", "(II)I"⟩
abbrev cX9_pattern : ByteArray := prog_1_method_18_code
def yX9_pattern : MethodName := ⟨RX9, "pattern", "()I"⟩
abbrev cX9_step : ByteArray := prog_1_method_19_code
def yX9_step : MethodName := ⟨RX9, "step", "(II)I"⟩
abbrev cX9_matches : ByteArray := prog_1_method_20_code
def yX9_matches : MethodName := ⟨RX9, "matches", "()J"⟩
abbrev cX9_puts : ByteArray := prog_1_method_21_code
def yX9_puts : MethodName := ⟨RX9, "puts", "(II)J"⟩
abbrev cX9_useful : ByteArray := prog_1_method_22_code
def yX9_useful : MethodName := ⟨RX9, "useful", "(I)I"⟩
abbrev cX9_end : ByteArray := prog_1_method_23_code
def yX9_end : MethodName := ⟨RX9, "end", "(I)I"⟩
abbrev cX9_keep : ByteArray := prog_1_method_24_code
def yX9_keep : MethodName := ⟨RX9, "keep", "()I"⟩
abbrev cX9_back : ByteArray := prog_1_method_25_code
def yX9_back : MethodName := ⟨RX9, "back", "()I"⟩
abbrev cX9_count : ByteArray := prog_1_method_26_code
def yX9_count : MethodName := ⟨RX9, "count", "(I)I"⟩
abbrev cX9_settle : ByteArray := prog_1_method_27_code
def yX9_settle : MethodName := ⟨RX9, "settle", "()V"⟩
abbrev cX9_matchAll : ByteArray := prog_1_method_28_code
def yX9_matchAll : MethodName := ⟨RX9, "matchAll", "()V"⟩
abbrev cX9_keptTree : ByteArray := prog_1_method_29_code
def yX9_keptTree : MethodName := ⟨RX9, "keptTree", "(I)LLabelTree$Tree;"⟩
abbrev cX9_isPlace : ByteArray := prog_1_method_30_code
def yX9_isPlace : MethodName := ⟨RX9, "isPlace", "(II)Z"⟩
abbrev cX9_isTag : ByteArray := prog_1_method_31_code
def yX9_isTag : MethodName := ⟨RX9, "isTag", "(I)Z"⟩
abbrev cX9_isKeyPart : ByteArray := prog_1_method_32_code
def yX9_isKeyPart : MethodName := ⟨RX9, "isKeyPart", "(I)Z"⟩
abbrev cX9_keyPart : ByteArray := prog_1_method_33_code
def yX9_keyPart : MethodName := ⟨RX9, "keyPart", "(II)I"⟩
abbrev cX9_climb : ByteArray := prog_1_method_34_code
def yX9_climb : MethodName := ⟨RX9, "climb", "(II)I"⟩
abbrev cX9_mostFigures : ByteArray := prog_1_method_35_code
def yX9_mostFigures : MethodName := ⟨RX9, "mostFigures", "()I"⟩
def RX10 : String := "LabelTreeModel"
def TX10 : u_T := fun k => match k with
  | 0 => ("LabelTreeModel", "there", "I", false)
  | 1 => ("LabelTreeModel", "came", "I", false)
  | 2 => ("LabelTreeModel", "kind", "I", false)
  | 3 => ("LabelTreeModel", "tagOf", "[I", true)
  | 4 => ("LabelTreeModel", "parentOf", "[I", true)
  | 5 => ("LabelTreeModel", "keyOf", "[I", true)
  | 6 => ("LabelTreeModel", "ahead", "[I", true)
  | 7 => ("LabelTreeModel", "undoMany", "I", false)
  | 8 => ("LabelTreeModel", "saved", "[I", true)
  | 9 => ("LabelTreeModel", "savedMany", "I", false)
  | 10 => ("LabelTreeModel", "text", "[I", true)
  | 11 => ("LabelTreeModel", "size", "I", false)
  | 12 => ("LabelTreeModel", "readAt", "I", false)
  | 13 => ("LabelTreeModel", "readNumber", "I", false)
  | 14 => ("LabelTreeModel", "before", "[I", true)
  | 15 => ("LabelTreeModel", "steps", "I", false)
  | 16 => ("LabelTreeModel", "lastStep", "I", false)
  | 17 => ("LabelTreeModel", "stepTag", "[I", true)
  | 18 => ("LabelTreeModel", "hangsOn", "[I", true)
  | 19 => ("LabelTreeModel", "axisOf", "[I", true)
  | 20 => ("LabelTreeModel", "readSteps", "I", false)
  | 21 => ("LabelTreeModel", "readLast", "I", false)
  | 22 => ("LabelTreeModel", "readTag", "[I", true)
  | 23 => ("LabelTreeModel", "readHangs", "[I", true)
  | 24 => ("LabelTreeModel", "readAxis", "[I", true)
  | 25 => ("LabelTreeModel", "onLevel", "[I", true)
  | _ => ("LabelTreeModel", "ways", "[J", true)
def tyX10 : Nat → FieldType := fun k => match k with
  | 0 => .int
  | 1 => .int
  | 2 => .int
  | 3 => .array .int
  | 4 => .array .int
  | 5 => .array .int
  | 6 => .array .int
  | 7 => .int
  | 8 => .array .int
  | 9 => .int
  | 10 => .array .int
  | 11 => .int
  | 12 => .int
  | 13 => .int
  | 14 => .array .int
  | 15 => .int
  | 16 => .int
  | 17 => .array .int
  | 18 => .array .int
  | 19 => .array .int
  | 20 => .int
  | 21 => .int
  | 22 => .array .int
  | 23 => .array .int
  | 24 => .array .int
  | 25 => .array .int
  | _ => .array .long
abbrev wsX100 : List Cond := u_ws RX10 TX10 27
theorem nmX10 : ∀ a, a < 27 → ∀ b, b < 27 → a ≠ b → (TX10 a).2.1 ≠ (TX10 b).2.1 := by decide +kernel
theorem tyX10_ok : ∀ k, k < 27 → parseFieldDescriptor (TX10 k).2.2.1 = some (tyX10 k) := by decide +kernel
abbrev cX10_in : ByteArray := prog_12_method_1_code
def yX10_in : MethodName := ⟨RX10, "in", "(III)Z"⟩
abbrev cX10_has : ByteArray := prog_12_method_2_code
def yX10_has : MethodName := ⟨RX10, "has", "(II)Z"⟩
abbrev cX10_init : ByteArray := prog_12_method_3_code
def yX10_init : MethodName := ⟨RX10, "<init>", "()V"⟩
abbrev cX10_isNode : ByteArray := prog_12_method_4_code
def yX10_isNode : MethodName := ⟨RX10, "isNode", "(I)Z"⟩
abbrev cX10_isTag : ByteArray := prog_12_method_5_code
def yX10_isTag : MethodName := ⟨RX10, "isTag", "(I)Z"⟩
abbrev cX10_root : ByteArray := prog_12_method_6_code
def yX10_root : MethodName := ⟨RX10, "root", "(I)V"⟩
abbrev cX10_childMany : ByteArray := prog_12_method_7_code
def yX10_childMany : MethodName := ⟨RX10, "childMany", "(I)I"⟩
abbrev cX10_childBehind : ByteArray := prog_12_method_8_code
def yX10_childBehind : MethodName := ⟨RX10, "childBehind", "(II)I"⟩
abbrev cX10_childAt : ByteArray := prog_12_method_9_code
def yX10_childAt : MethodName := ⟨RX10, "childAt", "(II)I"⟩
abbrev cX10_keyBetween : ByteArray := prog_12_method_10_code
def yX10_keyBetween : MethodName := ⟨RX10, "keyBetween", "(II)I"⟩
abbrev cX10_keyFor : ByteArray := prog_12_method_11_code
def yX10_keyFor : MethodName := ⟨RX10, "keyFor", "(II)I"⟩
abbrev cX10_figuresOf : ByteArray := prog_12_method_12_code
def yX10_figuresOf : MethodName := ⟨RX10, "figuresOf", "(I)I"⟩
abbrev cX10_numberOf : ByteArray := prog_12_method_13_code
def yX10_numberOf : MethodName := ⟨RX10, "numberOf", "(I)I"⟩
abbrev cX10_comes : ByteArray := prog_12_method_14_code
def yX10_comes : MethodName := ⟨RX10, "comes", "(III)I"⟩
abbrev cX10_isOver : ByteArray := prog_12_method_15_code
def yX10_isOver : MethodName := ⟨RX10, "isOver", "(II)Z"⟩
abbrev cX10_belowSet : ByteArray := prog_12_method_16_code
def yX10_belowSet : MethodName := ⟨RX10, "belowSet", "(I)I"⟩
abbrev cX10_bits : ByteArray := prog_12_method_17_code
def yX10_bits : MethodName := ⟨RX10, "bits", "(I)I"⟩
abbrev cX10_deepOf : ByteArray := prog_12_method_18_code
def yX10_deepOf : MethodName := ⟨RX10, "deepOf", "(I)I"⟩
abbrev cX10_behind : ByteArray := prog_12_method_19_code
def yX10_behind : MethodName := ⟨RX10, "behind", "(I)I"⟩
abbrev cX10_placeOf : ByteArray := prog_12_method_20_code
def yX10_placeOf : MethodName := ⟨RX10, "placeOf", "(I)I"⟩
abbrev cX10_node : ByteArray := prog_12_method_21_code
def yX10_node : MethodName := ⟨RX10, "node", "(II)I"⟩
abbrev cX10_child : ByteArray := prog_12_method_22_code
def yX10_child : MethodName := ⟨RX10, "child", "(II)I"⟩
abbrev cX10_key : ByteArray := prog_12_method_23_code
def yX10_key : MethodName := ⟨RX10, "key", "(III)I"⟩
abbrev cX10_at : ByteArray := prog_12_method_24_code
def yX10_at : MethodName := ⟨RX10, "at", "(I)I"⟩
abbrev cX10_lays : ByteArray := prog_12_method_25_code
def yX10_lays : MethodName := ⟨RX10, "lays", "([II)V"⟩
abbrev cX10_takes : ByteArray := prog_12_method_26_code
def yX10_takes : MethodName := ⟨RX10, "takes", "([II)V"⟩
abbrev cX10_notes : ByteArray := prog_12_method_27_code
def yX10_notes : MethodName := ⟨RX10, "notes", "()V"⟩
abbrev cX10_grow : ByteArray := prog_12_method_28_code
def yX10_grow : MethodName := ⟨RX10, "grow", "(III)I"⟩
abbrev cX10_cut : ByteArray := prog_12_method_29_code
def yX10_cut : MethodName := ⟨RX10, "cut", "(I)I"⟩
abbrev cX10_tag : ByteArray := prog_12_method_30_code
def yX10_tag : MethodName := ⟨RX10, "tag", "(II)I"⟩
abbrev cX10_undo : ByteArray := prog_12_method_31_code
def yX10_undo : MethodName := ⟨RX10, "undo", "()I"⟩
abbrev cX10_keep : ByteArray := prog_12_method_32_code
def yX10_keep : MethodName := ⟨RX10, "keep", "()I"⟩
abbrev cX10_back : ByteArray := prog_12_method_33_code
def yX10_back : MethodName := ⟨RX10, "back", "()I"⟩
abbrev cX10_between : ByteArray := prog_12_method_34_code
def yX10_between : MethodName := ⟨RX10, "between", "(III)I"⟩
abbrev cX10_ahead : ByteArray := prog_12_method_35_code
def yX10_ahead : MethodName := ⟨RX10, "ahead", "(II)I"⟩
abbrev cX10_above : ByteArray := prog_12_method_36_code
def yX10_above : MethodName := ⟨RX10, "above", "(II)I"⟩
abbrev cX10_meet : ByteArray := prog_12_method_37_code
def yX10_meet : MethodName := ⟨RX10, "meet", "(II)I"⟩
abbrev cX10_write : ByteArray := prog_12_method_38_code
def yX10_write : MethodName := ⟨RX10, "write", "(I)I"⟩
abbrev cX10_wipe : ByteArray := prog_12_method_39_code
def yX10_wipe : MethodName := ⟨RX10, "wipe", "()I"⟩
abbrev cX10_here : ByteArray := prog_12_method_40_code
def yX10_here : MethodName := ⟨RX10, "here", "()I"⟩
abbrev cX10_isFigure : ByteArray := prog_12_method_41_code
def yX10_isFigure : MethodName := ⟨RX10, "isFigure", "()Z"⟩
abbrev cX10_number : ByteArray := prog_12_method_42_code
def yX10_number : MethodName := ⟨RX10, "number", "(III)Z"⟩
abbrev cX10_readsKind : ByteArray := prog_12_method_43_code
def yX10_readsKind : MethodName := ⟨RX10, "readsKind", "()Z"⟩
abbrev cX10_readsRoot : ByteArray := prog_12_method_44_code
def yX10_readsRoot : MethodName := ⟨RX10, "readsRoot", "()Z"⟩
abbrev cX10_readsNode : ByteArray := prog_12_method_45_code
def yX10_readsNode : MethodName := ⟨RX10, "readsNode", "()Z"⟩
abbrev cX10_readsItem : ByteArray := prog_12_method_46_code
def yX10_readsItem : MethodName := ⟨RX10, "readsItem", "(Z)Z"⟩
abbrev cX10_reads : ByteArray := prog_12_method_47_code
def yX10_reads : MethodName := ⟨RX10, "reads", "()I"⟩
abbrev cX10_fault : ByteArray := prog_12_method_48_code
def yX10_fault : MethodName := ⟨RX10, "fault", "()I"⟩
abbrev cX10_many : ByteArray := prog_12_method_49_code
def yX10_many : MethodName := ⟨RX10, "many", "(I)I"⟩
abbrev cX10_lay : ByteArray := prog_12_method_50_code
def yX10_lay : MethodName := ⟨RX10, "lay", "()I"⟩
abbrev cX10_axisBy : ByteArray := prog_12_method_51_code
def yX10_axisBy : MethodName := ⟨RX10, "axisBy", "(I)I"⟩
abbrev cX10_readsStep : ByteArray := prog_12_method_52_code
def yX10_readsStep : MethodName := ⟨RX10, "readsStep", "(II)Z"⟩
abbrev cX10_readsPattern : ByteArray := prog_12_method_53_code
def yX10_readsPattern : MethodName := ⟨RX10, "readsPattern", "()I"⟩
abbrev cX10_pattern : ByteArray := prog_12_method_54_code
def yX10_pattern : MethodName := ⟨RX10, "pattern", "()I"⟩
abbrev cX10_isStep : ByteArray := prog_12_method_55_code
def yX10_isStep : MethodName := ⟨RX10, "isStep", "(I)Z"⟩
abbrev cX10_step : ByteArray := prog_12_method_56_code
def yX10_step : MethodName := ⟨RX10, "step", "(II)I"⟩
abbrev cX10_stands : ByteArray := prog_12_method_57_code
def yX10_stands : MethodName := ⟨RX10, "stands", "(III)Z"⟩
abbrev cX10_waysBy : ByteArray := prog_12_method_58_code
def yX10_waysBy : MethodName := ⟨RX10, "waysBy", "(II)J"⟩
abbrev cX10_sumOf : ByteArray := prog_12_method_59_code
def yX10_sumOf : MethodName := ⟨RX10, "sumOf", "(II)J"⟩
abbrev cX10_matches : ByteArray := prog_12_method_60_code
def yX10_matches : MethodName := ⟨RX10, "matches", "()J"⟩
abbrev cX10_puts : ByteArray := prog_12_method_61_code
def yX10_puts : MethodName := ⟨RX10, "puts", "(II)J"⟩
abbrev cX10_usefulSet : ByteArray := prog_12_method_62_code
def yX10_usefulSet : MethodName := ⟨RX10, "usefulSet", "(I)I"⟩
abbrev cX10_useful : ByteArray := prog_12_method_63_code
def yX10_useful : MethodName := ⟨RX10, "useful", "(I)I"⟩
abbrev cX10_end : ByteArray := prog_12_method_64_code
def yX10_end : MethodName := ⟨RX10, "end", "(I)I"⟩
abbrev cX10_mostFigures : ByteArray := prog_12_method_65_code
def yX10_mostFigures : MethodName := ⟨RX10, "mostFigures", "()I"⟩
abbrev cX10_mostKeys : ByteArray := prog_12_method_66_code
def yX10_mostKeys : MethodName := ⟨RX10, "mostKeys", "()I"⟩
abbrev cX10_count : ByteArray := prog_12_method_67_code
def yX10_count : MethodName := ⟨RX10, "count", "(I)I"⟩
def RJx145de : String := "java/io/Serializable"
def TJx145de : u_T := fun k => match k with
  | _ => ("", "", "", false)
def tyJx145de : Nat → FieldType := fun k => match k with
  | _ => .int
abbrev wsJx145de0 : List Cond := u_ws RJx145de TJx145de 0
theorem nmJx145de : ∀ a, a < 0 → ∀ b, b < 0 → a ≠ b → (TJx145de a).2.1 ≠ (TJx145de b).2.1 := by decide +kernel
theorem tyJx145de_ok : ∀ k, k < 0 → parseFieldDescriptor (TJx145de k).2.2.1 = some (tyJx145de k) := by decide +kernel
def RJx9f9b0 : String := "java/lang/CharSequence"
def TJx9f9b0 : u_T := fun k => match k with
  | _ => ("", "", "", false)
def tyJx9f9b0 : Nat → FieldType := fun k => match k with
  | _ => .int
abbrev wsJx9f9b00 : List Cond := u_ws RJx9f9b0 TJx9f9b0 0
theorem nmJx9f9b0 : ∀ a, a < 0 → ∀ b, b < 0 → a ≠ b → (TJx9f9b0 a).2.1 ≠ (TJx9f9b0 b).2.1 := by decide +kernel
theorem tyJx9f9b0_ok : ∀ k, k < 0 → parseFieldDescriptor (TJx9f9b0 k).2.2.1 = some (tyJx9f9b0 k) := by decide +kernel
def RJxb160c : String := "java/lang/Comparable"
def TJxb160c : u_T := fun k => match k with
  | _ => ("", "", "", false)
def tyJxb160c : Nat → FieldType := fun k => match k with
  | _ => .int
abbrev wsJxb160c0 : List Cond := u_ws RJxb160c TJxb160c 0
theorem nmJxb160c : ∀ a, a < 0 → ∀ b, b < 0 → a ≠ b → (TJxb160c a).2.1 ≠ (TJxb160c b).2.1 := by decide +kernel
theorem tyJxb160c_ok : ∀ k, k < 0 → parseFieldDescriptor (TJxb160c k).2.2.1 = some (tyJxb160c k) := by decide +kernel
def RJ6 : String := "java/lang/Integer"
def TJ6 : u_T := fun k => match k with
  | _ => ("", "", "", false)
def tyJ6 : Nat → FieldType := fun k => match k with
  | _ => .int
abbrev wsJ60 : List Cond := u_ws RJ6 TJ6 0
theorem nmJ6 : ∀ a, a < 0 → ∀ b, b < 0 → a ≠ b → (TJ6 a).2.1 ≠ (TJ6 b).2.1 := by decide +kernel
theorem tyJ6_ok : ∀ k, k < 0 → parseFieldDescriptor (TJ6 k).2.2.1 = some (tyJ6 k) := by decide +kernel
abbrev cJ6_bitCount_0f7a4 : ByteArray := prog_13_method_49_code
def yJ6_bitCount_0f7a4 : MethodName := ⟨RJ6, "bitCount", "(I)I"⟩
def RJ9 : String := "java/lang/Math"
def TJ9 : u_T := fun k => match k with
  | _ => ("", "", "", false)
def tyJ9 : Nat → FieldType := fun k => match k with
  | _ => .int
abbrev wsJ90 : List Cond := u_ws RJ9 TJ9 0
theorem nmJ9 : ∀ a, a < 0 → ∀ b, b < 0 → a ≠ b → (TJ9 a).2.1 ≠ (TJ9 b).2.1 := by decide +kernel
theorem tyJ9_ok : ∀ k, k < 0 → parseFieldDescriptor (TJ9 k).2.2.1 = some (tyJ9 k) := by decide +kernel
abbrev cJ9_max_7cf53 : ByteArray := prog_14_method_65_code
def yJ9_max_7cf53 : MethodName := ⟨RJ9, "max", "(II)I"⟩
abbrev cJ9_min_7cf53 : ByteArray := prog_14_method_69_code
def yJ9_min_7cf53 : MethodName := ⟨RJ9, "min", "(II)I"⟩
def RJ0 : String := "java/lang/String"
def TJ0 : u_T := fun k => match k with
  | _ => ("", "", "", false)
def tyJ0 : Nat → FieldType := fun k => match k with
  | _ => .int
abbrev wsJ00 : List Cond := u_ws RJ0 TJ0 0
theorem nmJ0 : ∀ a, a < 0 → ∀ b, b < 0 → a ≠ b → (TJ0 a).2.1 ≠ (TJ0 b).2.1 := by decide +kernel
theorem tyJ0_ok : ∀ k, k < 0 → parseFieldDescriptor (TJ0 k).2.2.1 = some (tyJ0 k) := by decide +kernel
abbrev cJ0_length_8abf5 : ByteArray := prog_15_method_54_code
def yJ0_length_8abf5 : MethodName := ⟨RJ0, "length", "()I"⟩
abbrev cJ0_charAt_5068e : ByteArray := prog_15_method_56_code
def yJ0_charAt_5068e : MethodName := ⟨RJ0, "charAt", "(I)C"⟩
abbrev cJ0_coder_7d493 : ByteArray := prog_15_method_152_code
def yJ0_coder_7d493 : MethodName := ⟨RJ0, "coder", "()B"⟩
abbrev cJ0_isLatin1_aae02 : ByteArray := prog_15_method_154_code
def yJ0_isLatin1_aae02 : MethodName := ⟨RJ0, "isLatin1", "()Z"⟩
abbrev cJ0_checkIndex_df160 : ByteArray := prog_15_method_155_code
def yJ0_checkIndex_df160 : MethodName := ⟨RJ0, "checkIndex", "(II)V"⟩
def RJ1 : String := "java/lang/StringLatin1"
def TJ1 : u_T := fun k => match k with
  | _ => ("", "", "", false)
def tyJ1 : Nat → FieldType := fun k => match k with
  | _ => .int
abbrev wsJ10 : List Cond := u_ws RJ1 TJ1 0
theorem nmJ1 : ∀ a, a < 0 → ∀ b, b < 0 → a ≠ b → (TJ1 a).2.1 ≠ (TJ1 b).2.1 := by decide +kernel
theorem tyJ1_ok : ∀ k, k < 0 → parseFieldDescriptor (TJ1 k).2.2.1 = some (tyJ1 k) := by decide +kernel
abbrev cJ1_charAt_3b067 : ByteArray := prog_16_method_2_code
def yJ1_charAt_3b067 : MethodName := ⟨RJ1, "charAt", "([BI)C"⟩
def RJ2 : String := "java/lang/StringUTF16"
def TJ2 : u_T := fun k => match k with
  | _ => ("", "", "", false)
def tyJ2 : Nat → FieldType := fun k => match k with
  | _ => .int
abbrev wsJ20 : List Cond := u_ws RJ2 TJ2 0
theorem nmJ2 : ∀ a, a < 0 → ∀ b, b < 0 → a ≠ b → (TJ2 a).2.1 ≠ (TJ2 b).2.1 := by decide +kernel
theorem tyJ2_ok : ∀ k, k < 0 → parseFieldDescriptor (TJ2 k).2.2.1 = some (tyJ2 k) := by decide +kernel
abbrev cJ2_getChar_3b067 : ByteArray := prog_17_method_5_code
def yJ2_getChar_3b067 : MethodName := ⟨RJ2, "getChar", "([BI)C"⟩
abbrev cJ2_length_9d52b : ByteArray := prog_17_method_6_code
def yJ2_length_9d52b : MethodName := ⟨RJ2, "length", "([B)I"⟩
abbrev cJ2_charAt_3b067 : ByteArray := prog_17_method_83_code
def yJ2_charAt_3b067 : MethodName := ⟨RJ2, "charAt", "([BI)C"⟩
abbrev cJ2_checkIndex_2214a : ByteArray := prog_17_method_91_code
def yJ2_checkIndex_2214a : MethodName := ⟨RJ2, "checkIndex", "(I[B)V"⟩
def RJ10 : String := "java/lang/System"
def TJ10 : u_T := fun k => match k with
  | _ => ("", "", "", false)
def tyJ10 : Nat → FieldType := fun k => match k with
  | _ => .int
abbrev wsJ100 : List Cond := u_ws RJ10 TJ10 0
theorem nmJ10 : ∀ a, a < 0 → ∀ b, b < 0 → a ≠ b → (TJ10 a).2.1 ≠ (TJ10 b).2.1 := by decide +kernel
theorem tyJ10_ok : ∀ k, k < 0 → parseFieldDescriptor (TJ10 k).2.2.1 = some (tyJ10 k) := by decide +kernel
def RJxfd54e : String := "java/lang/constant/Constable"
def TJxfd54e : u_T := fun k => match k with
  | _ => ("", "", "", false)
def tyJxfd54e : Nat → FieldType := fun k => match k with
  | _ => .int
abbrev wsJxfd54e0 : List Cond := u_ws RJxfd54e TJxfd54e 0
theorem nmJxfd54e : ∀ a, a < 0 → ∀ b, b < 0 → a ≠ b → (TJxfd54e a).2.1 ≠ (TJxfd54e b).2.1 := by decide +kernel
theorem tyJxfd54e_ok : ∀ k, k < 0 → parseFieldDescriptor (TJxfd54e k).2.2.1 = some (tyJxfd54e k) := by decide +kernel
def RJx3cf43 : String := "java/lang/constant/ConstantDesc"
def TJx3cf43 : u_T := fun k => match k with
  | _ => ("", "", "", false)
def tyJx3cf43 : Nat → FieldType := fun k => match k with
  | _ => .int
abbrev wsJx3cf430 : List Cond := u_ws RJx3cf43 TJx3cf43 0
theorem nmJx3cf43 : ∀ a, a < 0 → ∀ b, b < 0 → a ≠ b → (TJx3cf43 a).2.1 ≠ (TJx3cf43 b).2.1 := by decide +kernel
theorem tyJx3cf43_ok : ∀ k, k < 0 → parseFieldDescriptor (TJx3cf43 k).2.2.1 = some (tyJx3cf43 k) := by decide +kernel
def RJ7 : String := "java/util/Arrays"
def TJ7 : u_T := fun k => match k with
  | _ => ("", "", "", false)
def tyJ7 : Nat → FieldType := fun k => match k with
  | _ => .int
abbrev wsJ70 : List Cond := u_ws RJ7 TJ7 0
theorem nmJ7 : ∀ a, a < 0 → ∀ b, b < 0 → a ≠ b → (TJ7 a).2.1 ≠ (TJ7 b).2.1 := by decide +kernel
theorem tyJ7_ok : ∀ k, k < 0 → parseFieldDescriptor (TJ7 k).2.2.1 = some (tyJ7 k) := by decide +kernel
abbrev cJ7_fill_d0a16 : ByteArray := prog_19_method_101_code
def yJ7_fill_d0a16 : MethodName := ⟨RJ7, "fill", "([JJ)V"⟩
def RJ3 : String := "jdk/internal/util/Preconditions"
def TJ3 : u_T := fun k => match k with
  | _ => ("", "", "", false)
def tyJ3 : Nat → FieldType := fun k => match k with
  | _ => .int
abbrev wsJ30 : List Cond := u_ws RJ3 TJ3 0
theorem nmJ3 : ∀ a, a < 0 → ∀ b, b < 0 → a ≠ b → (TJ3 a).2.1 ≠ (TJ3 b).2.1 := by decide +kernel
theorem tyJ3_ok : ∀ k, k < 0 → parseFieldDescriptor (TJ3 k).2.2.1 = some (tyJ3 k) := by decide +kernel
abbrev cJ3_checkIndex_8e157 : ByteArray := prog_20_method_11_code
def yJ3_checkIndex_8e157 : MethodName := ⟨RJ3, "checkIndex", "(IILjava/util/function/BiFunction;)I"⟩
def RL : String := "LabelTreeLaw"
abbrev cL_law : ByteArray := code
def yL_law : MethodName := ⟨RL, "law", "([I)Z"⟩
abbrev vwCl : List vw_C := [(RX1, TX1, 2), (RX2, TX2, 7), (RX3, TX3, 8), (RX4, TX4, 5), (RX5, TX5, 5), (RX6, TX6, 5), (RX7, TX7, 6), (RX8, TX8, 3), (RX9, TX9, 14), (RX10, TX10, 27)]
end
section
/-! THE PURE MACHINE: cells by place, values with places for references, no making of cells; what it does, the machine does (part 04). -/
abbrev pE : Type := (Nat × (Nat → Int32)) ⊕ ((Nat × (Nat → Int64)) ⊕ ((Nat × (Nat → Option Nat)) ⊕ (Nat × List Value)))
abbrev pH : Type := Nat → pE
abbrev eI (n : Nat) (f : Nat → Int32) : pE := .inl (n, f)
abbrev eJ (n : Nat) (f : Nat → Int64) : pE := .inr (.inl (n, f))
abbrev eR (n : Nat) (f : Nat → Option Nat) : pE := .inr (.inr (.inl (n, f)))
abbrev eO (c : Nat) (fs : List Value) : pE := .inr (.inr (.inr (c, fs)))
def pu (h : pH) (k : Nat) (c : pE) : pH := fun j => if j = k then c else h j
abbrev pLv : Type := List (Nat × Value)
/-- heap, pc, locals, stack -/
abbrev pS : Type := pH × Nat × pLv × List Value
/-- an instruction's row: pc, instruction, length, what it stands for (a, b, c), the places of its words -/
abbrev pI : Type := Nat × Instr × Nat × (Nat × Nat × Nat) × List Nat
/-- a method: name, bytes, locals, answer, the place of its code word, its rows -/
abbrev pM : Type := MethodName × ByteArray × Nat × Option FieldType × Nat × List pI
abbrev pCi : Type := vw_C × (Nat → FieldType)
def p_isI : Value → Bool
  | .int _ => true
  | _ => false
def p_isL : Value → Bool
  | .long _ => true
  | _ => false
def p_isR : Value → Bool
  | .ref _ => true
  | _ => false
def p_s1 (i : Nat) (v : Value) (lv : pLv) : pLv := (i, v) :: lv.filter (fun q => !(q.1 == i) && !(q.1 + 1 == i && q.2.category == 2))
def p_s2 (i : Nat) (v : Value) (lv : pLv) : pLv := (i, v) :: lv.filter (fun q => !(q.1 == i) && (!(q.1 == i + 1) && !(q.1 + 1 == i && q.2.category == 2)))
def p_ld (t : Value → Bool) (i len : Nat) (s : pS) : Option pS :=
  match List.lookup i s.2.2.1 with
  | some v => if t v = true then some (s.1, s.2.1 + len, s.2.2.1, v :: s.2.2.2) else none
  | none => none
def p_st1 (t : Value → Bool) (mx i len : Nat) (s : pS) : Option pS :=
  match s.2.2.2 with
  | v :: r => if t v = true ∧ i < mx then some (s.1, s.2.1 + len, p_s1 i v s.2.2.1, r) else none
  | _ => none
def p_st2 (mx i len : Nat) (s : pS) : Option pS :=
  match s.2.2.2 with
  | v :: r => if p_isL v = true ∧ i + 1 < mx then some (s.1, s.2.1 + len, p_s2 i v s.2.2.1, r) else none
  | _ => none
def p_iinc (mx i : Nat) (n : Int) (len : Nat) (s : pS) : Option pS :=
  match List.lookup i s.2.2.1 with
  | some (.int x) => if i < mx then some (s.1, s.2.1 + len, p_s1 i (.int (x + Int32.ofInt n)) s.2.2.1, s.2.2.2) else none
  | _ => none
def p_push (v : Value) (len : Nat) (s : pS) : Option pS := some (s.1, s.2.1 + len, s.2.2.1, v :: s.2.2.2)
def p_bI (f : Int32 → Int32 → Int32) (len : Nat) (s : pS) : Option pS :=
  match s.2.2.2 with
  | .int y :: .int x :: r => some (s.1, s.2.1 + len, s.2.2.1, .int (f x y) :: r)
  | _ => none
def p_bD (f : Int32 → Int32 → Int32) (len : Nat) (s : pS) : Option pS :=
  match s.2.2.2 with
  | .int y :: .int x :: r => if y = 0 then none else some (s.1, s.2.1 + len, s.2.2.1, .int (f x y) :: r)
  | _ => none
def p_bL (f : Int64 → Int64 → Int64) (len : Nat) (s : pS) : Option pS :=
  match s.2.2.2 with
  | .long y :: .long x :: r => some (s.1, s.2.1 + len, s.2.2.1, .long (f x y) :: r)
  | _ => none
def p_cmpL (len : Nat) (s : pS) : Option pS :=
  match s.2.2.2 with
  | .long y :: .long x :: r => some (s.1, s.2.1 + len, s.2.2.1, .int (lg_cmp x y) :: r)
  | _ => none
def p_dup (len : Nat) (s : pS) : Option pS :=
  match s.2.2.2 with
  | v :: r => if v.category = 1 then some (s.1, s.2.1 + len, s.2.2.1, v :: v :: r) else none
  | _ => none
def p_dup2 (len : Nat) (s : pS) : Option pS :=
  match s.2.2.2 with
  | v :: w :: r => if v.category = 1 ∧ w.category = 1 then some (s.1, s.2.1 + len, s.2.2.1, v :: w :: v :: w :: r) else none
  | _ => none
def p_pop (len : Nat) (s : pS) : Option pS :=
  match s.2.2.2 with
  | v :: r => if v.category = 1 then some (s.1, s.2.1 + len, s.2.2.1, r) else none
  | _ => none
def p_cd (c : ClassFile.Cond) (x y : Int32) : Prop :=
  match c with
  | .eq => x = y
  | .ne => ¬ x = y
  | .lt => x < y
  | .ge => y ≤ x
  | .gt => y < x
  | .le => x ≤ y
def p_cb (c : ClassFile.Cond) (x y : Int32) : Bool :=
  match c with
  | .eq => decide (x = y)
  | .ne => decide (¬ x = y)
  | .lt => decide (x < y)
  | .ge => decide (y ≤ x)
  | .gt => decide (y < x)
  | .le => decide (x ≤ y)
theorem p_cb_iff (c : ClassFile.Cond) (x y : Int32) : p_cb c x y = true ↔ p_cd c x y := by
  cases c <;> simp [p_cb, p_cd]
def p_if1 (c : ClassFile.Cond) (tgt len : Nat) (s : pS) : Option pS :=
  match s.2.2.2 with
  | .int x :: r => if p_cb c x 0 = true then some (s.1, tgt, s.2.2.1, r) else some (s.1, s.2.1 + len, s.2.2.1, r)
  | _ => none
def p_if2 (c : ClassFile.Cond) (tgt len : Nat) (s : pS) : Option pS :=
  match s.2.2.2 with
  | .int y :: .int x :: r => if p_cb c x y = true then some (s.1, tgt, s.2.2.1, r) else some (s.1, s.2.1 + len, s.2.2.1, r)
  | _ => none
def p_tsw (dflt lo hi : Int) (offs : Array Int) (s : pS) : Option pS :=
  match s.2.2.2 with
  | .int x :: r =>
    if x.toInt < lo ∨ hi < x.toInt then
      (if 0 ≤ (s.2.1 : Int) + dflt then some (s.1, ((s.2.1 : Int) + dflt).toNat, s.2.2.1, r) else none)
    else match offs[(x.toInt - lo).toNat]? with
      | some off => if 0 ≤ (s.2.1 : Int) + off then some (s.1, ((s.2.1 : Int) + off).toNat, s.2.2.1, r) else none
      | none => none
  | _ => none
def p_lsw (dflt : Int) (ps : Array (Int × Int)) (s : pS) : Option pS :=
  match s.2.2.2 with
  | .int x :: r =>
    if (ps.toList.zip (ps.toList.drop 1)).all (fun (a, next) => a.1 < next.1) = true ∧ 0 ≤ (s.2.1 : Int) + Op.lookupswitch.offset ps.toList dflt x.toInt then
      some (s.1, ((s.2.1 : Int) + Op.lookupswitch.offset ps.toList dflt x.toInt).toNat, s.2.2.1, r)
    else none
  | _ => none
def p_get (N ci k len : Nat) (s : pS) : Option pS :=
  match s.2.2.2 with
  | .ref a :: r => if a < N then (match s.1 a with
    | .inr (.inr (.inr (c, fs))) => if c = ci then (match fs[k]? with
      | some v => some (s.1, s.2.1 + len, s.2.2.1, v :: r)
      | none => none) else none
    | _ => none) else none
  | _ => none
def p_put (N ci k : Nat) (ty : FieldType) (len : Nat) (s : pS) : Option pS :=
  match s.2.2.2 with
  | v :: .ref a :: r => if a < N then (match s.1 a with
    | .inr (.inr (.inr (c, fs))) => if c = ci ∧ k < fs.length ∧ narrow ty v = v ∧ fits ty v = true then some (pu s.1 a (eO c (fs.set k v)), s.2.1 + len, s.2.2.1, r) else none
    | _ => none) else none
  | _ => none
def p_iald (N len : Nat) (s : pS) : Option pS :=
  match s.2.2.2 with
  | .int i :: .ref a :: r => if a < N then (match s.1 a with
    | .inl (n, f) => if i < 0 ∨ n ≤ i.toNatClampNeg then none else some (s.1, s.2.1 + len, s.2.2.1, .int (f i.toNatClampNeg) :: r)
    | _ => none) else none
  | _ => none
def p_lald (N len : Nat) (s : pS) : Option pS :=
  match s.2.2.2 with
  | .int i :: .ref a :: r => if a < N then (match s.1 a with
    | .inr (.inl (n, f)) => if i < 0 ∨ n ≤ i.toNatClampNeg then none else some (s.1, s.2.1 + len, s.2.2.1, .long (f i.toNatClampNeg) :: r)
    | _ => none) else none
  | _ => none
def p_aald (N len : Nat) (s : pS) : Option pS :=
  match s.2.2.2 with
  | .int i :: .ref a :: r => if a < N then (match s.1 a with
    | .inr (.inr (.inl (n, f))) => if i < 0 ∨ n ≤ i.toNatClampNeg then none else (match f i.toNatClampNeg with
      | some b => some (s.1, s.2.1 + len, s.2.2.1, .ref b :: r)
      | none => none)
    | _ => none) else none
  | _ => none
def p_iast (N len : Nat) (s : pS) : Option pS :=
  match s.2.2.2 with
  | .int x :: .int i :: .ref a :: r => if a < N then (match s.1 a with
    | .inl (n, f) => if i < 0 ∨ n ≤ i.toNatClampNeg then none else some (pu s.1 a (eI n (upd f i.toNatClampNeg x)), s.2.1 + len, s.2.2.1, r)
    | _ => none) else none
  | _ => none
def p_last (N len : Nat) (s : pS) : Option pS :=
  match s.2.2.2 with
  | .long x :: .int i :: .ref a :: r => if a < N then (match s.1 a with
    | .inr (.inl (n, f)) => if i < 0 ∨ n ≤ i.toNatClampNeg then none else some (pu s.1 a (eJ n (vp_updL f i.toNatClampNeg x)), s.2.1 + len, s.2.2.1, r)
    | _ => none) else none
  | _ => none
def p_len (e : pE) : Option Nat :=
  match e with
  | .inl (n, _) => some n
  | .inr (.inl (n, _)) => some n
  | .inr (.inr (.inl (n, _))) => some n
  | _ => none
def p_alen (N len : Nat) (s : pS) : Option pS :=
  match s.2.2.2 with
  | .ref a :: r => if a < N then (match p_len (s.1 a) with
    | some n => some (s.1, s.2.1 + len, s.2.2.1, .int (Int32.ofNat n) :: r)
    | none => none) else none
  | _ => none
/-- System.arraycopy of ints -/
def p_copy (N : Nat) (s : pS) : Option pS :=
  match s.2.2.2 with
  | .int n :: .int dp :: .ref b :: .int sp :: .ref a :: r => if a < N ∧ b < N then (match s.1 a, s.1 b with
    | .inl (n0, f), .inl (n1, g) => if (sp < 0 ∨ dp < 0 ∨ n < 0) ∨ n0 < sp.toNatClampNeg + n.toNatClampNeg ∨ n1 < dp.toNatClampNeg + n.toNatClampNeg ∨ 8 < (r.map fun v => v.category).sum then none else
        some (pu s.1 b (eI n1 (va_cpy f g sp.toNatClampNeg dp.toNatClampNeg n.toNatClampNeg)), s.2.1 + 3, s.2.2.1, r)
    | _, _ => none) else none
  | _ => none
def p_step (N : Nat) (Cs : List pCi) (mx : Nat) (i : Instr) (len : Nat) (a : Nat × Nat × Nat) (s : pS) : Option pS :=
  match i with
  | .aload_n k => p_ld p_isR k len s
  | .aload k => p_ld p_isR k len s
  | .iload_n k => p_ld p_isI k len s
  | .iload k => p_ld p_isI k len s
  | .lload_n k => p_ld p_isL k len s
  | .lload k => p_ld p_isL k len s
  | .istore_n k => p_st1 p_isI mx k len s
  | .istore k => p_st1 p_isI mx k len s
  | .astore_n k => p_st1 p_isR mx k len s
  | .lstore_n k => p_st2 mx k len s
  | .lstore k => p_st2 mx k len s
  | .iinc k n => p_iinc mx k n len s
  | .iconst n => p_push (.int (Int32.ofInt n)) len s
  | .bipush n => p_push (.int (Int8.ofInt n).toInt32) len s
  | .sipush n => p_push (.int (Int16.ofInt n).toInt32) len s
  | .lconst n => p_push (.long (Int64.ofNat (n : Nat))) len s
  | .ldc _ => p_push (.int (Int32.ofNat a.1)) len s
  | .ldc_w _ => p_push (.int (Int32.ofNat a.1)) len s
  | .ldc2_w _ => p_push (.long (if a.2.1 = 1 then -(Int64.ofNat a.1) else Int64.ofNat a.1)) len s
  | .iadd => p_bI (fun x y => x + y) len s
  | .isub => p_bI (fun x y => x - y) len s
  | .imul => p_bI (fun x y => x * y) len s
  | .iand => p_bI (fun x y => x &&& y) len s
  | .ior => p_bI (fun x y => x ||| y) len s
  | .ixor => p_bI (fun x y => x ^^^ y) len s
  | .idiv => p_bD (fun x y => x / y) len s
  | .irem => p_bD (fun x y => x - x / y * y) len s
  | .ishl => p_bI (fun x y => x <<< (y &&& 31)) len s
  | .ishr => p_bI (fun x y => x >>> (y &&& 31)) len s
  | .iushr => p_bI (fun x y => (x.toUInt32 >>> (y.toUInt32 &&& Int32.toUInt32 31)).toInt32) len s
  | .ladd => p_bL (fun x y => x + y) len s
  | .lmul => p_bL (fun x y => x * y) len s
  | .lcmp => p_cmpL len s
  | .dup => p_dup len s
  | .dup2 => p_dup2 len s
  | .pop => p_pop len s
  | .goto _ => some (s.1, a.1, s.2.2.1, s.2.2.2)
  | .ifCond c _ => p_if1 c a.1 len s
  | .if_icmp c _ => p_if2 c a.1 len s
  | .tableswitch d lo hi o => p_tsw d lo hi o s
  | .lookupswitch d ps => p_lsw d ps s
  | .getfield _ => p_get N a.1 a.2.1 len s
  | .putfield _ => (match Cs[a.1]? with
    | some q => p_put N a.1 a.2.1 (q.2 a.2.1) len s
    | none => none)
  | .iaload => p_iald N len s
  | .laload => p_lald N len s
  | .aaload => p_aald N len s
  | .iastore => p_iast N len s
  | .lastore => p_last N len s
  | .arraylength => p_alen N len s
  | _ => none
/-- 0: a step; 1: a return; 2: a call -/
def p_kd (i : Instr) : Nat :=
  match i with
  | .ireturn => 1
  | .lreturn => 1
  | .areturn => 1
  | .return_ => 1
  | .invokevirtual _ => 2
  | .invokestatic _ => 2
  | _ => 0
def p_ret (rt : Option FieldType) (i : Instr) (s : pS) : Option (Option Value × pH) :=
  match i, rt, s.2.2.2 with
  | .ireturn, some t, [.int v] => if narrow t (.int v) = .int v then some (some (.int v), s.1) else none
  | .lreturn, some .long, [.long v] => some (some (.long v), s.1)
  | .areturn, some (.object _), [.ref v] => some (some (.ref v), s.1)
  | .return_, none, [] => some (none, s.1)
  | _, _, _ => none
/-- the arguments of a call, what is left of the stack -/
def p_args (N : Nat) (i : Instr) (na ci : Nat) (s : pS) : Option (List Value × List Value) :=
  match i with
  | .invokevirtual _ => (match s.2.2.2.drop na with
    | .ref r :: rest => if r < N ∧ na ≤ s.2.2.2.length ∧ (rest.map fun v => v.category).sum ≤ 8 then (match s.1 r with
      | .inr (.inr (.inr (c, _))) => if c = ci then some (.ref r :: (s.2.2.2.take na).reverse, rest) else none
      | _ => none) else none
    | _ => none)
  | .invokestatic _ => if na ≤ s.2.2.2.length ∧ ((s.2.2.2.drop na).map fun v => v.category).sum ≤ 8 then some ((s.2.2.2.take na).reverse, s.2.2.2.drop na) else none
  | _ => none
/-- a call of System.arraycopy: its row's c is 2 -/
def p_isCp (i : Instr) (c : Nat) : Bool :=
  match i with
  | .invokestatic _ => c == 2
  | _ => false
def p_run (N : Nat) (Cs : List pCi) (Ms : List pM) : Nat → Nat → pM → pS → Option (Option Value × pH)
  | 0, _, _, _ => none
  | n + 1, d, M, s =>
    match List.lookup s.2.1 M.2.2.2.2.2 with
    | none => none
    | some (i, len, a, _) =>
      match p_kd i with
      | 0 => (match p_step N Cs M.2.2.1 i len a s with
        | some s' => p_run N Cs Ms n d M s'
        | none => none)
      | 1 => p_ret M.2.2.2.1 i s
      | _ => (match d with
        | 0 => none
        | d' + 1 => if p_isCp i a.2.2 = true then (match p_copy N s with
            | some s' => p_run N Cs Ms n (d' + 1) M s'
            | none => none)
          else (match p_args N i a.2.1 a.2.2 s with
            | some (vs, rest) => (match Ms[a.1]? with
              | some M' => if (lg_sl vs).length ≤ M'.2.2.1 then (match p_run N Cs Ms n d' M' (s.1, 0, lv_args 0 vs, []) with
                | some (r, h') => p_run N Cs Ms n (d' + 1) M (h', s.2.1 + 3, s.2.2.1, r.toList ++ rest)
                | none => none) else none
              | none => none)
            | none => none))
end
section
/-! WHAT THE PURE MACHINE DOES, THE MACHINE DOES: the tie between places and cells, the words, a step, a run, a contract. -/
def p_v (ad : Nat → Nat) : Value → Value
  | .ref a => .ref (ad a)
  | v => v
def p_e (k : ClassId × ClassId × ClassId) (ad : Nat → Nat) : pE → va_E
  | .inl (n, f) => .inl (k.1, n, .inl f)
  | .inr (.inl (n, f)) => .inl (k.2.1, n, .inr (.inl f))
  | .inr (.inr (.inl (n, f))) => .inl (k.2.2, n, .inr (.inr (.inr (.inr (fun i => (f i).map ad)))))
  | .inr (.inr (.inr (c, fs))) => .inr (c, fs.map (p_v ad))
def p_wm (k : ClassId × ClassId × ClassId) (ad : Nat → Nat) (N : Nat) (h : pH) : va_W := (List.range N).map (fun j => (ad j, p_e k ad (h j)))
def p_tys (k : ClassId × ClassId × ClassId) : List (ClassId × FieldType) := [(k.1, .int), (k.2.1, .long), (k.2.2, .array .long)]
def p_A (ad : Nat → Nat) (N : Nat) : Nat → Prop := fun q => ∃ j, j < N ∧ q = ad j
def p_lv (ad : Nat → Nat) (lv : pLv) : pLv := lv.map (fun q => (q.1, p_v ad q.2))
theorem p_v_cat (ad : Nat → Nat) (v : Value) : (p_v ad v).category = v.category := by cases v <;> rfl
theorem p_wm_get {k : ClassId × ClassId × ClassId} {ad : Nat → Nat} {N : Nat} {h : pH} {j : Nat} (hj : j < N) : (p_wm k ad N h)[j]? = some (ad j, p_e k ad (h j)) := by
  simp [p_wm, hj]
theorem p_wm_set {k : ClassId × ClassId × ClassId} {ad : Nat → Nat} {N : Nat} {h : pH} (j : Nat) (x : pE) : (p_wm k ad N h).set j (ad j, p_e k ad x) = p_wm k ad N (pu h j x) := by
  apply List.ext_getElem?
  intro i
  by_cases hi : i < N
  · by_cases e : j = i
    · subst e
      rw [List.getElem?_set_self (by simp [p_wm, hi]), p_wm_get hi]
      simp [pu]
    · rw [List.getElem?_set_ne e, p_wm_get hi, p_wm_get hi]
      simp [pu, Ne.symm e]
  · rw [List.getElem?_eq_none (by simp [p_wm]; omega), List.getElem?_eq_none (by simp [p_wm]; omega)]
theorem p_wm_D {k : ClassId × ClassId × ClassId} {ad : Nat → Nat} {N : Nat} (inj : ∀ i j, i < N → j < N → ad i = ad j → i = j) (h : pH) : va_D (p_A ad N) (p_wm k ad N h) := by
  have lt : ∀ {i : Nat} {q : Nat × va_E}, (p_wm k ad N h)[i]? = some q → i < N := fun {i q} hi => by
    have := (List.getElem?_eq_some_iff.mp hi).1
    simpa [p_wm] using this
  refine ⟨fun i j p q hi hj hpq => ?_, fun i q hi => ?_⟩
  · have h1 := lt hi
    have h2 := lt hj
    rw [p_wm_get h1] at hi
    rw [p_wm_get h2] at hj
    cases hi
    cases hj
    exact inj i j h1 h2 hpq
  · have h1 := lt hi
    rw [p_wm_get h1] at hi
    cases hi
    exact ⟨i, h1, rfl⟩
theorem p_look {i : Nat} {v : Value} : ∀ {lv : pLv}, List.lookup i lv = some v → (i, v) ∈ lv
  | [], h => by simp at h
  | (j, w) :: r, h => by
    rw [List.lookup_cons] at h
    by_cases e : i = j
    · subst e
      simp at h
      subst h
      exact List.mem_cons_self
    · have e2 : (i == j) = false := by simpa using e
      rw [e2] at h
      exact List.mem_cons_of_mem _ (p_look h)
theorem p_lv_at {ad : Nat → Nat} {ls : Array Slot} {nL i : Nat} {lv : pLv} {v : Value} (hl : lv_has ls nL (p_lv ad lv)) (h : List.lookup i lv = some v) : ls[i]? = some (.val (p_v ad v)) :=
  hl.2.2 (i, p_v ad v) (List.mem_map.mpr ⟨(i, v), p_look h, rfl⟩)
theorem p_lv_s1 (ad : Nat → Nat) (i : Nat) (v : Value) (lv : pLv) : (i, p_v ad v) :: (p_lv ad lv).filter (fun q => !(q.1 == i) && !(q.1 + 1 == i && q.2.category == 2)) = p_lv ad (p_s1 i v lv) := by
  unfold p_lv p_s1
  rw [List.map_cons, List.filter_map]
  congr 2
  apply List.filter_congr
  intro q _
  simp [Function.comp, p_v_cat]
theorem p_lv_s2 (ad : Nat → Nat) (i : Nat) (v : Value) (lv : pLv) : (i, p_v ad v) :: (p_lv ad lv).filter (fun q => !(q.1 == i) && (!(q.1 == i + 1) && !(q.1 + 1 == i && q.2.category == 2))) = p_lv ad (p_s2 i v lv) := by
  unfold p_lv p_s2
  rw [List.map_cons, List.filter_map]
  congr 2
  apply List.filter_congr
  intro q _
  simp [Function.comp, p_v_cat]
theorem p_lv_args (ad : Nat → Nat) : ∀ (vs : List Value) (i : Nat), lv_args i (vs.map (p_v ad)) = p_lv ad (lv_args i vs)
  | [], _ => rfl
  | v :: vs, i => by
    simp only [List.map_cons, lv_args, p_v_cat, p_lv]
    congr 1
    exact p_lv_args ad vs _
theorem p_sl_len (ad : Nat → Nat) : ∀ (vs : List Value), (lg_sl (vs.map (p_v ad))).length = (lg_sl vs).length
  | [] => rfl
  | v :: vs => by
    have ih := p_sl_len ad vs
    unfold lg_sl at ih ⊢
    simp only [List.map_cons, List.flatMap_cons, List.length_append, p_v_cat, ih]
    split <;> rfl
theorem p_cats (ad : Nat → Nat) (vs : List Value) : ((vs.map (p_v ad)).map fun v => v.category).sum = (vs.map fun v => v.category).sum := by
  rw [List.map_map]
  congr 1
  apply List.map_congr_left
  intro v _
  exact p_v_cat ad v
/-! the words -/
def p_W : List Jvm.Cond := lw_tbl.filter goodWord
def p_word (i : Nat) (w : Jvm.Cond) : Bool := decide (lw_tbl[i]? = some w) && goodWord w
theorem p_word_in {i : Nat} {w : Jvm.Cond} (h : p_word i w = true) : w ∈ p_W := by
  simp only [p_word, Bool.and_eq_true, decide_eq_true_eq] at h
  exact List.mem_filter.mpr ⟨List.mem_of_getElem? h.1, h.2⟩
def p_isNest : Jvm.Cond → Bool
  | .methodLinkNest _ _ _ _ => true
  | _ => false
def p_nest (U : State) : Prop := ∀ w ∈ lw_tbl, p_isNest w = true → va_Nw w U
theorem p_nest.warm {s U : State} (hW : s.WarmedH U.vm) (h : p_nest s) : p_nest U := fun w hw hn => by
  have h1 := h w hw hn
  cases w <;> first | (simp [p_isNest] at hn; done) | exact va_Nw.warmM hW h1
theorem p_nest.same {u U : State} (hvm : u.vm = U.vm) (h : p_nest u) : p_nest U := fun w hw hn => by
  have h1 := h w hw hn
  cases w <;> first | (simp [p_isNest] at hn; done) | exact va_Nw.same rfl hvm h1
def p_ws (M : pM) : List Jvm.Cond := .code M.1 M.2.1 M.2.2.1 M.2.2.2.1 :: p_W
theorem p_good {w : Jvm.Cond} (h : w ∈ p_W) : (w.onTables && w.keeps) = true ∨ ∃ ty, w = .arrayClass ty := good_of_word (List.mem_filter.mp h).2
theorem p_ws_good {M M' : pM} (h : Jvm.Cond.code M'.1 M'.2.1 M'.2.2.1 M'.2.2.2.1 ∈ p_W) : GoodIn (p_ws M) (p_ws M') := fun w hw => by
  rcases List.mem_cons.mp hw with e | hw
  · subst e
    exact ⟨List.mem_cons_of_mem _ h, p_good h⟩
  · exact ⟨List.mem_cons_of_mem _ hw, p_good hw⟩
/-- frames d, locals 30 a frame -/
def p_rm (d : Nat) : Room := { frames := d, cells := 0, slots := 0, locals := 30 * d }
/-- how long an instruction is, as the rows want it -/
def p_ln (i : Instr) : Option Nat :=
  match i with
  | .aload _ => some 2
  | .iload _ => some 2
  | .lload _ => some 2
  | .istore _ => some 2
  | .lstore _ => some 2
  | .bipush _ => some 2
  | .ldc _ => some 2
  | .iinc _ _ => some 3
  | .sipush _ => some 3
  | .ldc_w _ => some 3
  | .ldc2_w _ => some 3
  | .goto _ => some 3
  | .ifCond _ _ => some 3
  | .if_icmp _ _ => some 3
  | .getfield _ => some 3
  | .putfield _ => some 3
  | .invokevirtual _ => some 3
  | .invokestatic _ => some 3
  | .tableswitch _ _ _ _ => none
  | .lookupswitch _ _ => none
  | _ => some 1
def p_okL (i : Instr) (len : Nat) : Bool :=
  match p_ln i with
  | some k => len == k
  | none => true
def p_okY (M' : pM) (na : Nat) : Bool :=
  decide (M'.1.cls ≠ "java/lang/invoke/MethodHandle") && decide (M'.1.cls ≠ "java/lang/invoke/VarHandle") && decide ((parseMethodDescriptor M'.1.desc).map (fun d => d.parameters.length) = some na)
def p_okW (Cs : List pCi) (Ms : List pM) (own : String) (q : pI) : Bool :=
  match q.2.1 with
  | .goto off => decide ((q.1 : Int) + off = (q.2.2.2.1.1 : Int))
  | .ifCond _ off => decide ((q.1 : Int) + off = (q.2.2.2.1.1 : Int))
  | .if_icmp _ off => decide ((q.1 : Int) + off = (q.2.2.2.1.1 : Int))
  | .ldc idx => p_word (q.2.2.2.2.getD 0 0) (.constant own idx (Int32.ofNat q.2.2.2.1.1))
  | .ldc_w idx => p_word (q.2.2.2.2.getD 0 0) (.constant own idx (Int32.ofNat q.2.2.2.1.1))
  | .ldc2_w idx => p_word (q.2.2.2.2.getD 0 0) (.constantLong own idx (if q.2.2.2.1.2.1 = 1 then -(Int64.ofNat q.2.2.2.1.1) else Int64.ofNat q.2.2.2.1.1))
  | .getfield idx => (match Cs[q.2.2.2.1.1]? with
    | some C => decide (q.2.2.2.1.2.1 < C.1.2.2) && p_word (q.2.2.2.2.getD 0 0) (.fieldLink own idx (C.1.2.1 q.2.2.2.1.2.1).1 (C.1.2.1 q.2.2.2.1.2.1).2.1 (C.1.2.1 q.2.2.2.1.2.1).2.2.1)
    | none => false)
  | .putfield idx => (match Cs[q.2.2.2.1.1]? with
    | some C => decide (q.2.2.2.1.2.1 < C.1.2.2) && !(C.1.2.1 q.2.2.2.1.2.1).2.2.2 && p_word (q.2.2.2.2.getD 0 0) (.fieldLink own idx (C.1.2.1 q.2.2.2.1.2.1).1 (C.1.2.1 q.2.2.2.1.2.1).2.1 (C.1.2.1 q.2.2.2.1.2.1).2.2.1)
    | none => false)
  | .invokevirtual idx => (match Ms[q.2.2.2.1.1]? with
    | some M' => p_okY M' q.2.2.2.1.2.1 && p_word (q.2.2.2.2.getD 0 0) (.methodLink own idx M'.1) && p_word (q.2.2.2.2.getD 1 0) (.instanceMethod M'.1) && p_word (q.2.2.2.2.getD 2 0) (.selects M'.1.cls M'.1 M'.1) && p_word (q.2.2.2.2.getD 3 0) (.initialized M'.1.cls) && decide ((Cs[q.2.2.2.1.2.2]?).map (fun C => C.1.1) = some M'.1.cls)
    | none => false)
  | .invokestatic idx => if q.2.2.2.1.2.2 = 2 then
      p_word (q.2.2.2.2.getD 0 0) (.methodLink own idx arraycopyName) && p_word (q.2.2.2.2.getD 1 0) (.native arraycopyName) && p_word (q.2.2.2.2.getD 2 0) (.static arraycopyName) && p_word (q.2.2.2.2.getD 3 0) (.initialized "java/lang/System")
    else (match Ms[q.2.2.2.1.1]? with
    | some M' => p_okY M' q.2.2.2.1.2.1 && p_word (q.2.2.2.2.getD 1 0) (.static M'.1) && p_word (q.2.2.2.2.getD 2 0) (.initialized M'.1.cls) &&
        (if q.2.2.2.1.2.2 = 1 then decide (lw_tbl[q.2.2.2.2.getD 0 0]? = some (.methodLinkNest own idx M'.1 "LabelTree")) else p_word (q.2.2.2.2.getD 0 0) (.methodLink own idx M'.1))
    | none => false)
  | _ => true
def p_okI (Cs : List pCi) (Ms : List pM) (M : pM) (q : pI) : Bool :=
  decide (decode M.2.1 q.1 = .ok (q.2.1, q.2.2.1)) && p_okL q.2.1 q.2.2.1 && p_okW Cs Ms M.1.cls q
def p_okM (Cs : List pCi) (Ms : List pM) (M : pM) : Prop :=
  (∀ q ∈ M.2.2.2.2.2, p_okI Cs Ms M q = true) ∧ Jvm.Cond.code M.1 M.2.1 M.2.2.1 M.2.2.2.1 ∈ p_W ∧ plainName M.1.cls = true ∧ M.2.2.1 ≤ 11
/-- what is known of the classes -/
def p_okC (Cs : List pCi) : Prop := ∀ (ci : Nat) (q : pCi), Cs[ci]? = some q → (∀ w ∈ u_ws q.1.1 q.1.2.1 q.1.2.2, w ∈ p_W) ∧ (∀ k, k < q.1.2.2 → parseFieldDescriptor (q.1.2.1 k).2.2.1 = some (q.2 k)) ∧ (∀ a, a < q.1.2.2 → ∀ b, b < q.1.2.2 → a ≠ b → (q.1.2.1 a).2.1 ≠ (q.1.2.1 b).2.1)
theorem p_fit {ty : FieldType} {ad : Nat → Nat} {v : Value} (h1 : narrow ty v = v) (h2 : fits ty v = true) : narrow ty (p_v ad v) = p_v ad v ∧ fits ty (p_v ad v) = true := by
  cases v with
  | ref a => cases ty <;> first | (simp [fits] at h2; done) | exact ⟨rfl, rfl⟩
  | _ => exact ⟨h1, h2⟩
end
section
/-! a step of the pure machine is a step of the machine -/
theorem p_ld_inv {t : Value → Bool} {i len : Nat} {s s' : pS} (h : p_ld t i len s = some s') : ∃ v, List.lookup i s.2.2.1 = some v ∧ t v = true ∧ s' = (s.1, s.2.1 + len, s.2.2.1, v :: s.2.2.2) := by
  unfold p_ld at h
  split at h
  · rename_i v hv
    split at h
    · rename_i ht
      exact ⟨v, hv, ht, (Option.some.inj h).symm⟩
    · cases h
  · cases h
theorem p_st1_inv {t : Value → Bool} {mx i len : Nat} {s s' : pS} (h : p_st1 t mx i len s = some s') : ∃ v r, s.2.2.2 = v :: r ∧ t v = true ∧ i < mx ∧ s' = (s.1, s.2.1 + len, p_s1 i v s.2.2.1, r) := by
  unfold p_st1 at h
  split at h
  · rename_i v r hv
    split at h
    · rename_i ht
      exact ⟨v, r, hv, ht.1, ht.2, (Option.some.inj h).symm⟩
    · cases h
  · cases h
theorem p_st2_inv {mx i len : Nat} {s s' : pS} (h : p_st2 mx i len s = some s') : ∃ v r, s.2.2.2 = v :: r ∧ p_isL v = true ∧ i + 1 < mx ∧ s' = (s.1, s.2.1 + len, p_s2 i v s.2.2.1, r) := by
  unfold p_st2 at h
  split at h
  · rename_i v r hv
    split at h
    · rename_i ht
      exact ⟨v, r, hv, ht.1, ht.2, (Option.some.inj h).symm⟩
    · cases h
  · cases h
theorem p_iinc_inv {mx i len : Nat} {n : Int} {s s' : pS} (h : p_iinc mx i n len s = some s') : ∃ x, List.lookup i s.2.2.1 = some (.int x) ∧ i < mx ∧ s' = (s.1, s.2.1 + len, p_s1 i (.int (x + Int32.ofInt n)) s.2.2.1, s.2.2.2) := by
  unfold p_iinc at h
  split at h
  · rename_i x hv
    split at h
    · rename_i ht
      exact ⟨x, hv, ht, (Option.some.inj h).symm⟩
    · cases h
  · cases h
theorem p_bI_inv {f : Int32 → Int32 → Int32} {len : Nat} {s s' : pS} (h : p_bI f len s = some s') : ∃ x y r, s.2.2.2 = .int y :: .int x :: r ∧ s' = (s.1, s.2.1 + len, s.2.2.1, .int (f x y) :: r) := by
  unfold p_bI at h
  split at h
  · rename_i y x r hv
    exact ⟨x, y, r, hv, (Option.some.inj h).symm⟩
  · cases h
theorem p_bD_inv {f : Int32 → Int32 → Int32} {len : Nat} {s s' : pS} (h : p_bD f len s = some s') : ∃ x y r, s.2.2.2 = .int y :: .int x :: r ∧ ¬ y = 0 ∧ s' = (s.1, s.2.1 + len, s.2.2.1, .int (f x y) :: r) := by
  unfold p_bD at h
  split at h
  · rename_i y x r hv
    split at h
    · cases h
    · rename_i hn
      exact ⟨x, y, r, hv, hn, (Option.some.inj h).symm⟩
  · cases h
theorem p_bL_inv {f : Int64 → Int64 → Int64} {len : Nat} {s s' : pS} (h : p_bL f len s = some s') : ∃ x y r, s.2.2.2 = .long y :: .long x :: r ∧ s' = (s.1, s.2.1 + len, s.2.2.1, .long (f x y) :: r) := by
  unfold p_bL at h
  split at h
  · rename_i y x r hv
    exact ⟨x, y, r, hv, (Option.some.inj h).symm⟩
  · cases h
theorem p_cmpL_inv {len : Nat} {s s' : pS} (h : p_cmpL len s = some s') : ∃ x y r, s.2.2.2 = .long y :: .long x :: r ∧ s' = (s.1, s.2.1 + len, s.2.2.1, .int (lg_cmp x y) :: r) := by
  unfold p_cmpL at h
  split at h
  · rename_i y x r hv
    exact ⟨x, y, r, hv, (Option.some.inj h).symm⟩
  · cases h
theorem p_dup_inv {len : Nat} {s s' : pS} (h : p_dup len s = some s') : ∃ v r, s.2.2.2 = v :: r ∧ v.category = 1 ∧ s' = (s.1, s.2.1 + len, s.2.2.1, v :: v :: r) := by
  unfold p_dup at h
  split at h
  · rename_i v r hv
    split at h
    · rename_i hc
      exact ⟨v, r, hv, hc, (Option.some.inj h).symm⟩
    · cases h
  · cases h
theorem p_dup2_inv {len : Nat} {s s' : pS} (h : p_dup2 len s = some s') : ∃ v w r, s.2.2.2 = v :: w :: r ∧ v.category = 1 ∧ w.category = 1 ∧ s' = (s.1, s.2.1 + len, s.2.2.1, v :: w :: v :: w :: r) := by
  unfold p_dup2 at h
  split at h
  · rename_i v w r hv
    split at h
    · rename_i hc
      exact ⟨v, w, r, hv, hc.1, hc.2, (Option.some.inj h).symm⟩
    · cases h
  · cases h
theorem p_pop_inv {len : Nat} {s s' : pS} (h : p_pop len s = some s') : ∃ v r, s.2.2.2 = v :: r ∧ v.category = 1 ∧ s' = (s.1, s.2.1 + len, s.2.2.1, r) := by
  unfold p_pop at h
  split at h
  · rename_i v r hv
    split at h
    · rename_i hc
      exact ⟨v, r, hv, hc, (Option.some.inj h).symm⟩
    · cases h
  · cases h
theorem p_if1_inv {c : ClassFile.Cond} {tgt len : Nat} {s s' : pS} (h : p_if1 c tgt len s = some s') : ∃ x r, s.2.2.2 = .int x :: r ∧ ((p_cd c x 0 ∧ s' = (s.1, tgt, s.2.2.1, r)) ∨ (¬ p_cd c x 0 ∧ s' = (s.1, s.2.1 + len, s.2.2.1, r))) := by
  unfold p_if1 at h
  split at h
  · rename_i x r hv
    split at h
    · rename_i hc
      exact ⟨x, r, hv, Or.inl ⟨(p_cb_iff _ _ _).mp hc, (Option.some.inj h).symm⟩⟩
    · rename_i hc
      exact ⟨x, r, hv, Or.inr ⟨fun q => hc ((p_cb_iff _ _ _).mpr q), (Option.some.inj h).symm⟩⟩
  · cases h
theorem p_if2_inv {c : ClassFile.Cond} {tgt len : Nat} {s s' : pS} (h : p_if2 c tgt len s = some s') : ∃ x y r, s.2.2.2 = .int y :: .int x :: r ∧ ((p_cd c x y ∧ s' = (s.1, tgt, s.2.2.1, r)) ∨ (¬ p_cd c x y ∧ s' = (s.1, s.2.1 + len, s.2.2.1, r))) := by
  unfold p_if2 at h
  split at h
  · rename_i y x r hv
    split at h
    · rename_i hc
      exact ⟨x, y, r, hv, Or.inl ⟨(p_cb_iff _ _ _).mp hc, (Option.some.inj h).symm⟩⟩
    · rename_i hc
      exact ⟨x, y, r, hv, Or.inr ⟨fun q => hc ((p_cb_iff _ _ _).mpr q), (Option.some.inj h).symm⟩⟩
  · cases h
theorem p_tsw_inv {dflt lo hi : Int} {offs : Array Int} {s s' : pS} (h : p_tsw dflt lo hi offs s = some s') : ∃ x r tgt, s.2.2.2 = .int x :: r ∧ s' = (s.1, tgt, s.2.2.1, r) ∧
    (((x.toInt < lo ∨ hi < x.toInt) ∧ (s.2.1 : Int) + dflt = (tgt : Int)) ∨ (¬ x.toInt < lo ∧ ¬ hi < x.toInt ∧ ∃ off, offs[(x.toInt - lo).toNat]? = some off ∧ (s.2.1 : Int) + off = (tgt : Int))) := by
  unfold p_tsw at h
  split at h
  · rename_i x r hv
    split at h
    · rename_i hc
      split at h
      · rename_i h0
        exact ⟨x, r, _, hv, (Option.some.inj h).symm, Or.inl ⟨hc, by omega⟩⟩
      · cases h
    · rename_i hc
      split at h
      · rename_i off ho
        split at h
        · rename_i h0
          exact ⟨x, r, _, hv, (Option.some.inj h).symm, Or.inr ⟨fun q => hc (Or.inl q), fun q => hc (Or.inr q), off, ho, by omega⟩⟩
        · cases h
      · cases h
  · cases h
theorem p_lsw_inv {dflt : Int} {ps : Array (Int × Int)} {s s' : pS} (h : p_lsw dflt ps s = some s') : ∃ x r tgt, s.2.2.2 = .int x :: r ∧ s' = (s.1, tgt, s.2.2.1, r) ∧
    (ps.toList.zip (ps.toList.drop 1)).all (fun (a, next) => a.1 < next.1) = true ∧ (s.2.1 : Int) + Op.lookupswitch.offset ps.toList dflt x.toInt = (tgt : Int) := by
  unfold p_lsw at h
  split at h
  · rename_i x r hv
    split at h
    · rename_i hc
      exact ⟨x, r, _, hv, (Option.some.inj h).symm, hc.1, by omega⟩
    · cases h
  · cases h
theorem p_get_inv {N ci k len : Nat} {s s' : pS} (h : p_get N ci k len s = some s') : ∃ a r fs v, s.2.2.2 = .ref a :: r ∧ a < N ∧ s.1 a = eO ci fs ∧ fs[k]? = some v ∧ s' = (s.1, s.2.1 + len, s.2.2.1, v :: r) := by
  unfold p_get at h
  split at h
  · rename_i a r hv
    split at h
    · rename_i ha
      split at h
      · rename_i c fs he
        split at h
        · rename_i hc
          split at h
          · rename_i v hk
            subst hc
            exact ⟨a, r, fs, v, hv, ha, he, hk, (Option.some.inj h).symm⟩
          · cases h
        · cases h
      · cases h
    · cases h
  · cases h
theorem p_put_inv {N ci k len : Nat} {ty : FieldType} {s s' : pS} (h : p_put N ci k ty len s = some s') : ∃ v a r fs, s.2.2.2 = v :: .ref a :: r ∧ a < N ∧ s.1 a = eO ci fs ∧ k < fs.length ∧ narrow ty v = v ∧ fits ty v = true ∧ s' = (pu s.1 a (eO ci (fs.set k v)), s.2.1 + len, s.2.2.1, r) := by
  unfold p_put at h
  split at h
  · rename_i v a r hv
    split at h
    · rename_i ha
      split at h
      · rename_i c fs he
        split at h
        · rename_i hc
          obtain ⟨h1, h2, h3, h4⟩ := hc
          subst h1
          exact ⟨v, a, r, fs, hv, ha, he, h2, h3, h4, (Option.some.inj h).symm⟩
        · cases h
      · cases h
    · cases h
  · cases h
theorem p_iald_inv {N len : Nat} {s s' : pS} (h : p_iald N len s = some s') : ∃ i a r n f, s.2.2.2 = .int i :: .ref a :: r ∧ a < N ∧ s.1 a = eI n f ∧ vp_in i n ∧ s' = (s.1, s.2.1 + len, s.2.2.1, .int (f i.toNatClampNeg) :: r) := by
  unfold p_iald at h
  split at h
  · rename_i i a r hv
    split at h
    · rename_i ha
      split at h
      · rename_i n f he
        split at h
        · cases h
        · rename_i hc
          exact ⟨i, a, r, n, f, hv, ha, he, hc, (Option.some.inj h).symm⟩
      · cases h
    · cases h
  · cases h
theorem p_lald_inv {N len : Nat} {s s' : pS} (h : p_lald N len s = some s') : ∃ i a r n f, s.2.2.2 = .int i :: .ref a :: r ∧ a < N ∧ s.1 a = eJ n f ∧ vp_in i n ∧ s' = (s.1, s.2.1 + len, s.2.2.1, .long (f i.toNatClampNeg) :: r) := by
  unfold p_lald at h
  split at h
  · rename_i i a r hv
    split at h
    · rename_i ha
      split at h
      · rename_i n f he
        split at h
        · cases h
        · rename_i hc
          exact ⟨i, a, r, n, f, hv, ha, he, hc, (Option.some.inj h).symm⟩
      · cases h
    · cases h
  · cases h
theorem p_aald_inv {N len : Nat} {s s' : pS} (h : p_aald N len s = some s') : ∃ i a r n f b, s.2.2.2 = .int i :: .ref a :: r ∧ a < N ∧ s.1 a = eR n f ∧ vp_in i n ∧ f i.toNatClampNeg = some b ∧ s' = (s.1, s.2.1 + len, s.2.2.1, .ref b :: r) := by
  unfold p_aald at h
  split at h
  · rename_i i a r hv
    split at h
    · rename_i ha
      split at h
      · rename_i n f he
        split at h
        · cases h
        · rename_i hc
          split at h
          · rename_i b hb
            exact ⟨i, a, r, n, f, b, hv, ha, he, hc, hb, (Option.some.inj h).symm⟩
          · cases h
      · cases h
    · cases h
  · cases h
theorem p_iast_inv {N len : Nat} {s s' : pS} (h : p_iast N len s = some s') : ∃ x i a r n f, s.2.2.2 = .int x :: .int i :: .ref a :: r ∧ a < N ∧ s.1 a = eI n f ∧ vp_in i n ∧ s' = (pu s.1 a (eI n (upd f i.toNatClampNeg x)), s.2.1 + len, s.2.2.1, r) := by
  unfold p_iast at h
  split at h
  · rename_i x i a r hv
    split at h
    · rename_i ha
      split at h
      · rename_i n f he
        split at h
        · cases h
        · rename_i hc
          exact ⟨x, i, a, r, n, f, hv, ha, he, hc, (Option.some.inj h).symm⟩
      · cases h
    · cases h
  · cases h
theorem p_last_inv {N len : Nat} {s s' : pS} (h : p_last N len s = some s') : ∃ x i a r n f, s.2.2.2 = .long x :: .int i :: .ref a :: r ∧ a < N ∧ s.1 a = eJ n f ∧ vp_in i n ∧ s' = (pu s.1 a (eJ n (vp_updL f i.toNatClampNeg x)), s.2.1 + len, s.2.2.1, r) := by
  unfold p_last at h
  split at h
  · rename_i x i a r hv
    split at h
    · rename_i ha
      split at h
      · rename_i n f he
        split at h
        · cases h
        · rename_i hc
          exact ⟨x, i, a, r, n, f, hv, ha, he, hc, (Option.some.inj h).symm⟩
      · cases h
    · cases h
  · cases h
theorem p_alen_inv {N len : Nat} {s s' : pS} (h : p_alen N len s = some s') : ∃ a r n, s.2.2.2 = .ref a :: r ∧ a < N ∧ p_len (s.1 a) = some n ∧ s' = (s.1, s.2.1 + len, s.2.2.1, .int (Int32.ofNat n) :: r) := by
  unfold p_alen at h
  split at h
  · rename_i a r hv
    split at h
    · rename_i ha
      split at h
      · rename_i n he
        exact ⟨a, r, n, hv, ha, he, (Option.some.inj h).symm⟩
      · cases h
    · cases h
  · cases h
theorem p_copy_inv {N : Nat} {s s' : pS} (h : p_copy N s = some s') : ∃ n dp b sp a r n0 n1 f g, s.2.2.2 = .int n :: .int dp :: .ref b :: .int sp :: .ref a :: r ∧ a < N ∧ b < N ∧ s.1 a = eI n0 f ∧ s.1 b = eI n1 g ∧ ¬ sp < 0 ∧ ¬ dp < 0 ∧ ¬ n < 0 ∧ sp.toNatClampNeg + n.toNatClampNeg ≤ n0 ∧ dp.toNatClampNeg + n.toNatClampNeg ≤ n1 ∧ (r.map fun v => v.category).sum ≤ 8 ∧
    s' = (pu s.1 b (eI n1 (va_cpy f g sp.toNatClampNeg dp.toNatClampNeg n.toNatClampNeg)), s.2.1 + 3, s.2.2.1, r) := by
  unfold p_copy at h
  split at h
  · rename_i n dp b sp a r hv
    split at h
    · rename_i ha
      split at h
      · rename_i n0 f n1 g he hg
        split at h
        · cases h
        · rename_i hc
          simp only [not_or, Nat.not_lt] at hc
          obtain ⟨⟨c1, c2, c3⟩, c4, c5, c6⟩ := hc
          exact ⟨n, dp, b, sp, a, r, n0, n1, f, g, hv, ha.1, ha.2, he, hg, c1, c2, c3, c4, c5, c6, (Option.some.inj h).symm⟩
      · cases h
    · cases h
  · cases h
def p_Cx (p : Program) (s : State) (m : MethodId) (args : Array Value) (meth : Method) (c : Code) (D : va_G) (kc : ClassId × ClassId × ClassId) (Cs : List pCi) (M : pM) : Prop :=
  p.tables.exec = Jvm.exec ∧ c.code = M.2.1 ∧ meth.sig.returnType = M.2.2.2.1 ∧ c.maxLocals = M.2.2.1 ∧ (∀ w ∈ p_ws M, w.before args s = true) ∧ s.vm.findClass M.1.cls = some m.cls ∧ meth.locks = false ∧ va_K D (Cs.map Prod.fst) (p_tys kc) s ∧ p_nest s
section PSW
variable {p : Program} {l : Launch} {e : Env} {R : Room} {s : State} {m : MethodId} {args : Array Value} {below : List Frame} {meth : Method} {c : Code} {Q : State → Prop} {H : Heap} {locs : List Loc} {cells slots : Nat}
variable {D : va_G} {kc : ClassId × ClassId × ClassId} {ad : Nat → Nat} {N : Nat} {Cs : List pCi} {Ms : List pM} {M : pM}
theorem p_aaldW {cc : ByteArray} {pc : Nat} {ls : Array Slot} {rest : List Value} {cl : List vw_C} {a : Nat} {tys : List (ClassId × FieldType)} {ws : va_W} (hexec : p.tables.exec = Jvm.exec) (hb : c.code = cc) (hK : va_K D cl tys s) (hP : va_P D cl ws H) (q0 t0 : Nat) {cA : ClassId} {n : Nat} {f : Nat → Option Nat} (ha : ws[q0]? = some (a, .inl (cA, n, .inr (.inr (.inr (.inr f)))))) (ht : tys[t0]? = some (cA, .array .long)) {i : Int32} (hin : vp_in i n) (hdg : decode cc pc = .ok (.aaload, 1))
    (kk : W p l e R s m args below meth c H locs cells slots Q (F0 m (pc + 1) ls (va_rf (f i.toNatClampNeg) :: rest))) : W p l e R s m args below meth c H locs cells slots Q (F0 m pc ls (.int i :: .ref a :: rest)) := by
  have hlt : i.toNatClampNeg < n := Nat.not_le.mp fun q => hin (Or.inr q)
  exact W.aald (v := va_rf (f i.toNatClampNeg)) (ty := .array .long) hexec hb (hP q0 _ ha) ((hK.2 t0 _ ht).1 n (fun j => va_rf (f j))) rfl (fun q => by cases q) (by show ¬ (i < 0 ∨ (arrV _ _ _).slots.size ≤ _); rw [arrV_size]; exact hin) (by show (arrV _ _ _).slots[_]? = _; rw [arrV_read _ _ hlt]) rfl rfl hdg kk
theorem p_iincW {cc : ByteArray} {pc : Nat} {ls : Array Slot} {rest : List Value} (hexec : p.tables.exec = Jvm.exec) (hb : c.code = cc) {i nL : Nat} {n : Int} {x : Int32} {lv : pLv} (hdg : decode cc pc = .ok (.iinc i n, 3)) (h : lv_has ls nL (p_lv ad lv)) (hk : List.lookup i lv = some (.int x)) (hn : i < nL)
    (kk : ∀ ls' : Array Slot, lv_has ls' nL (p_lv ad (p_s1 i (.int (x + Int32.ofInt n)) lv)) → W p l e R s m args below meth c H locs cells slots Q (F0 m (pc + 3) ls' rest)) : W p l e R s m args below meth c H locs cells slots Q (F0 m pc ls rest) := by
  have hm : (i, Value.int x) ∈ p_lv ad lv := List.mem_map.mpr ⟨(i, .int x), p_look hk, rfl⟩
  obtain ⟨k, hk2⟩ := List.getElem?_of_mem hm
  exact lv_iinc hexec hb hdg h hk2 rfl hn (p_lv_s1 ad i (.int (x + Int32.ofInt n)) lv) kk
end PSW
end
section
section PSM
variable {p : Program} {l : Launch} {e : Env} {R : Room} {s : State} {m : MethodId} {args : Array Value} {below : List Frame} {meth : Method} {c : Code} {Q : State → Prop} {H : Heap} {locs : List Loc} {cells slots : Nat}
variable {D : va_G} {kc : ClassId × ClassId × ClassId} {ad : Nat → Nat} {N : Nat} {Cs : List pCi} {Ms : List pM} {M : pM}
theorem p_isI_of {v : Value} (h : p_isI v = true) : ∃ x, v = .int x := by cases v <;> first | exact ⟨_, rfl⟩ | (simp [p_isI] at h; done)
theorem p_isL_of {v : Value} (h : p_isL v = true) : ∃ x, v = .long x := by cases v <;> first | exact ⟨_, rfl⟩ | (simp [p_isL] at h; done)
theorem p_isR_of {v : Value} (h : p_isR v = true) : ∃ x, v = .ref x := by cases v <;> first | exact ⟨_, rfl⟩ | (simp [p_isR] at h; done)
theorem p_cl_at {ci : Nat} {q : pCi} (h : Cs[ci]? = some q) : (Cs.map Prod.fst)[ci]? = some q.1 := by rw [List.getElem?_map, h]; rfl
set_option maxHeartbeats 4000000 in
theorem p_stepW (cx : p_Cx p s m args meth c D kc Cs M) (hC : p_okC Cs) (inj : ∀ i j, i < N → j < N → ad i = ad j → i = j) {pc len pc1 : Nat} {i : Instr} {a : Nat × Nat × Nat} {ps : List Nat} (ok : p_okI Cs Ms M (pc, i, len, a, ps) = true) {h h1 : pH} {lv lv1 : pLv} {st st1 : List Value}
    (hst : p_step N Cs M.2.2.1 i len a (h, pc, lv, st) = some (h1, pc1, lv1, st1)) {ls : Array Slot} (hl : lv_has ls M.2.2.1 (p_lv ad lv)) (hP : va_P D (Cs.map Prod.fst) (p_wm kc ad N h) H) (hS : va_S (p_A ad N) s.heap H locs)
    (kk : ∀ (H1 : Heap) (locs1 : List Loc) (ls1 : Array Slot), lv_has ls1 M.2.2.1 (p_lv ad lv1) → va_P D (Cs.map Prod.fst) (p_wm kc ad N h1) H1 → va_S (p_A ad N) s.heap H1 locs1 → W p l e R s m args below meth c H1 locs1 cells slots Q (F0 m pc1 ls1 (st1.map (p_v ad)))) :
    W p l e R s m args below meth c H locs cells slots Q (F0 m pc ls (st.map (p_v ad))) := by
  obtain ⟨hx, hb, hr, hml, hts, hown, hlocks, hK, hN⟩ := cx
  simp only [p_okI, Bool.and_eq_true, decide_eq_true_eq] at ok
  obtain ⟨⟨hd, hlen⟩, hw⟩ := ok
  have hD := p_wm_D (k := kc) inj h
  have hWs : ∀ w ∈ p_W, w.before args s = true := fun w h => hts w (List.mem_cons_of_mem _ h)
  cases i <;> first | (exfalso; simp [p_step] at hst; done) | skip
  case aload_n k =>
    obtain ⟨v, e1, e2, e3⟩ := p_ld_inv hst
    obtain ⟨x, rfl⟩ := p_isR_of e2
    simp [p_okL, p_ln] at hlen
    subst hlen
    cases e3
    exact lv_aload_n hx hb hd rfl (p_lv_at hl e1) (kk H locs ls hl hP hS)
  case aload k =>
    obtain ⟨v, e1, e2, e3⟩ := p_ld_inv hst
    obtain ⟨x, rfl⟩ := p_isR_of e2
    simp [p_okL, p_ln] at hlen
    subst hlen
    cases e3
    exact lv_aload hx hb hd (p_lv_at hl e1) (kk H locs ls hl hP hS)
  case iload_n k =>
    obtain ⟨v, e1, e2, e3⟩ := p_ld_inv hst
    obtain ⟨x, rfl⟩ := p_isI_of e2
    simp [p_okL, p_ln] at hlen
    subst hlen
    cases e3
    exact lv_iload_n hx hb hd rfl (p_lv_at hl e1) (kk H locs ls hl hP hS)
  case iload k =>
    obtain ⟨v, e1, e2, e3⟩ := p_ld_inv hst
    obtain ⟨x, rfl⟩ := p_isI_of e2
    simp [p_okL, p_ln] at hlen
    subst hlen
    cases e3
    exact lv_iload hx hb hd (p_lv_at hl e1) (kk H locs ls hl hP hS)
  case lload_n k =>
    obtain ⟨v, e1, e2, e3⟩ := p_ld_inv hst
    obtain ⟨x, rfl⟩ := p_isL_of e2
    simp [p_okL, p_ln] at hlen
    subst hlen
    cases e3
    exact lv_lload_n hx hb hd rfl (p_lv_at hl e1) (kk H locs ls hl hP hS)
  case lload k =>
    obtain ⟨v, e1, e2, e3⟩ := p_ld_inv hst
    obtain ⟨x, rfl⟩ := p_isL_of e2
    simp [p_okL, p_ln] at hlen
    subst hlen
    cases e3
    exact lv_lload hx hb hd (p_lv_at hl e1) (kk H locs ls hl hP hS)
  case istore_n k =>
    obtain ⟨v, r, e1, e2, e3, e4⟩ := p_st1_inv hst
    obtain ⟨x, rfl⟩ := p_isI_of e2
    simp [p_okL, p_ln] at hlen
    subst hlen
    cases e4
    change st = _ at e1
    subst e1
    exact lv_istore_n hx hb hd rfl hl e3 (p_lv_s1 ad _ (.int x) lv) (fun ls' hl' => kk H locs ls' hl' hP hS)
  case istore k =>
    obtain ⟨v, r, e1, e2, e3, e4⟩ := p_st1_inv hst
    obtain ⟨x, rfl⟩ := p_isI_of e2
    simp [p_okL, p_ln] at hlen
    subst hlen
    cases e4
    change st = _ at e1
    subst e1
    exact lv_istore hx hb hd hl e3 (p_lv_s1 ad _ (.int x) lv) (fun ls' hl' => kk H locs ls' hl' hP hS)
  case astore_n k =>
    obtain ⟨v, r, e1, e2, e3, e4⟩ := p_st1_inv hst
    obtain ⟨x, rfl⟩ := p_isR_of e2
    simp [p_okL, p_ln] at hlen
    subst hlen
    cases e4
    change st = _ at e1
    subst e1
    exact lv_astore_n hx hb hd rfl hl e3 (p_lv_s1 ad _ (.ref x) lv) (fun ls' hl' => kk H locs ls' hl' hP hS)
  case lstore_n k =>
    obtain ⟨v, r, e1, e2, e3, e4⟩ := p_st2_inv hst
    obtain ⟨x, rfl⟩ := p_isL_of e2
    simp [p_okL, p_ln] at hlen
    subst hlen
    cases e4
    change st = _ at e1
    subst e1
    exact lv_lstore_n hx hb hd rfl hl e3 (p_lv_s2 ad _ (.long x) lv) (fun ls' hl' => kk H locs ls' hl' hP hS)
  case lstore k =>
    obtain ⟨v, r, e1, e2, e3, e4⟩ := p_st2_inv hst
    obtain ⟨x, rfl⟩ := p_isL_of e2
    simp [p_okL, p_ln] at hlen
    subst hlen
    cases e4
    change st = _ at e1
    subst e1
    exact lv_lstore hx hb hd hl e3 (p_lv_s2 ad _ (.long x) lv) (fun ls' hl' => kk H locs ls' hl' hP hS)
  case iinc k n =>
    obtain ⟨x, e1, e2, e3⟩ := p_iinc_inv hst
    simp [p_okL, p_ln] at hlen
    subst hlen
    cases e3
    exact p_iincW hx hb hd hl e1 e2 (fun ls' hl' => kk H locs ls' hl' hP hS)
  case iconst n =>
    simp [p_okL, p_ln] at hlen
    subst hlen
    cases hst
    exact lv_iconst hx hb hd rfl (kk H locs ls hl hP hS)
  case bipush n =>
    simp [p_okL, p_ln] at hlen
    subst hlen
    cases hst
    exact lv_bipush hx hb hd rfl (kk H locs ls hl hP hS)
  case sipush n =>
    simp [p_okL, p_ln] at hlen
    subst hlen
    cases hst
    exact lv_sipush hx hb hd rfl (kk H locs ls hl hP hS)
  case lconst n =>
    simp [p_okL, p_ln] at hlen
    subst hlen
    cases hst
    exact lv_lconst hx hb hd rfl (kk H locs ls hl hP hS)
  case ldc n =>
    simp [p_okL, p_ln] at hlen
    subst hlen
    cases hst
    exact lv_ldc hx hb hown (hWs _ (p_word_in hw)) hd (kk H locs ls hl hP hS)
  case ldc_w n =>
    simp [p_okL, p_ln] at hlen
    subst hlen
    cases hst
    exact lv_ldcw hx hb hown (hWs _ (p_word_in hw)) hd (kk H locs ls hl hP hS)
  case ldc2_w n =>
    simp [p_okL, p_ln] at hlen
    subst hlen
    cases hst
    exact lv_ldc2 hx hb hown (hWs _ (p_word_in hw)) hd (kk H locs ls hl hP hS)
  case iadd =>
    obtain ⟨x, y, r, e1, e2⟩ := p_bI_inv hst
    simp [p_okL, p_ln] at hlen
    subst hlen
    cases e2
    change st = _ at e1
    subst e1
    exact lv_iadd hx hb hd (kk H locs ls hl hP hS)
  case isub =>
    obtain ⟨x, y, r, e1, e2⟩ := p_bI_inv hst
    simp [p_okL, p_ln] at hlen
    subst hlen
    cases e2
    change st = _ at e1
    subst e1
    exact lv_isub hx hb hd (kk H locs ls hl hP hS)
  case imul =>
    obtain ⟨x, y, r, e1, e2⟩ := p_bI_inv hst
    simp [p_okL, p_ln] at hlen
    subst hlen
    cases e2
    change st = _ at e1
    subst e1
    exact lv_imul hx hb hd (kk H locs ls hl hP hS)
  case iand =>
    obtain ⟨x, y, r, e1, e2⟩ := p_bI_inv hst
    simp [p_okL, p_ln] at hlen
    subst hlen
    cases e2
    change st = _ at e1
    subst e1
    exact lv_iand hx hb hd (kk H locs ls hl hP hS)
  case ior =>
    obtain ⟨x, y, r, e1, e2⟩ := p_bI_inv hst
    simp [p_okL, p_ln] at hlen
    subst hlen
    cases e2
    change st = _ at e1
    subst e1
    exact lv_ior hx hb hd (kk H locs ls hl hP hS)
  case ixor =>
    obtain ⟨x, y, r, e1, e2⟩ := p_bI_inv hst
    simp [p_okL, p_ln] at hlen
    subst hlen
    cases e2
    change st = _ at e1
    subst e1
    exact lv_ixor hx hb hd (kk H locs ls hl hP hS)
  case idiv =>
    obtain ⟨x, y, r, e1, e0, e2⟩ := p_bD_inv hst
    simp [p_okL, p_ln] at hlen
    subst hlen
    cases e2
    change st = _ at e1
    subst e1
    exact lv_idiv hx hb hd e0 (kk H locs ls hl hP hS)
  case irem =>
    obtain ⟨x, y, r, e1, e0, e2⟩ := p_bD_inv hst
    simp [p_okL, p_ln] at hlen
    subst hlen
    cases e2
    change st = _ at e1
    subst e1
    exact lv_irem hx hb hd e0 (kk H locs ls hl hP hS)
  case ishl =>
    obtain ⟨x, y, r, e1, e2⟩ := p_bI_inv hst
    simp [p_okL, p_ln] at hlen
    subst hlen
    cases e2
    change st = _ at e1
    subst e1
    exact lv_ishl hx hb hd (kk H locs ls hl hP hS)
  case ishr =>
    obtain ⟨x, y, r, e1, e2⟩ := p_bI_inv hst
    simp [p_okL, p_ln] at hlen
    subst hlen
    cases e2
    change st = _ at e1
    subst e1
    exact lv_ishr hx hb hd (kk H locs ls hl hP hS)
  case iushr =>
    obtain ⟨x, y, r, e1, e2⟩ := p_bI_inv hst
    simp [p_okL, p_ln] at hlen
    subst hlen
    cases e2
    change st = _ at e1
    subst e1
    exact lv_iushr hx hb hd rfl (kk H locs ls hl hP hS)
  case ladd =>
    obtain ⟨x, y, r, e1, e2⟩ := p_bL_inv hst
    simp [p_okL, p_ln] at hlen
    subst hlen
    cases e2
    change st = _ at e1
    subst e1
    exact lv_ladd hx hb hd (kk H locs ls hl hP hS)
  case lmul =>
    obtain ⟨x, y, r, e1, e2⟩ := p_bL_inv hst
    simp [p_okL, p_ln] at hlen
    subst hlen
    cases e2
    change st = _ at e1
    subst e1
    exact lv_lmul hx hb hd (kk H locs ls hl hP hS)
  case lcmp =>
    obtain ⟨x, y, r, e1, e2⟩ := p_cmpL_inv hst
    simp [p_okL, p_ln] at hlen
    subst hlen
    cases e2
    change st = _ at e1
    subst e1
    exact W.lcmp hx hb hd (kk H locs ls hl hP hS)
  case dup =>
    obtain ⟨v, r, e1, e0, e2⟩ := p_dup_inv hst
    simp [p_okL, p_ln] at hlen
    subst hlen
    cases e2
    change st = _ at e1
    subst e1
    exact lv_dup hx hb hd (by rw [p_v_cat]; exact e0) (kk H locs ls hl hP hS)
  case dup2 =>
    obtain ⟨v, w, r, e1, e0, e3, e2⟩ := p_dup2_inv hst
    simp [p_okL, p_ln] at hlen
    subst hlen
    cases e2
    change st = _ at e1
    subst e1
    exact lv_dup2_11 hx hb hd (by rw [p_v_cat]; exact e0) (by rw [p_v_cat]; exact e3) (kk H locs ls hl hP hS)
  case pop =>
    obtain ⟨v, r, e1, e0, e2⟩ := p_pop_inv hst
    simp [p_okL, p_ln] at hlen
    subst hlen
    cases e2
    change st = _ at e1
    subst e1
    exact lv_pop hx hb hd (by rw [p_v_cat]; exact e0) (kk H locs ls hl hP hS)
  case goto off =>
    simp [p_okL, p_ln] at hlen
    subst hlen
    cases hst
    simp only [p_okW, decide_eq_true_eq] at hw
    exact lv_goto hx hb hd hw (kk H locs ls hl hP hS)
  case ifCond cd off =>
    obtain ⟨x, r, e1, e2⟩ := p_if1_inv hst
    simp [p_okL, p_ln] at hlen
    subst hlen
    simp only [p_okW, decide_eq_true_eq] at hw
    change st = _ at e1
    subst e1
    rcases e2 with ⟨e2, e3⟩ | ⟨e2, e3⟩ <;> cases e3
    · cases cd
      · exact lv_if_eq hx hb hd hw (fun _ => kk H locs ls hl hP hS) (fun q => absurd e2 q)
      · exact lv_if_ne hx hb hd hw (fun _ => kk H locs ls hl hP hS) (fun q => absurd q e2)
      · exact lv_if_lt hx hb hd hw (fun _ => kk H locs ls hl hP hS) (fun q => absurd e2 q)
      · exact lv_if_ge hx hb hd hw (fun _ => kk H locs ls hl hP hS) (fun q => absurd e2 q)
      · exact lv_if_gt hx hb hd hw (fun _ => kk H locs ls hl hP hS) (fun q => absurd e2 q)
      · exact lv_if_le hx hb hd hw (fun _ => kk H locs ls hl hP hS) (fun q => absurd e2 q)
    · cases cd
      · exact lv_if_eq hx hb hd hw (fun q => absurd q e2) (fun _ => kk H locs ls hl hP hS)
      · exact lv_if_ne hx hb hd hw (fun q => absurd q e2) (fun _ => kk H locs ls hl hP hS)
      · exact lv_if_lt hx hb hd hw (fun q => absurd q e2) (fun _ => kk H locs ls hl hP hS)
      · exact lv_if_ge hx hb hd hw (fun q => absurd q e2) (fun _ => kk H locs ls hl hP hS)
      · exact lv_if_gt hx hb hd hw (fun q => absurd q e2) (fun _ => kk H locs ls hl hP hS)
      · exact lv_if_le hx hb hd hw (fun q => absurd q e2) (fun _ => kk H locs ls hl hP hS)
  case if_icmp cd off =>
    obtain ⟨x, y, r, e1, e2⟩ := p_if2_inv hst
    simp [p_okL, p_ln] at hlen
    subst hlen
    simp only [p_okW, decide_eq_true_eq] at hw
    change st = _ at e1
    subst e1
    rcases e2 with ⟨e2, e3⟩ | ⟨e2, e3⟩ <;> cases e3
    · cases cd
      · exact lv_icmp_eq hx hb hd hw (fun _ => kk H locs ls hl hP hS) (fun q => absurd e2 q)
      · exact lv_icmp_ne hx hb hd hw (fun _ => kk H locs ls hl hP hS) (fun q => absurd q e2)
      · exact lv_icmp_lt hx hb hd hw (fun _ => kk H locs ls hl hP hS) (fun q => absurd e2 q)
      · exact lv_icmp_ge hx hb hd hw (fun _ => kk H locs ls hl hP hS) (fun q => absurd e2 q)
      · exact lv_icmp_gt hx hb hd hw (fun _ => kk H locs ls hl hP hS) (fun q => absurd e2 q)
      · exact lv_icmp_le hx hb hd hw (fun _ => kk H locs ls hl hP hS) (fun q => absurd e2 q)
    · cases cd
      · exact lv_icmp_eq hx hb hd hw (fun q => absurd q e2) (fun _ => kk H locs ls hl hP hS)
      · exact lv_icmp_ne hx hb hd hw (fun q => absurd q e2) (fun _ => kk H locs ls hl hP hS)
      · exact lv_icmp_lt hx hb hd hw (fun q => absurd q e2) (fun _ => kk H locs ls hl hP hS)
      · exact lv_icmp_ge hx hb hd hw (fun q => absurd q e2) (fun _ => kk H locs ls hl hP hS)
      · exact lv_icmp_gt hx hb hd hw (fun q => absurd q e2) (fun _ => kk H locs ls hl hP hS)
      · exact lv_icmp_le hx hb hd hw (fun q => absurd q e2) (fun _ => kk H locs ls hl hP hS)
  case tableswitch dflt lo hi offs =>
    obtain ⟨x, r, tgt, e1, e2, e3⟩ := p_tsw_inv hst
    cases e2
    change st = _ at e1
    subst e1
    rcases e3 with ⟨e3, e4⟩ | ⟨e3, e4, off, e5, e6⟩
    · exact lv_tableOut hx hb hd e3 e4 (kk H locs ls hl hP hS)
    · exact lv_tableIn hx hb hd e3 e4 e5 e6 (kk H locs ls hl hP hS)
  case lookupswitch dflt prs =>
    obtain ⟨x, r, tgt, e1, e2, e3, e4⟩ := p_lsw_inv hst
    cases e2
    change st = _ at e1
    subst e1
    exact lv_lookup hx hb hd e3 rfl e4 (kk H locs ls hl hP hS)
  case getfield idx =>
    obtain ⟨q, r, fs, v, e1, e2, e3, e4, e5⟩ := p_get_inv hst
    simp [p_okL, p_ln] at hlen
    subst hlen
    cases e5
    change st = _ at e1
    subst e1
    change h q = _ at e3
    simp only [p_okW] at hw
    split at hw
    · rename_i C hCi
      simp only [Bool.and_eq_true, decide_eq_true_eq] at hw
      obtain ⟨c1, c2, c3⟩ := hC _ _ hCi
      refine va_get (D := D) (C := C.1.1) (T := C.1.2.1) (N := C.1.2.2) hx hb hWs c1 hown hK hP q (fs := fs.map (p_v ad)) ?_ (p_cl_at hCi) _ hw.1 (hWs _ (p_word_in hw.2)) (fun _ h9 => h9) (v := p_v ad v) ?_ hd (kk H locs ls hl hP hS)
      · rw [p_wm_get e2, e3]
        rfl
      · rw [List.getElem?_map, e4]
        rfl
    · cases hw
  case putfield idx =>
    simp only [p_step] at hst
    split at hst
    · rename_i C hCi
      obtain ⟨v, q, r, fs, e1, e2, e3, e4, e5, e6, e7⟩ := p_put_inv hst
      simp [p_okL, p_ln] at hlen
      subst hlen
      cases e7
      change st = _ at e1
      subst e1
      change h q = _ at e3
      simp only [p_okW, hCi, Bool.and_eq_true, decide_eq_true_eq, Bool.not_eq_true'] at hw
      obtain ⟨c1, c2, c3⟩ := hC _ _ hCi
      obtain ⟨f1, f2⟩ := p_fit (ad := ad) e5 e6
      refine va_put (D := D) (C := C.1.1) (T := C.1.2.1) (N := C.1.2.2) hx hb hWs c1 C.2 c2 c3 hown hK hP hD hS q (fs := fs.map (p_v ad)) ?_ (p_cl_at hCi) _ hw.1.1 (hWs _ (p_word_in hw.2)) (fun _ h9 => h9) hw.1.2 (v := p_v ad v) (c2 _ hw.1.1) f1 f2 (by rw [List.length_map]; exact e4) hd (fun H1 locs1 hP1 hD1 hS1 => kk H1 locs1 ls hl ?_ hS1)
      · rw [p_wm_get e2, e3]
        rfl
      · rw [← p_wm_set]
        have e9 : p_e kc ad (eO a.1 (fs.set a.2.1 v)) = .inr (a.1, (fs.map (p_v ad)).set a.2.1 (p_v ad v)) := by
          show (Sum.inr (a.1, (fs.set a.2.1 v).map (p_v ad)) : va_E) = _
          rw [List.map_set]
        rw [e9]
        exact hP1
    · cases hst
  case iaload =>
    obtain ⟨j, q, r, n, f, e1, e2, e3, e4, e5⟩ := p_iald_inv hst
    simp [p_okL, p_ln] at hlen
    subst hlen
    cases e5
    change st = _ at e1
    subst e1
    change h q = _ at e3
    exact va_iald (D := D) hx hb hK hP q 0 (by rw [p_wm_get e2, e3]; rfl) rfl e4 hd (kk H locs ls hl hP hS)
  case laload =>
    obtain ⟨j, q, r, n, f, e1, e2, e3, e4, e5⟩ := p_lald_inv hst
    simp [p_okL, p_ln] at hlen
    subst hlen
    cases e5
    change st = _ at e1
    subst e1
    change h q = _ at e3
    exact va_lald (D := D) hx hb hK hP q 1 (by rw [p_wm_get e2, e3]; rfl) rfl e4 hd (kk H locs ls hl hP hS)
  case aaload =>
    obtain ⟨j, q, r, n, f, b, e1, e2, e3, e4, e6, e5⟩ := p_aald_inv hst
    simp [p_okL, p_ln] at hlen
    subst hlen
    cases e5
    change st = _ at e1
    subst e1
    change h q = _ at e3
    refine p_aaldW (D := D) hx hb hK hP q 2 (by rw [p_wm_get e2, e3]; rfl) rfl e4 hd ?_
    rw [e6]
    exact kk H locs ls hl hP hS
  case iastore =>
    obtain ⟨x, j, q, r, n, f, e1, e2, e3, e4, e5⟩ := p_iast_inv hst
    simp [p_okL, p_ln] at hlen
    subst hlen
    cases e5
    change st = _ at e1
    subst e1
    change h q = _ at e3
    refine va_iast (D := D) hx hb hK hP hD hS q 0 (by rw [p_wm_get e2, e3]; rfl) rfl e4 hd (fun H1 locs1 hP1 hD1 hS1 => kk H1 locs1 ls hl ?_ hS1)
    rw [← p_wm_set]
    exact hP1
  case lastore =>
    obtain ⟨x, j, q, r, n, f, e1, e2, e3, e4, e5⟩ := p_last_inv hst
    simp [p_okL, p_ln] at hlen
    subst hlen
    cases e5
    change st = _ at e1
    subst e1
    change h q = _ at e3
    refine va_last (D := D) hx hb hK hP hD hS q 1 (by rw [p_wm_get e2, e3]; rfl) rfl e4 hd (fun H1 locs1 hP1 hD1 hS1 => kk H1 locs1 ls hl ?_ hS1)
    rw [← p_wm_set]
    exact hP1
  case arraylength =>
    obtain ⟨q, r, n, e1, e2, e3, e4⟩ := p_alen_inv hst
    simp [p_okL, p_ln] at hlen
    subst hlen
    cases e4
    change st = _ at e1
    subst e1
    change p_len (h q) = _ at e3
    have hg := p_wm_get (k := kc) (ad := ad) (h := h) e2
    generalize h q = y at hg e3
    rcases y with ⟨n', f⟩ | ⟨n', f⟩ | ⟨n', f⟩ | ⟨n', f⟩
    · cases e3
      exact va_alen (D := D) hx hb hK hP q 0 hg (rfl : (p_tys kc)[0]? = some (kc.1, .int)) rfl hd (kk H locs ls hl hP hS)
    · cases e3
      exact va_alen (D := D) hx hb hK hP q 1 hg (rfl : (p_tys kc)[1]? = some (kc.2.1, .long)) rfl hd (kk H locs ls hl hP hS)
    · cases e3
      exact va_alen (D := D) hx hb hK hP q 2 hg (rfl : (p_tys kc)[2]? = some (kc.2.2, .array .long)) rfl hd (kk H locs ls hl hP hS)
    · cases e3
end PSM
end
section
/-! a run of the pure machine is a run of the machine: every method of the table has its contract -/
def p_B (D : va_G) (kc : ClassId × ClassId × ClassId) (ad : Nat → Nat) (N : Nat) (Cs : List pCi) (h : pH) (U : State) : Prop := va_P D (Cs.map Prod.fst) (p_wm kc ad N h) U.heap ∧ va_K D (Cs.map Prod.fst) (p_tys kc) U ∧ p_nest U
def p_Q (D : va_G) (kc : ClassId × ClassId × ClassId) (ad : Nat → Nat) (N : Nat) (Cs : List pCi) (r : Option Value) (h : pH) : Array Value → State → Outcome → State → Prop := fun _ st oc t => oc = .returned (r.map (p_v ad)) ∧ p_B D kc ad N Cs h t ∧ va_F (p_A ad N) st t
theorem p_ret_inv {rt : Option FieldType} {i : Instr} {s : pS} {r : Option Value} {h' : pH} (h : p_ret rt i s = some (r, h')) : h' = s.1 ∧
    ((i = .ireturn ∧ ∃ t v, rt = some t ∧ s.2.2.2 = [.int v] ∧ narrow t (.int v) = .int v ∧ r = some (.int v)) ∨ (i = .lreturn ∧ ∃ v, rt = some .long ∧ s.2.2.2 = [.long v] ∧ r = some (.long v)) ∨
      (i = .areturn ∧ ∃ n v, rt = some (.object n) ∧ s.2.2.2 = [.ref v] ∧ r = some (.ref v)) ∨ (i = .return_ ∧ rt = none ∧ s.2.2.2 = [] ∧ r = none)) := by
  unfold p_ret at h
  split at h
  · rename_i t v hs
    split at h
    · rename_i hn
      cases h
      exact ⟨rfl, Or.inl ⟨rfl, t, v, rfl, hs, hn, rfl⟩⟩
    · cases h
  · rename_i v hs
    cases h
    exact ⟨rfl, Or.inr (Or.inl ⟨rfl, v, rfl, hs, rfl⟩)⟩
  · rename_i n v hs
    cases h
    exact ⟨rfl, Or.inr (Or.inr (Or.inl ⟨rfl, n, v, rfl, hs, rfl⟩))⟩
  · rename_i hs
    cases h
    exact ⟨rfl, Or.inr (Or.inr (Or.inr ⟨rfl, rfl, hs, rfl⟩))⟩
  · cases h
section PRW
variable {p : Program} {l : Launch} {e : Env} {R : Room} {s : State} {m : MethodId} {args : Array Value} {below : List Frame} {meth : Method} {c : Code} {Q : State → Prop} {H : Heap} {locs : List Loc}
variable {D : va_G} {kc : ClassId × ClassId × ClassId} {ad : Nat → Nat} {N : Nat} {Cs : List pCi} {Ms : List pM} {M : pM}
theorem p_blind {vs : List Value} {h : pH} : FrameBlind (va_Pc (vs.map (p_v ad)) (p_B D kc ad N Cs h)) := by
  intro a U g mk ⟨q1, q2, q3, q4⟩
  exact ⟨q1, q2, va_K.moved (u := U) (U := U.calling g mk a) (Vm.Alike.refl U.vm) q3, p_nest.same (u := U) (U := U.calling g mk a) rfl q4⟩
theorem p_cont {pc : Nat} {ls : Array Slot} {st0 rest : List Value} {a : Array Value} {r : Option Value} {h1 : pH} (hr : va_Run p l e R s m args below meth c H locs 0 0 0 0 (F0 m pc ls st0) rest (p_Q D kc ad N Cs r h1 a) (p_A ad N)) (hS : va_S (p_A ad N) s.heap H locs)
    (kk : ∀ (H1 : Heap) (locs1 : List Loc), va_P D (Cs.map Prod.fst) (p_wm kc ad N h1) H1 → va_S (p_A ad N) s.heap H1 locs1 → W p l e R s m args below meth c H1 locs1 0 0 Q (F0 m (pc + 3) ls ((r.map (p_v ad)).toList ++ rest))) : W p l e R s m args below meth c H locs 0 0 Q (F0 m pc ls st0) := by
  intro T hT X
  obtain ⟨v, st₀, t, T', L, h0, X', hL, e1, e2, ⟨hv, hB, hz, hk⟩, st⟩ := hr T hT X
  cases hv
  rw [h0] at hz hk
  obtain ⟨t2, a1, b1⟩ := kk T'.heap (locs ++ L) (by rw [e1]; exact hB.1)
    ⟨Nat.le_trans hS.1 (by rw [e1]; exact hz), fun q h1 h2 => by rw [e1, hk q (Nat.lt_of_lt_of_le h1 hS.1) h2]; exact hS.2.1 q h1 h2, fun q hq => by
      rcases List.mem_append.mp hq with h | h
      · exact hS.2.2 q h
      · exact hL q h⟩ T' rfl X'
  exact ⟨t2, st t2 a1, b1⟩
theorem p_retW (cx : p_Cx p s m args meth c D kc Cs M) {pc len : Nat} {i : Instr} (hd : decode M.2.1 pc = .ok (i, len)) (hlen : p_okL i len = true) {h h' : pH} {lv : pLv} {st : List Value} {r : Option Value} (hret : p_ret M.2.2.2.1 i (h, pc, lv, st) = some (r, h')) {ls : Array Slot}
    (hP : va_P D (Cs.map Prod.fst) (p_wm kc ad N h) H) (hS : va_S (p_A ad N) s.heap H locs) : W p l e R s m args below meth c H locs 0 0 (MQ below (p_Q D kc ad N Cs r h') args s 0 0 (p_A ad N)) (F0 m pc ls (st.map (p_v ad))) := by
  obtain ⟨hx, hb, hr, hml, hts, hown, hlocks, hK, hN⟩ := cx
  obtain ⟨e0, hh⟩ := p_ret_inv hret
  have e0 : h' = h := e0
  cases e0
  have post : ∀ t : State, t.heap = H → s.WarmedH t.vm → p_B D kc ad N Cs h t ∧ va_F (p_A ad N) s t := fun t ht hW => ⟨⟨by rw [ht]; exact hP, va_K.moved hW.alike hK, p_nest.warm hW hN⟩, hS.F ht⟩
  rcases hh with ⟨rfl, t, v, e1, e2, e3, rfl⟩ | ⟨rfl, v, e1, e2, rfl⟩ | ⟨rfl, n, v, e1, e2, rfl⟩ | ⟨rfl, e1, e2, rfl⟩
  · simp [p_okL, p_ln] at hlen
    subst hlen
    change st = _ at e2
    subst e2
    exact W.zret hx hb (hr.trans e1) e3 (fun t ht hW => ⟨rfl, post t ht hW⟩) hS.2.2 hd hlocks
  · simp [p_okL, p_ln] at hlen
    subst hlen
    change st = _ at e2
    subst e2
    exact W.lret hx hb (hr.trans e1) (fun t ht hW => ⟨rfl, post t ht hW⟩) hS.2.2 hd hlocks
  · simp [p_okL, p_ln] at hlen
    subst hlen
    change st = _ at e2
    subst e2
    exact W.aret hx hb (hr.trans e1) (Or.inl ⟨n, rfl⟩) (Or.inr ⟨_, rfl⟩) (fun t ht hW => ⟨rfl, post t ht hW⟩) hS.2.2 hd hlocks
  · simp [p_okL, p_ln] at hlen
    subst hlen
    change st = _ at e2
    subst e2
    exact W.vret hx hb (hr.trans e1) (fun t ht hW => ⟨rfl, post t ht hW⟩) hS.2.2 hd hlocks
theorem p_copyW (cx : p_Cx p s m args meth c D kc Cs M) (inj : ∀ i j, i < N → j < N → ad i = ad j → i = j) {d pc len idx : Nat} {a : Nat × Nat × Nat} {ps : List Nat} (hc : a.2.2 = 2) (ok : p_okI Cs Ms M (pc, .invokestatic idx, len, a, ps) = true) {h h1 : pH} {lv lv1 : pLv} {st st1 : List Value} {pc1 : Nat}
    (hst : p_copy N (h, pc, lv, st) = some (h1, pc1, lv1, st1)) {ls : Array Slot} (hl : lv_has ls M.2.2.1 (p_lv ad lv)) (hP : va_P D (Cs.map Prod.fst) (p_wm kc ad N h) H) (hS : va_S (p_A ad N) s.heap H locs)
    (kk : ∀ (H1 : Heap) (locs1 : List Loc), lv_has ls M.2.2.1 (p_lv ad lv1) → va_P D (Cs.map Prod.fst) (p_wm kc ad N h1) H1 → va_S (p_A ad N) s.heap H1 locs1 → W p l e (p_rm (d + 1)) s m args below meth c H1 locs1 0 0 Q (F0 m pc1 ls (st1.map (p_v ad)))) :
    W p l e (p_rm (d + 1)) s m args below meth c H locs 0 0 Q (F0 m pc ls (st.map (p_v ad))) := by
  obtain ⟨hx, hb, hr, hml, hts, hown, hlocks, hK, hN⟩ := cx
  simp only [p_okI, Bool.and_eq_true, decide_eq_true_eq] at ok
  obtain ⟨⟨hd, hlen⟩, hw⟩ := ok
  have hD := p_wm_D (k := kc) inj h
  have hWs : ∀ w ∈ p_W, w.before args s = true := fun w h => hts w (List.mem_cons_of_mem _ h)
  simp [p_okL, p_ln] at hlen
  subst hlen
  simp only [p_okW, hc, if_true, Bool.and_eq_true] at hw
  obtain ⟨⟨⟨w1, w2⟩, w3⟩, w4⟩ := hw
  obtain ⟨n, dp, b, sp, q, r, n0, n1, f, g, e1, e2, e3, e4, e5, c1, c2, c3, c4, c5, c6, e6⟩ := p_copy_inv hst
  cases e6
  change st = _ at e1
  subst e1
  change h q = _ at e4
  change h b = _ at e5
  refine va_copyi (D := D) hx hb (by rw [hml]; exact hl.1.symm) hown (hWs _ (p_word_in w1)) (hWs _ (p_word_in w2)) (hWs _ (p_word_in w3)) (hWs _ (p_word_in w4)) hK hP hD hS q b 0 0 (by rw [p_wm_get e2, e4]; rfl) (by rw [p_wm_get e3, e5]; rfl) rfl rfl rfl c1 c2 c3 c4 c5 (fun _ _ => rfl) (Nat.le_add_left 1 d) ?_ hd (fun H1 locs1 hP1 hD1 hS1 => kk H1 locs1 hl ?_ hS1)
  · rw [p_cats]
    show _ + (7 + 11) ≤ 30 * (d + 1)
    omega
  · rw [← p_wm_set]
    exact hP1
def p_Run (l : Launch) (D : va_G) (kc : ClassId × ClassId × ClassId) (ad : Nat → Nat) (N : Nat) (Cs : List pCi) (Ms : List pM) (n : Nat) : Prop :=
  ∀ (d : Nat) (M : pM), M ∈ Ms → ∀ (p : Program) (e : Env) (s : State) (m : MethodId) (args : Array Value) (below : List Frame) (meth : Method) (c : Code), p_Cx p s m args meth c D kc Cs M → ∀ (h h' : pH) (pc : Nat) (lv : pLv) (st : List Value) (r : Option Value), p_run N Cs Ms n d M (h, pc, lv, st) = some (r, h') →
    ∀ (ls : Array Slot) (H : Heap) (locs : List Loc), lv_has ls M.2.2.1 (p_lv ad lv) → va_P D (Cs.map Prod.fst) (p_wm kc ad N h) H → va_S (p_A ad N) s.heap H locs → W p l e (p_rm d) s m args below meth c H locs 0 0 (MQ below (p_Q D kc ad N Cs r h') args s 0 0 (p_A ad N)) (F0 m pc ls (st.map (p_v ad)))
theorem p_met_of {n : Nat} (ih : p_Run l D kc ad N Cs Ms n) (hM : ∀ M ∈ Ms, p_okM Cs Ms M) (d : Nat) (M : pM) (hm : M ∈ Ms) (h h' : pH) (vs : List Value) (r : Option Value) (hrun : p_run N Cs Ms n d M (h, 0, lv_args 0 vs, []) = some (r, h')) (hn : (lg_sl vs).length ≤ M.2.2.1) :
    Met l M.1 (p_ws M) (p_rm d) (va_Pc (vs.map (p_v ad)) (p_B D kc ad N Cs h)) (p_Q D kc ad N Cs r h') 0 0 (p_A ad N) := by
  refine Met.ofW (cc := M.2.1) (maxL := M.2.2.1) (ret := M.2.2.2.1) (hM M hm).2.2.1 rfl ?_
  intro p e s m args below meth c s₁ B hml hv
  obtain ⟨rfl, hP, hK, hN⟩ := hv
  have hl := lv_entry (vs.map (p_v ad)) (n := M.2.2.1) (by rw [p_sl_len]; exact hn)
  rw [lg_entry_eq]
  rw [p_lv_args] at hl
  exact ih d M hm p e s m _ below meth c ⟨B.exec, B.bytes, B.returns, hml, atoms_spec (ws := p_ws M) B.pre, findClass_of_methodNamed B.named, B.notSynchronized, hK, hN⟩ h h' 0 _ [] r hrun _ _ _ hl hP va_S.rf
theorem p_args_V {idx na ci : Nat} {h : pH} {pc : Nat} {lv : pLv} {st vs rest : List Value} (hh : p_args N (.invokevirtual idx) na ci (h, pc, lv, st) = some (vs, rest)) : ∃ r fs, st.drop na = .ref r :: rest ∧ na ≤ st.length ∧ r < N ∧ h r = eO ci fs ∧ (rest.map fun v => v.category).sum ≤ 8 ∧ vs = .ref r :: (st.take na).reverse := by
  simp only [p_args] at hh
  split at hh
  · rename_i r rest' hv
    split at hh
    · rename_i hc
      split at hh
      · rename_i c fs he
        split at hh
        · rename_i e0
          subst e0
          cases hh
          exact ⟨r, fs, hv, hc.2.1, hc.1, he, hc.2.2, rfl⟩
        · cases hh
      · cases hh
    · cases hh
  · cases hh
theorem p_args_S {idx na ci : Nat} {h : pH} {pc : Nat} {lv : pLv} {st vs rest : List Value} (hh : p_args N (.invokestatic idx) na ci (h, pc, lv, st) = some (vs, rest)) : st.drop na = rest ∧ na ≤ st.length ∧ (rest.map fun v => v.category).sum ≤ 8 ∧ vs = (st.take na).reverse := by
  simp only [p_args] at hh
  split at hh
  · rename_i hc
    cases hh
    exact ⟨rfl, hc.1, hc.2, rfl⟩
  · cases hh
theorem p_nested (st : List Value) (na : Nat) : st.map (p_v ad) = (((st.take na).reverse).map (p_v ad)).reverse ++ (st.drop na).map (p_v ad) := by
  rw [List.map_reverse, List.reverse_reverse, ← List.map_append, List.take_append_drop]
set_option maxHeartbeats 4000000 in
theorem p_callW (cx : p_Cx p s m args meth c D kc Cs M) {d pc len : Nat} {i : Instr} {a1 a2 a3 : Nat} (hi : p_kd i = 2) (hcp : p_isCp i a3 = false) {ps : List Nat} (ok : p_okI Cs Ms M (pc, i, len, (a1, a2, a3), ps) = true) {h h1 : pH} {lv : pLv} {st vs rest : List Value} {r : Option Value} {M' : pM}
    (ha : p_args N i a2 a3 (h, pc, lv, st) = some (vs, rest)) (hM' : Ms[a1]? = some M') (okM' : p_okM Cs Ms M') (hmet : Met l M'.1 (p_ws M') (p_rm d) (va_Pc (vs.map (p_v ad)) (p_B D kc ad N Cs h)) (p_Q D kc ad N Cs r h1) 0 0 (p_A ad N))
    {ls : Array Slot} (hl : lv_has ls M.2.2.1 (p_lv ad lv)) (hP : va_P D (Cs.map Prod.fst) (p_wm kc ad N h) H) (hS : va_S (p_A ad N) s.heap H locs)
    (kk : ∀ (H1 : Heap) (locs1 : List Loc), va_P D (Cs.map Prod.fst) (p_wm kc ad N h1) H1 → va_S (p_A ad N) s.heap H1 locs1 → W p l e (p_rm (d + 1)) s m args below meth c H1 locs1 0 0 Q (F0 m (pc + 3) ls ((r.toList ++ rest).map (p_v ad)))) :
    W p l e (p_rm (d + 1)) s m args below meth c H locs 0 0 Q (F0 m pc ls (st.map (p_v ad))) := by
  obtain ⟨hx, hb, hr, hml, hts, hown, hlocks, hK, hN⟩ := cx
  simp only [p_okI, Bool.and_eq_true, decide_eq_true_eq] at ok
  obtain ⟨⟨hd, hlen⟩, hw⟩ := ok
  have hWs : ∀ w ∈ p_W, w.before args s = true := fun w h => hts w (List.mem_cons_of_mem _ h)
  obtain ⟨okI, okc, okn, okm⟩ := okM'
  have hroom : (p_rm d).frames + 1 ≤ (p_rm (d + 1)).frames ∧ 8 + (M'.2.2.1 + 11) + (p_rm d).locals ≤ (p_rm (d + 1)).locals := by
    refine ⟨Nat.le_refl _, ?_⟩
    show 8 + (M'.2.2.1 + 11) + 30 * d ≤ 30 * (d + 1)
    omega
  have ekk : ∀ (H1 : Heap) (locs1 : List Loc), va_P D (Cs.map Prod.fst) (p_wm kc ad N h1) H1 → va_S (p_A ad N) s.heap H1 locs1 → W p l e (p_rm (d + 1)) s m args below meth c H1 locs1 0 0 Q (F0 m (pc + 3) ls ((r.map (p_v ad)).toList ++ rest.map (p_v ad))) := fun H1 locs1 q1 q2 => by
    have := kk H1 locs1 q1 q2
    rw [List.map_append] at this
    have e : (r.map (p_v ad)).toList = r.toList.map (p_v ad) := by cases r <;> rfl
    rw [e]
    exact this
  cases i <;> first | (exfalso; simp [p_kd] at hi; done) | skip
  case invokevirtual idx =>
    simp [p_okL, p_ln] at hlen
    subst hlen
    simp only [p_okW, hM', Bool.and_eq_true, decide_eq_true_eq] at hw
    obtain ⟨⟨⟨⟨⟨y0, w1⟩, w2⟩, w3⟩, w4⟩, hcls⟩ := hw
    simp only [p_okY, Bool.and_eq_true, decide_eq_true_eq] at y0
    obtain ⟨⟨y1, y2⟩, y3⟩ := y0
    obtain ⟨q, fs, e1, e2, e3, e4, e5, rfl⟩ := p_args_V ha
    have hcat := e5
    rw [← p_cats ad] at hcat
    have cb := callB_of (R := p_rm (d + 1)) (mc := 0) (ms := 0) (own := M.1.cls) (index := idx) (ws' := p_W) (bytes := M'.2.1) (maxL := M'.2.2.1) (ret := M'.2.2.2.1) a2 hts (p_ws_good (M := M) okc) rfl (rm := p_rm d) rfl rfl (hWs _ (p_word_in w4)) (hWs _ (p_word_in w1)) ⟨y1, y2, y3⟩ hroom
    obtain ⟨C, hC1, hC2⟩ : ∃ C, Cs[a3]? = some C ∧ C.1.1 = M'.1.cls := by
      cases hh : Cs[a3]? with
      | none => rw [hh] at hcls; cases hcls
      | some C => rw [hh] at hcls; exact ⟨C, rfl, Option.some.inj hcls⟩
    have hrecv := va_recv (D := D) hK hP (p_cl_at hC1) (q0 := q) (a := ad q) (fs := fs.map (p_v ad)) (by rw [p_wm_get e3, e4]; rfl)
    rw [hC2] at hrecv
    refine p_cont (va_runV (As := ((st.take a2).reverse).map (p_v ad)) (rest := rest.map (p_v ad)) ⟨hx, hb, hml, hown, hts⟩ hmet ⟨cb, hWs _ (p_word_in w2), hWs _ (p_word_in w3)⟩ ⟨p_blind, hrecv, fun U hU hW => ⟨rfl, by rw [hU]; exact hP, va_K.moved hW.alike hK, p_nest.warm hW hN⟩⟩ rfl ?_ hl.1 ?_ (lv_room hcat) hd ⟨Nat.zero_le _, Nat.zero_le _⟩) hS ekk
    · simp
      omega
    · show st.map (p_v ad) = _
      rw [p_nested st a2, e1]
      rfl
  case invokestatic idx =>
    simp [p_okL, p_ln] at hlen
    subst hlen
    have hc2 : ¬ a3 = 2 := by simpa [p_isCp] using hcp
    simp only [p_okW, hM', if_neg hc2, Bool.and_eq_true, decide_eq_true_eq] at hw
    obtain ⟨⟨⟨y0, w2⟩, w4⟩, w1⟩ := hw
    simp only [p_okY, Bool.and_eq_true, decide_eq_true_eq] at y0
    obtain ⟨⟨y1, y2⟩, y3⟩ := y0
    obtain ⟨e1, e2, e5, rfl⟩ := p_args_S ha
    have hcat := e5
    rw [← p_cats ad] at hcat
    have hstk : st.map (p_v ad) = (((st.take a2).reverse).map (p_v ad)).reverse ++ rest.map (p_v ad) := by
      rw [p_nested st a2, e1]
    have hlen2 : (((st.take a2).reverse).map (p_v ad)).length = a2 := by
      simp
      omega
    have hpre : PreS s H (va_Pc (((st.take a2).reverse).map (p_v ad)) (p_B D kc ad N Cs h)) (((st.take a2).reverse).map (p_v ad)) := ⟨p_blind, fun U hU hW => ⟨rfl, by rw [hU]; exact hP, va_K.moved hW.alike hK, p_nest.warm hW hN⟩⟩
    by_cases h1 : a3 = 1
    · rw [if_pos h1] at w1
      simp only [decide_eq_true_eq] at w1
      have cb := va_cnB (R := p_rm (d + 1)) (mc := 0) (ms := 0) (own := M.1.cls) (host := "LabelTree") (index := idx) (ws' := p_W) (bytes := M'.2.1) (maxL := M'.2.2.1) (ret := M'.2.2.2.1) a2 hts (p_ws_good (M := M) okc) rfl (rm := p_rm d) rfl rfl (hN _ (List.mem_of_getElem? w1) rfl) (hWs _ (p_word_in w4)) ⟨y1, y2, y3⟩ hroom
      exact p_cont (va_runSN (rest := rest.map (p_v ad)) ⟨hx, hb, hml, hown, hts⟩ hmet ⟨cb, hWs _ (p_word_in w2), trivial⟩ hpre rfl hlen2 hl.1 hstk (lv_room hcat) hd ⟨Nat.zero_le _, Nat.zero_le _⟩) hS ekk
    · rw [if_neg h1] at w1
      have cb := callB_of (R := p_rm (d + 1)) (mc := 0) (ms := 0) (own := M.1.cls) (index := idx) (ws' := p_W) (bytes := M'.2.1) (maxL := M'.2.2.1) (ret := M'.2.2.2.1) a2 hts (p_ws_good (M := M) okc) rfl (rm := p_rm d) rfl rfl (hWs _ (p_word_in w4)) (hWs _ (p_word_in w1)) ⟨y1, y2, y3⟩ hroom
      exact p_cont (va_runS (rest := rest.map (p_v ad)) ⟨hx, hb, hml, hown, hts⟩ hmet ⟨cb, hWs _ (p_word_in w2)⟩ hpre rfl hlen2 hl.1 hstk (lv_room hcat) hd ⟨Nat.zero_le _, Nat.zero_le _⟩) hS ekk
theorem p_lookI {pc : Nat} {x : Instr × Nat × (Nat × Nat × Nat) × List Nat} : ∀ {t : List pI}, List.lookup pc t = some x → (pc, x) ∈ t
  | [], h => by simp at h
  | (j, w) :: r, h => by
    rw [List.lookup_cons] at h
    by_cases e : pc = j
    · subst e
      simp at h
      subst h
      exact List.mem_cons_self
    · have e2 : (pc == j) = false := by simpa using e
      rw [e2] at h
      exact List.mem_cons_of_mem _ (p_lookI h)
set_option maxHeartbeats 4000000 in
theorem p_runW (hC : p_okC Cs) (hM : ∀ M ∈ Ms, p_okM Cs Ms M) (inj : ∀ i j, i < N → j < N → ad i = ad j → i = j) : ∀ n, p_Run l D kc ad N Cs Ms n
  | 0 => fun d M hm p e s m args below meth c cx h h' pc lv st r hrun => by simp [p_run] at hrun
  | n + 1 => fun d M hm p e s m args below meth c cx h h' pc lv st r hrun ls H locs hl hP hS => by
    have ih := p_runW hC hM inj n
    simp only [p_run] at hrun
    split at hrun
    · cases hrun
    · rename_i i len a ps hlook
      have ok := (hM M hm).1 _ (p_lookI hlook)
      split at hrun
      · split at hrun
        · rename_i s' hst
          obtain ⟨h1, pc1, lv1, st1⟩ := s'
          exact p_stepW cx hC inj ok hst hl hP hS (fun H1 locs1 ls1 hl1 hP1 hS1 => ih d M hm p e s m args below meth c cx h1 h' pc1 lv1 st1 r hrun ls1 H1 locs1 hl1 hP1 hS1)
        · cases hrun
      · simp only [p_okI, Bool.and_eq_true, decide_eq_true_eq] at ok
        exact p_retW cx ok.1.1 ok.1.2 hrun hP hS
      · rename_i hk0 hk1
        have hkd : p_kd i = 2 := by
          cases i <;> first | rfl | (exfalso; simp [p_kd] at hk0; done) | (exfalso; simp [p_kd] at hk1; done)
        split at hrun
        · cases hrun
        · rename_i d'
          split at hrun
          · rename_i hcp
            split at hrun
            · rename_i s' hst
              obtain ⟨h1, pc1, lv1, st1⟩ := s'
              cases i <;> first | (exfalso; simp [p_isCp] at hcp; done) | skip
              exact p_copyW cx inj (by simpa [p_isCp] using hcp) ok hst hl hP hS (fun H1 locs1 hl1 hP1 hS1 => ih (d' + 1) M hm p e s m args below meth c cx h1 h' pc1 lv1 st1 r hrun ls H1 locs1 hl1 hP1 hS1)
            · cases hrun
          · rename_i hcp
            split at hrun
            · rename_i vs rest hargs
              split at hrun
              · rename_i M' hM'
                split at hrun
                · rename_i hlen
                  split at hrun
                  · rename_i r1 h1 hcall
                    have hm' : M' ∈ Ms := List.mem_of_getElem? hM'
                    exact p_callW cx hkd (by simpa using hcp) ok hargs hM' (hM M' hm') (p_met_of ih hM d' M' hm' h h1 vs r1 hcall hlen) hl hP hS (fun H1 locs1 hP1 hS1 => ih (d' + 1) M hm p e s m args below meth c cx h1 h' (pc + 3) lv _ r hrun ls H1 locs1 hl hP1 hS1)
                  · cases hrun
                · cases hrun
              · cases hrun
            · cases hrun
end PRW
end
