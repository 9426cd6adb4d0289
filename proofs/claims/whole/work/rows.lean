section
/-- a private method of a class that the tables say can be made, by its rows of tables_1 -/
def lw_okq (q : MethodName × Nat) : Prop := (q.1.cls ≠ "java/lang/invoke/MethodHandle" ∧ q.1.cls ≠ "java/lang/invoke/VarHandle") ∧ Cond.instantiable q.1.cls q.2 ∈ tables_1 ∧ Cond.privateMethod q.1 ∈ tables_1 ∧ Cond.instanceMethod q.1 ∈ tables_1
theorem lw_p0 : lw_okq (⟨"LabelTree$TreeReader", "readNumbers", "(LLabelTree$Letters;I)Z"⟩, 3) := ⟨⟨by decide +kernel, by decide +kernel⟩, List.mem_of_getElem? (i := 43) (by decide +kernel), List.mem_of_getElem? (i := 284) (by decide +kernel), List.mem_of_getElem? (i := 285) (by decide +kernel)⟩
theorem lw_p1 : lw_okq (⟨"LabelTree$TreeReader", "readNumber", "(LLabelTree$Letters;)I"⟩, 3) := ⟨⟨by decide +kernel, by decide +kernel⟩, List.mem_of_getElem? (i := 43) (by decide +kernel), List.mem_of_getElem? (i := 288) (by decide +kernel), List.mem_of_getElem? (i := 289) (by decide +kernel)⟩
theorem lw_p2 : lw_okq (⟨"LabelTree$TreeReader", "apply", "(ILLabelTree$Tree;)Z"⟩, 3) := ⟨⟨by decide +kernel, by decide +kernel⟩, List.mem_of_getElem? (i := 43) (by decide +kernel), List.mem_of_getElem? (i := 295) (by decide +kernel), List.mem_of_getElem? (i := 296) (by decide +kernel)⟩
theorem lw_p3 : lw_okq (⟨"LabelTree$TreeReader", "applyKind", "(LLabelTree$Tree;)Z"⟩, 3) := ⟨⟨by decide +kernel, by decide +kernel⟩, List.mem_of_getElem? (i := 43) (by decide +kernel), List.mem_of_getElem? (i := 299) (by decide +kernel), List.mem_of_getElem? (i := 300) (by decide +kernel)⟩
theorem lw_p4 : lw_okq (⟨"LabelTree$TreeReader", "applyRoot", "(LLabelTree$Tree;)Z"⟩, 3) := ⟨⟨by decide +kernel, by decide +kernel⟩, List.mem_of_getElem? (i := 43) (by decide +kernel), List.mem_of_getElem? (i := 311) (by decide +kernel), List.mem_of_getElem? (i := 312) (by decide +kernel)⟩
theorem lw_p5 : lw_okq (⟨"LabelTree$TreeReader", "applyNode", "(LLabelTree$Tree;)Z"⟩, 3) := ⟨⟨by decide +kernel, by decide +kernel⟩, List.mem_of_getElem? (i := 43) (by decide +kernel), List.mem_of_getElem? (i := 326) (by decide +kernel), List.mem_of_getElem? (i := 327) (by decide +kernel)⟩
theorem lw_p6 : lw_okq (⟨"LabelTree", "settle", "()V"⟩, 14) := ⟨⟨by decide +kernel, by decide +kernel⟩, List.mem_of_getElem? (i := 21) (by decide +kernel), List.mem_of_getElem? (i := 374) (by decide +kernel), List.mem_of_getElem? (i := 375) (by decide +kernel)⟩
theorem lw_p7 : lw_okq (⟨"LabelTree$Order", "take", "(III)V"⟩, 8) := ⟨⟨by decide +kernel, by decide +kernel⟩, List.mem_of_getElem? (i := 106) (by decide +kernel), List.mem_of_getElem? (i := 383) (by decide +kernel), List.mem_of_getElem? (i := 384) (by decide +kernel)⟩
theorem lw_p8 : lw_okq (⟨"LabelTree$Order", "isRank", "(I)Z"⟩, 8) := ⟨⟨by decide +kernel, by decide +kernel⟩, List.mem_of_getElem? (i := 106) (by decide +kernel), List.mem_of_getElem? (i := 391) (by decide +kernel), List.mem_of_getElem? (i := 392) (by decide +kernel)⟩
theorem lw_p9 : lw_okq (⟨"LabelTree$Order", "takeFollower", "(LLabelTree$Tree;I)V"⟩, 8) := ⟨⟨by decide +kernel, by decide +kernel⟩, List.mem_of_getElem? (i := 106) (by decide +kernel), List.mem_of_getElem? (i := 395) (by decide +kernel), List.mem_of_getElem? (i := 396) (by decide +kernel)⟩
theorem lw_p10 : lw_okq (⟨"LabelTree", "climb", "(II)I"⟩, 14) := ⟨⟨by decide +kernel, by decide +kernel⟩, List.mem_of_getElem? (i := 21) (by decide +kernel), List.mem_of_getElem? (i := 531) (by decide +kernel), List.mem_of_getElem? (i := 532) (by decide +kernel)⟩
theorem lw_p11 : lw_okq (⟨"LabelTree", "isPlace", "(II)Z"⟩, 14) := ⟨⟨by decide +kernel, by decide +kernel⟩, List.mem_of_getElem? (i := 21) (by decide +kernel), List.mem_of_getElem? (i := 555) (by decide +kernel), List.mem_of_getElem? (i := 556) (by decide +kernel)⟩
theorem lw_p12 : lw_okq (⟨"LabelTree$Past", "forgetFirst", "()V"⟩, 5) := ⟨⟨by decide +kernel, by decide +kernel⟩, List.mem_of_getElem? (i := 137) (by decide +kernel), List.mem_of_getElem? (i := 567) (by decide +kernel), List.mem_of_getElem? (i := 568) (by decide +kernel)⟩
theorem lw_p13 : lw_okq (⟨"LabelTree$PatternReader", "takes", "(ILLabelTree$Pattern;)Z"⟩, 5) := ⟨⟨by decide +kernel, by decide +kernel⟩, List.mem_of_getElem? (i := 59) (by decide +kernel), List.mem_of_getElem? (i := 654) (by decide +kernel), List.mem_of_getElem? (i := 655) (by decide +kernel)⟩
theorem lw_p14 : lw_okq (⟨"LabelTree$PatternReader", "takesTag", "(ILLabelTree$Pattern;)Z"⟩, 5) := ⟨⟨by decide +kernel, by decide +kernel⟩, List.mem_of_getElem? (i := 59) (by decide +kernel), List.mem_of_getElem? (i := 658) (by decide +kernel), List.mem_of_getElem? (i := 659) (by decide +kernel)⟩
theorem lw_p15 : lw_okq (⟨"LabelTree$PatternReader", "opens", "()Z"⟩, 5) := ⟨⟨by decide +kernel, by decide +kernel⟩, List.mem_of_getElem? (i := 59) (by decide +kernel), List.mem_of_getElem? (i := 671) (by decide +kernel), List.mem_of_getElem? (i := 672) (by decide +kernel)⟩
def lw_privs_1 : List (MethodName × Nat) := [(⟨"LabelTree$TreeReader", "readNumbers", "(LLabelTree$Letters;I)Z"⟩, 3), (⟨"LabelTree$TreeReader", "readNumber", "(LLabelTree$Letters;)I"⟩, 3), (⟨"LabelTree$TreeReader", "apply", "(ILLabelTree$Tree;)Z"⟩, 3), (⟨"LabelTree$TreeReader", "applyKind", "(LLabelTree$Tree;)Z"⟩, 3), (⟨"LabelTree$TreeReader", "applyRoot", "(LLabelTree$Tree;)Z"⟩, 3), (⟨"LabelTree$TreeReader", "applyNode", "(LLabelTree$Tree;)Z"⟩, 3), (⟨"LabelTree", "settle", "()V"⟩, 14), (⟨"LabelTree$Order", "take", "(III)V"⟩, 8), (⟨"LabelTree$Order", "isRank", "(I)Z"⟩, 8), (⟨"LabelTree$Order", "takeFollower", "(LLabelTree$Tree;I)V"⟩, 8), (⟨"LabelTree", "climb", "(II)I"⟩, 14), (⟨"LabelTree", "isPlace", "(II)Z"⟩, 14), (⟨"LabelTree$Past", "forgetFirst", "()V"⟩, 5), (⟨"LabelTree$PatternReader", "takes", "(ILLabelTree$Pattern;)Z"⟩, 5), (⟨"LabelTree$PatternReader", "takesTag", "(ILLabelTree$Pattern;)Z"⟩, 5), (⟨"LabelTree$PatternReader", "opens", "()Z"⟩, 5)]
theorem lw_r1 : ∀ q ∈ lw_privs_1, lw_okq q := List.forall_mem_cons.mpr ⟨lw_p0, List.forall_mem_cons.mpr ⟨lw_p1, List.forall_mem_cons.mpr ⟨lw_p2, List.forall_mem_cons.mpr ⟨lw_p3, List.forall_mem_cons.mpr ⟨lw_p4, List.forall_mem_cons.mpr ⟨lw_p5, List.forall_mem_cons.mpr ⟨lw_p6, List.forall_mem_cons.mpr ⟨lw_p7, List.forall_mem_cons.mpr ⟨lw_p8, List.forall_mem_cons.mpr ⟨lw_p9, List.forall_mem_cons.mpr ⟨lw_p10, List.forall_mem_cons.mpr ⟨lw_p11, List.forall_mem_cons.mpr ⟨lw_p12, List.forall_mem_cons.mpr ⟨lw_p13, List.forall_mem_cons.mpr ⟨lw_p14, List.forall_mem_cons.mpr ⟨lw_p15, fun _ h => absurd h List.not_mem_nil⟩⟩⟩⟩⟩⟩⟩⟩⟩⟩⟩⟩⟩⟩⟩⟩
theorem lw_p16 : lw_okq (⟨"LabelTree$PatternReader", "closes", "()Z"⟩, 5) := ⟨⟨by decide +kernel, by decide +kernel⟩, List.mem_of_getElem? (i := 59) (by decide +kernel), List.mem_of_getElem? (i := 675) (by decide +kernel), List.mem_of_getElem? (i := 676) (by decide +kernel)⟩
theorem lw_p17 : lw_okq (⟨"LabelTree$PatternReader", "takesAxis", "(I)Z"⟩, 5) := ⟨⟨by decide +kernel, by decide +kernel⟩, List.mem_of_getElem? (i := 59) (by decide +kernel), List.mem_of_getElem? (i := 679) (by decide +kernel), List.mem_of_getElem? (i := 680) (by decide +kernel)⟩
theorem lw_p18 : lw_okq (⟨"LabelTree", "matchAll", "()V"⟩, 14) := ⟨⟨by decide +kernel, by decide +kernel⟩, List.mem_of_getElem? (i := 21) (by decide +kernel), List.mem_of_getElem? (i := 721) (by decide +kernel), List.mem_of_getElem? (i := 722) (by decide +kernel)⟩
theorem lw_p19 : lw_okq (⟨"LabelTree$Matcher", "countOwn", "(I)V"⟩, 7) := ⟨⟨by decide +kernel, by decide +kernel⟩, List.mem_of_getElem? (i := 181) (by decide +kernel), List.mem_of_getElem? (i := 730) (by decide +kernel), List.mem_of_getElem? (i := 731) (by decide +kernel)⟩
theorem lw_p20 : lw_okq (⟨"LabelTree$Matcher", "product", "(III)J"⟩, 7) := ⟨⟨by decide +kernel, by decide +kernel⟩, List.mem_of_getElem? (i := 181) (by decide +kernel), List.mem_of_getElem? (i := 735) (by decide +kernel), List.mem_of_getElem? (i := 736) (by decide +kernel)⟩
theorem lw_p21 : lw_okq (⟨"LabelTree$Matcher", "countHung", "(I)V"⟩, 7) := ⟨⟨by decide +kernel, by decide +kernel⟩, List.mem_of_getElem? (i := 181) (by decide +kernel), List.mem_of_getElem? (i := 746) (by decide +kernel), List.mem_of_getElem? (i := 747) (by decide +kernel)⟩
theorem lw_p22 : lw_okq (⟨"LabelTree$Matcher", "sourceOf", "(II)I"⟩, 7) := ⟨⟨by decide +kernel, by decide +kernel⟩, List.mem_of_getElem? (i := 181) (by decide +kernel), List.mem_of_getElem? (i := 753) (by decide +kernel), List.mem_of_getElem? (i := 754) (by decide +kernel)⟩
theorem lw_p23 : lw_okq (⟨"LabelTree$Matcher", "reachesOn", "(I)Z"⟩, 7) := ⟨⟨by decide +kernel, by decide +kernel⟩, List.mem_of_getElem? (i := 181) (by decide +kernel), List.mem_of_getElem? (i := 763) (by decide +kernel), List.mem_of_getElem? (i := 764) (by decide +kernel)⟩
theorem lw_p24 : lw_okq (⟨"LabelTree$Matcher", "countRest", "(II)V"⟩, 7) := ⟨⟨by decide +kernel, by decide +kernel⟩, List.mem_of_getElem? (i := 181) (by decide +kernel), List.mem_of_getElem? (i := 767) (by decide +kernel), List.mem_of_getElem? (i := 768) (by decide +kernel)⟩
theorem lw_p25 : lw_okq (⟨"LabelTree$Matcher", "countOther", "(I)V"⟩, 7) := ⟨⟨by decide +kernel, by decide +kernel⟩, List.mem_of_getElem? (i := 181) (by decide +kernel), List.mem_of_getElem? (i := 771) (by decide +kernel), List.mem_of_getElem? (i := 772) (by decide +kernel)⟩
theorem lw_p26 : lw_okq (⟨"LabelTree", "keptTree", "(I)LLabelTree$Tree;"⟩, 14) := ⟨⟨by decide +kernel, by decide +kernel⟩, List.mem_of_getElem? (i := 21) (by decide +kernel), List.mem_of_getElem? (i := 804) (by decide +kernel), List.mem_of_getElem? (i := 805) (by decide +kernel)⟩
theorem lw_p27 : lw_okq (⟨"LabelTree", "mostFigures", "()I"⟩, 14) := ⟨⟨by decide +kernel, by decide +kernel⟩, List.mem_of_getElem? (i := 21) (by decide +kernel), List.mem_of_getElem? (i := 817) (by decide +kernel), List.mem_of_getElem? (i := 818) (by decide +kernel)⟩
theorem lw_p28 : lw_okq (⟨"LabelTreeModel", "root", "(I)V"⟩, 27) := ⟨⟨by decide +kernel, by decide +kernel⟩, List.mem_of_getElem? (i := 833) (by decide +kernel), List.mem_of_getElem? (i := 839) (by decide +kernel), List.mem_of_getElem? (i := 840) (by decide +kernel)⟩
theorem lw_p29 : lw_okq (⟨"LabelTreeModel", "comes", "(III)I"⟩, 27) := ⟨⟨by decide +kernel, by decide +kernel⟩, List.mem_of_getElem? (i := 833) (by decide +kernel), List.mem_of_getElem? (i := 843) (by decide +kernel), List.mem_of_getElem? (i := 844) (by decide +kernel)⟩
theorem lw_p30 : lw_okq (⟨"LabelTreeModel", "keyFor", "(II)I"⟩, 27) := ⟨⟨by decide +kernel, by decide +kernel⟩, List.mem_of_getElem? (i := 833) (by decide +kernel), List.mem_of_getElem? (i := 847) (by decide +kernel), List.mem_of_getElem? (i := 848) (by decide +kernel)⟩
theorem lw_p31 : lw_okq (⟨"LabelTreeModel", "childAt", "(II)I"⟩, 27) := ⟨⟨by decide +kernel, by decide +kernel⟩, List.mem_of_getElem? (i := 833) (by decide +kernel), List.mem_of_getElem? (i := 851) (by decide +kernel), List.mem_of_getElem? (i := 852) (by decide +kernel)⟩
def lw_privs_2 : List (MethodName × Nat) := [(⟨"LabelTree$PatternReader", "closes", "()Z"⟩, 5), (⟨"LabelTree$PatternReader", "takesAxis", "(I)Z"⟩, 5), (⟨"LabelTree", "matchAll", "()V"⟩, 14), (⟨"LabelTree$Matcher", "countOwn", "(I)V"⟩, 7), (⟨"LabelTree$Matcher", "product", "(III)J"⟩, 7), (⟨"LabelTree$Matcher", "countHung", "(I)V"⟩, 7), (⟨"LabelTree$Matcher", "sourceOf", "(II)I"⟩, 7), (⟨"LabelTree$Matcher", "reachesOn", "(I)Z"⟩, 7), (⟨"LabelTree$Matcher", "countRest", "(II)V"⟩, 7), (⟨"LabelTree$Matcher", "countOther", "(I)V"⟩, 7), (⟨"LabelTree", "keptTree", "(I)LLabelTree$Tree;"⟩, 14), (⟨"LabelTree", "mostFigures", "()I"⟩, 14), (⟨"LabelTreeModel", "root", "(I)V"⟩, 27), (⟨"LabelTreeModel", "comes", "(III)I"⟩, 27), (⟨"LabelTreeModel", "keyFor", "(II)I"⟩, 27), (⟨"LabelTreeModel", "childAt", "(II)I"⟩, 27)]
theorem lw_r2 : ∀ q ∈ lw_privs_2, lw_okq q := List.forall_mem_cons.mpr ⟨lw_p16, List.forall_mem_cons.mpr ⟨lw_p17, List.forall_mem_cons.mpr ⟨lw_p18, List.forall_mem_cons.mpr ⟨lw_p19, List.forall_mem_cons.mpr ⟨lw_p20, List.forall_mem_cons.mpr ⟨lw_p21, List.forall_mem_cons.mpr ⟨lw_p22, List.forall_mem_cons.mpr ⟨lw_p23, List.forall_mem_cons.mpr ⟨lw_p24, List.forall_mem_cons.mpr ⟨lw_p25, List.forall_mem_cons.mpr ⟨lw_p26, List.forall_mem_cons.mpr ⟨lw_p27, List.forall_mem_cons.mpr ⟨lw_p28, List.forall_mem_cons.mpr ⟨lw_p29, List.forall_mem_cons.mpr ⟨lw_p30, List.forall_mem_cons.mpr ⟨lw_p31, fun _ h => absurd h List.not_mem_nil⟩⟩⟩⟩⟩⟩⟩⟩⟩⟩⟩⟩⟩⟩⟩⟩
theorem lw_p32 : lw_okq (⟨"LabelTreeModel", "childBehind", "(II)I"⟩, 27) := ⟨⟨by decide +kernel, by decide +kernel⟩, List.mem_of_getElem? (i := 833) (by decide +kernel), List.mem_of_getElem? (i := 855) (by decide +kernel), List.mem_of_getElem? (i := 856) (by decide +kernel)⟩
theorem lw_p33 : lw_okq (⟨"LabelTreeModel", "childMany", "(I)I"⟩, 27) := ⟨⟨by decide +kernel, by decide +kernel⟩, List.mem_of_getElem? (i := 833) (by decide +kernel), List.mem_of_getElem? (i := 862) (by decide +kernel), List.mem_of_getElem? (i := 863) (by decide +kernel)⟩
theorem lw_p34 : lw_okq (⟨"LabelTreeModel", "keyBetween", "(II)I"⟩, 27) := ⟨⟨by decide +kernel, by decide +kernel⟩, List.mem_of_getElem? (i := 833) (by decide +kernel), List.mem_of_getElem? (i := 867) (by decide +kernel), List.mem_of_getElem? (i := 868) (by decide +kernel)⟩
theorem lw_p35 : lw_okq (⟨"LabelTreeModel", "isNode", "(I)Z"⟩, 27) := ⟨⟨by decide +kernel, by decide +kernel⟩, List.mem_of_getElem? (i := 833) (by decide +kernel), List.mem_of_getElem? (i := 957) (by decide +kernel), List.mem_of_getElem? (i := 958) (by decide +kernel)⟩
theorem lw_p36 : lw_okq (⟨"LabelTreeModel", "deepOf", "(I)I"⟩, 27) := ⟨⟨by decide +kernel, by decide +kernel⟩, List.mem_of_getElem? (i := 833) (by decide +kernel), List.mem_of_getElem? (i := 964) (by decide +kernel), List.mem_of_getElem? (i := 965) (by decide +kernel)⟩
theorem lw_p37 : lw_okq (⟨"LabelTreeModel", "placeOf", "(I)I"⟩, 27) := ⟨⟨by decide +kernel, by decide +kernel⟩, List.mem_of_getElem? (i := 833) (by decide +kernel), List.mem_of_getElem? (i := 968) (by decide +kernel), List.mem_of_getElem? (i := 969) (by decide +kernel)⟩
theorem lw_p38 : lw_okq (⟨"LabelTreeModel", "behind", "(I)I"⟩, 27) := ⟨⟨by decide +kernel, by decide +kernel⟩, List.mem_of_getElem? (i := 833) (by decide +kernel), List.mem_of_getElem? (i := 972) (by decide +kernel), List.mem_of_getElem? (i := 973) (by decide +kernel)⟩
theorem lw_p39 : lw_okq (⟨"LabelTreeModel", "belowSet", "(I)I"⟩, 27) := ⟨⟨by decide +kernel, by decide +kernel⟩, List.mem_of_getElem? (i := 833) (by decide +kernel), List.mem_of_getElem? (i := 976) (by decide +kernel), List.mem_of_getElem? (i := 977) (by decide +kernel)⟩
theorem lw_p40 : lw_okq (⟨"LabelTreeModel", "isOver", "(II)Z"⟩, 27) := ⟨⟨by decide +kernel, by decide +kernel⟩, List.mem_of_getElem? (i := 833) (by decide +kernel), List.mem_of_getElem? (i := 980) (by decide +kernel), List.mem_of_getElem? (i := 981) (by decide +kernel)⟩
theorem lw_p41 : lw_okq (⟨"LabelTreeModel", "notes", "()V"⟩, 27) := ⟨⟨by decide +kernel, by decide +kernel⟩, List.mem_of_getElem? (i := 833) (by decide +kernel), List.mem_of_getElem? (i := 1012) (by decide +kernel), List.mem_of_getElem? (i := 1013) (by decide +kernel)⟩
theorem lw_p42 : lw_okq (⟨"LabelTreeModel", "lays", "([II)V"⟩, 27) := ⟨⟨by decide +kernel, by decide +kernel⟩, List.mem_of_getElem? (i := 833) (by decide +kernel), List.mem_of_getElem? (i := 1016) (by decide +kernel), List.mem_of_getElem? (i := 1017) (by decide +kernel)⟩
theorem lw_p43 : lw_okq (⟨"LabelTreeModel", "takes", "([II)V"⟩, 27) := ⟨⟨by decide +kernel, by decide +kernel⟩, List.mem_of_getElem? (i := 833) (by decide +kernel), List.mem_of_getElem? (i := 1032) (by decide +kernel), List.mem_of_getElem? (i := 1033) (by decide +kernel)⟩
theorem lw_p44 : lw_okq (⟨"LabelTreeModel", "reads", "()I"⟩, 27) := ⟨⟨by decide +kernel, by decide +kernel⟩, List.mem_of_getElem? (i := 833) (by decide +kernel), List.mem_of_getElem? (i := 1072) (by decide +kernel), List.mem_of_getElem? (i := 1073) (by decide +kernel)⟩
theorem lw_p45 : lw_okq (⟨"LabelTreeModel", "readsItem", "(Z)Z"⟩, 27) := ⟨⟨by decide +kernel, by decide +kernel⟩, List.mem_of_getElem? (i := 833) (by decide +kernel), List.mem_of_getElem? (i := 1076) (by decide +kernel), List.mem_of_getElem? (i := 1077) (by decide +kernel)⟩
theorem lw_p46 : lw_okq (⟨"LabelTreeModel", "here", "()I"⟩, 27) := ⟨⟨by decide +kernel, by decide +kernel⟩, List.mem_of_getElem? (i := 833) (by decide +kernel), List.mem_of_getElem? (i := 1080) (by decide +kernel), List.mem_of_getElem? (i := 1081) (by decide +kernel)⟩
theorem lw_p47 : lw_okq (⟨"LabelTreeModel", "readsKind", "()Z"⟩, 27) := ⟨⟨by decide +kernel, by decide +kernel⟩, List.mem_of_getElem? (i := 833) (by decide +kernel), List.mem_of_getElem? (i := 1084) (by decide +kernel), List.mem_of_getElem? (i := 1085) (by decide +kernel)⟩
def lw_privs_3 : List (MethodName × Nat) := [(⟨"LabelTreeModel", "childBehind", "(II)I"⟩, 27), (⟨"LabelTreeModel", "childMany", "(I)I"⟩, 27), (⟨"LabelTreeModel", "keyBetween", "(II)I"⟩, 27), (⟨"LabelTreeModel", "isNode", "(I)Z"⟩, 27), (⟨"LabelTreeModel", "deepOf", "(I)I"⟩, 27), (⟨"LabelTreeModel", "placeOf", "(I)I"⟩, 27), (⟨"LabelTreeModel", "behind", "(I)I"⟩, 27), (⟨"LabelTreeModel", "belowSet", "(I)I"⟩, 27), (⟨"LabelTreeModel", "isOver", "(II)Z"⟩, 27), (⟨"LabelTreeModel", "notes", "()V"⟩, 27), (⟨"LabelTreeModel", "lays", "([II)V"⟩, 27), (⟨"LabelTreeModel", "takes", "([II)V"⟩, 27), (⟨"LabelTreeModel", "reads", "()I"⟩, 27), (⟨"LabelTreeModel", "readsItem", "(Z)Z"⟩, 27), (⟨"LabelTreeModel", "here", "()I"⟩, 27), (⟨"LabelTreeModel", "readsKind", "()Z"⟩, 27)]
theorem lw_r3 : ∀ q ∈ lw_privs_3, lw_okq q := List.forall_mem_cons.mpr ⟨lw_p32, List.forall_mem_cons.mpr ⟨lw_p33, List.forall_mem_cons.mpr ⟨lw_p34, List.forall_mem_cons.mpr ⟨lw_p35, List.forall_mem_cons.mpr ⟨lw_p36, List.forall_mem_cons.mpr ⟨lw_p37, List.forall_mem_cons.mpr ⟨lw_p38, List.forall_mem_cons.mpr ⟨lw_p39, List.forall_mem_cons.mpr ⟨lw_p40, List.forall_mem_cons.mpr ⟨lw_p41, List.forall_mem_cons.mpr ⟨lw_p42, List.forall_mem_cons.mpr ⟨lw_p43, List.forall_mem_cons.mpr ⟨lw_p44, List.forall_mem_cons.mpr ⟨lw_p45, List.forall_mem_cons.mpr ⟨lw_p46, List.forall_mem_cons.mpr ⟨lw_p47, fun _ h => absurd h List.not_mem_nil⟩⟩⟩⟩⟩⟩⟩⟩⟩⟩⟩⟩⟩⟩⟩⟩
theorem lw_p48 : lw_okq (⟨"LabelTreeModel", "number", "(III)Z"⟩, 27) := ⟨⟨by decide +kernel, by decide +kernel⟩, List.mem_of_getElem? (i := 833) (by decide +kernel), List.mem_of_getElem? (i := 1088) (by decide +kernel), List.mem_of_getElem? (i := 1089) (by decide +kernel)⟩
theorem lw_p49 : lw_okq (⟨"LabelTreeModel", "isFigure", "()Z"⟩, 27) := ⟨⟨by decide +kernel, by decide +kernel⟩, List.mem_of_getElem? (i := 833) (by decide +kernel), List.mem_of_getElem? (i := 1092) (by decide +kernel), List.mem_of_getElem? (i := 1093) (by decide +kernel)⟩
theorem lw_p50 : lw_okq (⟨"LabelTreeModel", "readsRoot", "()Z"⟩, 27) := ⟨⟨by decide +kernel, by decide +kernel⟩, List.mem_of_getElem? (i := 833) (by decide +kernel), List.mem_of_getElem? (i := 1096) (by decide +kernel), List.mem_of_getElem? (i := 1097) (by decide +kernel)⟩
theorem lw_p51 : lw_okq (⟨"LabelTreeModel", "readsNode", "()Z"⟩, 27) := ⟨⟨by decide +kernel, by decide +kernel⟩, List.mem_of_getElem? (i := 833) (by decide +kernel), List.mem_of_getElem? (i := 1100) (by decide +kernel), List.mem_of_getElem? (i := 1101) (by decide +kernel)⟩
theorem lw_p52 : lw_okq (⟨"LabelTreeModel", "readsPattern", "()I"⟩, 27) := ⟨⟨by decide +kernel, by decide +kernel⟩, List.mem_of_getElem? (i := 833) (by decide +kernel), List.mem_of_getElem? (i := 1115) (by decide +kernel), List.mem_of_getElem? (i := 1116) (by decide +kernel)⟩
theorem lw_p53 : lw_okq (⟨"LabelTreeModel", "readsStep", "(II)Z"⟩, 27) := ⟨⟨by decide +kernel, by decide +kernel⟩, List.mem_of_getElem? (i := 833) (by decide +kernel), List.mem_of_getElem? (i := 1119) (by decide +kernel), List.mem_of_getElem? (i := 1120) (by decide +kernel)⟩
theorem lw_p54 : lw_okq (⟨"LabelTreeModel", "isStep", "(I)Z"⟩, 27) := ⟨⟨by decide +kernel, by decide +kernel⟩, List.mem_of_getElem? (i := 833) (by decide +kernel), List.mem_of_getElem? (i := 1130) (by decide +kernel), List.mem_of_getElem? (i := 1131) (by decide +kernel)⟩
theorem lw_p55 : lw_okq (⟨"LabelTreeModel", "waysBy", "(II)J"⟩, 27) := ⟨⟨by decide +kernel, by decide +kernel⟩, List.mem_of_getElem? (i := 833) (by decide +kernel), List.mem_of_getElem? (i := 1139) (by decide +kernel), List.mem_of_getElem? (i := 1140) (by decide +kernel)⟩
theorem lw_p56 : lw_okq (⟨"LabelTreeModel", "sumOf", "(II)J"⟩, 27) := ⟨⟨by decide +kernel, by decide +kernel⟩, List.mem_of_getElem? (i := 833) (by decide +kernel), List.mem_of_getElem? (i := 1143) (by decide +kernel), List.mem_of_getElem? (i := 1144) (by decide +kernel)⟩
theorem lw_p57 : lw_okq (⟨"LabelTreeModel", "stands", "(III)Z"⟩, 27) := ⟨⟨by decide +kernel, by decide +kernel⟩, List.mem_of_getElem? (i := 833) (by decide +kernel), List.mem_of_getElem? (i := 1147) (by decide +kernel), List.mem_of_getElem? (i := 1148) (by decide +kernel)⟩
theorem lw_p58 : lw_okq (⟨"LabelTreeModel", "usefulSet", "(I)I"⟩, 27) := ⟨⟨by decide +kernel, by decide +kernel⟩, List.mem_of_getElem? (i := 833) (by decide +kernel), List.mem_of_getElem? (i := 1160) (by decide +kernel), List.mem_of_getElem? (i := 1161) (by decide +kernel)⟩
theorem lw_p59 : lw_okq (⟨"LabelTreeModel", "mostFigures", "()I"⟩, 27) := ⟨⟨by decide +kernel, by decide +kernel⟩, List.mem_of_getElem? (i := 833) (by decide +kernel), List.mem_of_getElem? (i := 1172) (by decide +kernel), List.mem_of_getElem? (i := 1173) (by decide +kernel)⟩
theorem lw_p60 : lw_okq (⟨"LabelTreeModel", "mostKeys", "()I"⟩, 27) := ⟨⟨by decide +kernel, by decide +kernel⟩, List.mem_of_getElem? (i := 833) (by decide +kernel), List.mem_of_getElem? (i := 1176) (by decide +kernel), List.mem_of_getElem? (i := 1177) (by decide +kernel)⟩
def lw_privs_4 : List (MethodName × Nat) := [(⟨"LabelTreeModel", "number", "(III)Z"⟩, 27), (⟨"LabelTreeModel", "isFigure", "()Z"⟩, 27), (⟨"LabelTreeModel", "readsRoot", "()Z"⟩, 27), (⟨"LabelTreeModel", "readsNode", "()Z"⟩, 27), (⟨"LabelTreeModel", "readsPattern", "()I"⟩, 27), (⟨"LabelTreeModel", "readsStep", "(II)Z"⟩, 27), (⟨"LabelTreeModel", "isStep", "(I)Z"⟩, 27), (⟨"LabelTreeModel", "waysBy", "(II)J"⟩, 27), (⟨"LabelTreeModel", "sumOf", "(II)J"⟩, 27), (⟨"LabelTreeModel", "stands", "(III)Z"⟩, 27), (⟨"LabelTreeModel", "usefulSet", "(I)I"⟩, 27), (⟨"LabelTreeModel", "mostFigures", "()I"⟩, 27), (⟨"LabelTreeModel", "mostKeys", "()I"⟩, 27)]
theorem lw_r4 : ∀ q ∈ lw_privs_4, lw_okq q := List.forall_mem_cons.mpr ⟨lw_p48, List.forall_mem_cons.mpr ⟨lw_p49, List.forall_mem_cons.mpr ⟨lw_p50, List.forall_mem_cons.mpr ⟨lw_p51, List.forall_mem_cons.mpr ⟨lw_p52, List.forall_mem_cons.mpr ⟨lw_p53, List.forall_mem_cons.mpr ⟨lw_p54, List.forall_mem_cons.mpr ⟨lw_p55, List.forall_mem_cons.mpr ⟨lw_p56, List.forall_mem_cons.mpr ⟨lw_p57, List.forall_mem_cons.mpr ⟨lw_p58, List.forall_mem_cons.mpr ⟨lw_p59, List.forall_mem_cons.mpr ⟨lw_p60, fun _ h => absurd h List.not_mem_nil⟩⟩⟩⟩⟩⟩⟩⟩⟩⟩⟩⟩⟩
def lw_privs : List (MethodName × Nat) := lw_privs_1 ++ (lw_privs_2 ++ (lw_privs_3 ++ (lw_privs_4)))
def lw_tbl : List Cond := k2_sels lw_privs ++ tables_1
theorem lw_privs_ok : ∀ q ∈ lw_privs, lw_okq q := by
  show ∀ q ∈ lw_privs_1 ++ (lw_privs_2 ++ (lw_privs_3 ++ (lw_privs_4))), lw_okq q
  exact List.forall_mem_append.mpr ⟨lw_r1, List.forall_mem_append.mpr ⟨lw_r2, List.forall_mem_append.mpr ⟨lw_r3, lw_r4⟩⟩⟩
end
section
/-! ===== BEGIN words of one list among another's, by their places ===== -/
theorem goodIn_r {big : List Cond} (ws : List Cond) (ps : List Nat) (hp : ws = ps.filterMap (fun i => big[i]?)) (h : ws.all goodWord = true) : GoodIn big ws := by
  intro w hw
  have h1 := List.all_eq_true.mp h w hw
  rw [hp] at hw
  obtain ⟨i, -, hi⟩ := List.mem_filterMap.mp hw
  have hm : w ∈ big := by first | exact List.mem_of_getElem? hi | exact List.getElem?_mem hi
  exact ⟨hm, good_of_word h1⟩
theorem goodIn_app {big a b : List Cond} (ha : GoodIn big a) (hb : GoodIn big b) : GoodIn big (a ++ b) := fun w h => (List.mem_append.mp h).elim (ha w) (hb w)
theorem goodIn_ca {big a b : List Cond} {c : Cond} (ha : GoodIn big (c :: a)) (hb : GoodIn big b) : GoodIn big (c :: (a ++ b)) := fun w h => (List.mem_cons.mp h).elim (fun e => ha w (List.mem_cons.mpr (Or.inl e))) (fun h => (List.mem_append.mp h).elim (fun h => ha w (List.mem_cons.mpr (Or.inr h))) (hb w))
theorem goodIn_sub {big ws : List Cond} (hm : ∀ w ∈ ws, w ∈ big) (h : ws.all goodWord = true) : GoodIn big ws := fun w hw => ⟨hm w hw, good_of_word (List.all_eq_true.mp h w hw)⟩
/-! ===== END ===== -/

def RX0 : String := "LabelTree$Keys"
def TX0 : u_T := fun k => match k with
  | _ => ("", "", "", false)
def tyX0 : Nat → FieldType := fun k => match k with
  | _ => .int
abbrev wsX00 : List Cond := u_ws RX0 TX0 0
theorem nmX0 : ∀ a, a < 0 → ∀ b, b < 0 → a ≠ b → (TX0 a).2.1 ≠ (TX0 b).2.1 := by decide +kernel
theorem tyX0_ok : ∀ k, k < 0 → parseFieldDescriptor (TX0 k).2.2.1 = some (tyX0 k) := by decide +kernel
abbrev cX0_choose : ByteArray := prog_2_method_2_code
def yX0_choose : MethodName := ⟨RX0, "choose", "(III)I"⟩
abbrev cX0_pick : ByteArray := prog_2_method_3_code
def yX0_pick : MethodName := ⟨RX0, "pick", "(III)I"⟩
abbrev cX0_length : ByteArray := prog_2_method_4_code
def yX0_length : MethodName := ⟨RX0, "length", "(I)I"⟩
abbrev cX0_figures : ByteArray := prog_2_method_5_code
def yX0_figures : MethodName := ⟨RX0, "figures", "(I)I"⟩
def RX1 : String := "LabelTree$Letters"
def TX1 : u_T := fun k => match k with
  | 0 => ("LabelTree$Letters", "letters", "[I", true)
  | _ => ("LabelTree$Letters", "size", "I", false)
def tyX1 : Nat → FieldType := fun k => match k with
  | 0 => .array .int
  | _ => .int
abbrev wsX10 : List Cond := u_ws RX1 TX1 2
theorem nmX1 : ∀ a, a < 2 → ∀ b, b < 2 → a ≠ b → (TX1 a).2.1 ≠ (TX1 b).2.1 := by decide +kernel
theorem tyX1_ok : ∀ k, k < 2 → parseFieldDescriptor (TX1 k).2.2.1 = some (tyX1 k) := by decide +kernel
abbrev cX1_init : ByteArray := prog_3_method_1_code
def yX1_init : MethodName := ⟨RX1, "<init>", "()V"⟩
abbrev cX1_size : ByteArray := prog_3_method_2_code
def yX1_size : MethodName := ⟨RX1, "size", "()I"⟩
abbrev cX1_isFull : ByteArray := prog_3_method_3_code
def yX1_isFull : MethodName := ⟨RX1, "isFull", "()Z"⟩
abbrev cX1_add : ByteArray := prog_3_method_4_code
def yX1_add : MethodName := ⟨RX1, "add", "(I)V"⟩
abbrev cX1_clear : ByteArray := prog_3_method_5_code
def yX1_clear : MethodName := ⟨RX1, "clear", "()V"⟩
abbrev cX1_letterAt : ByteArray := prog_3_method_6_code
def yX1_letterAt : MethodName := ⟨RX1, "letterAt", "(I)I"⟩
def RX2 : String := "LabelTree$Matcher"
def TX2 : u_T := fun k => match k with
  | 0 => ("LabelTree$Matcher", "own", "[[J", true)
  | 1 => ("LabelTree$Matcher", "hung", "[[J", true)
  | 2 => ("LabelTree$Matcher", "other", "[[J", true)
  | 3 => ("LabelTree$Matcher", "rest", "[J", true)
  | 4 => ("LabelTree$Matcher", "tree", "LLabelTree$Tree;", true)
  | 5 => ("LabelTree$Matcher", "order", "LLabelTree$Order;", true)
  | _ => ("LabelTree$Matcher", "pattern", "LLabelTree$Pattern;", true)
def tyX2 : Nat → FieldType := fun k => match k with
  | 0 => .array (.array .long)
  | 1 => .array (.array .long)
  | 2 => .array (.array .long)
  | 3 => .array .long
  | 4 => .object "LabelTree$Tree"
  | 5 => .object "LabelTree$Order"
  | _ => .object "LabelTree$Pattern"
abbrev wsX20 : List Cond := u_ws RX2 TX2 7
theorem nmX2 : ∀ a, a < 7 → ∀ b, b < 7 → a ≠ b → (TX2 a).2.1 ≠ (TX2 b).2.1 := by decide +kernel
theorem tyX2_ok : ∀ k, k < 7 → parseFieldDescriptor (TX2 k).2.2.1 = some (tyX2 k) := by decide +kernel
abbrev cX2_init : ByteArray := prog_4_method_1_code
def yX2_init : MethodName := ⟨RX2, "<init>", "(LLabelTree$Tree;LLabelTree$Order;LLabelTree$Pattern;)V"⟩
abbrev cX2_run : ByteArray := prog_4_method_2_code
def yX2_run : MethodName := ⟨RX2, "run", "()V"⟩
abbrev cX2_total : ByteArray := prog_4_method_3_code
def yX2_total : MethodName := ⟨RX2, "total", "()J"⟩
abbrev cX2_ways : ByteArray := prog_4_method_4_code
def yX2_ways : MethodName := ⟨RX2, "ways", "(II)J"⟩
abbrev cX2_countOwn : ByteArray := prog_4_method_5_code
def yX2_countOwn : MethodName := ⟨RX2, "countOwn", "(I)V"⟩
abbrev cX2_product : ByteArray := prog_4_method_6_code
def yX2_product : MethodName := ⟨RX2, "product", "(III)J"⟩
abbrev cX2_countHung : ByteArray := prog_4_method_7_code
def yX2_countHung : MethodName := ⟨RX2, "countHung", "(I)V"⟩
abbrev cX2_countRest : ByteArray := prog_4_method_8_code
def yX2_countRest : MethodName := ⟨RX2, "countRest", "(II)V"⟩
abbrev cX2_countOther : ByteArray := prog_4_method_9_code
def yX2_countOther : MethodName := ⟨RX2, "countOther", "(I)V"⟩
abbrev cX2_sourceOf : ByteArray := prog_4_method_10_code
def yX2_sourceOf : MethodName := ⟨RX2, "sourceOf", "(II)I"⟩
abbrev cX2_reachesOn : ByteArray := prog_4_method_11_code
def yX2_reachesOn : MethodName := ⟨RX2, "reachesOn", "(I)Z"⟩
def RX3 : String := "LabelTree$Order"
def TX3 : u_T := fun k => match k with
  | 0 => ("LabelTree$Order", "ranks", "[I", true)
  | 1 => ("LabelTree$Order", "nodes", "[I", true)
  | 2 => ("LabelTree$Order", "parents", "[I", true)
  | 3 => ("LabelTree$Order", "elders", "[I", true)
  | 4 => ("LabelTree$Order", "levels", "[I", true)
  | 5 => ("LabelTree$Order", "kids", "[I", true)
  | 6 => ("LabelTree$Order", "belows", "[I", true)
  | _ => ("LabelTree$Order", "size", "I", false)
def tyX3 : Nat → FieldType := fun k => match k with
  | 0 => .array .int
  | 1 => .array .int
  | 2 => .array .int
  | 3 => .array .int
  | 4 => .array .int
  | 5 => .array .int
  | 6 => .array .int
  | _ => .int
abbrev wsX30 : List Cond := u_ws RX3 TX3 8
theorem nmX3 : ∀ a, a < 8 → ∀ b, b < 8 → a ≠ b → (TX3 a).2.1 ≠ (TX3 b).2.1 := by decide +kernel
theorem tyX3_ok : ∀ k, k < 8 → parseFieldDescriptor (TX3 k).2.2.1 = some (tyX3 k) := by decide +kernel
abbrev cX3_init : ByteArray := prog_5_method_1_code
def yX3_init : MethodName := ⟨RX3, "<init>", "()V"⟩
abbrev cX3_read : ByteArray := prog_5_method_2_code
def yX3_read : MethodName := ⟨RX3, "read", "(LLabelTree$Tree;)V"⟩
abbrev cX3_takeFollower : ByteArray := prog_5_method_3_code
def yX3_takeFollower : MethodName := ⟨RX3, "takeFollower", "(LLabelTree$Tree;I)V"⟩
abbrev cX3_take : ByteArray := prog_5_method_4_code
def yX3_take : MethodName := ⟨RX3, "take", "(III)V"⟩
abbrev cX3_isRank : ByteArray := prog_5_method_5_code
def yX3_isRank : MethodName := ⟨RX3, "isRank", "(I)Z"⟩
abbrev cX3_size : ByteArray := prog_5_method_6_code
def yX3_size : MethodName := ⟨RX3, "size", "()I"⟩
abbrev cX3_rankOf : ByteArray := prog_5_method_7_code
def yX3_rankOf : MethodName := ⟨RX3, "rankOf", "(I)I"⟩
abbrev cX3_nodeAt : ByteArray := prog_5_method_8_code
def yX3_nodeAt : MethodName := ⟨RX3, "nodeAt", "(I)I"⟩
abbrev cX3_parentAt : ByteArray := prog_5_method_9_code
def yX3_parentAt : MethodName := ⟨RX3, "parentAt", "(I)I"⟩
abbrev cX3_elderAt : ByteArray := prog_5_method_10_code
def yX3_elderAt : MethodName := ⟨RX3, "elderAt", "(I)I"⟩
abbrev cX3_levelAt : ByteArray := prog_5_method_11_code
def yX3_levelAt : MethodName := ⟨RX3, "levelAt", "(I)I"⟩
abbrev cX3_kidsAt : ByteArray := prog_5_method_12_code
def yX3_kidsAt : MethodName := ⟨RX3, "kidsAt", "(I)I"⟩
abbrev cX3_belowAt : ByteArray := prog_5_method_13_code
def yX3_belowAt : MethodName := ⟨RX3, "belowAt", "(I)I"⟩
abbrev cX3_spans : ByteArray := prog_5_method_14_code
def yX3_spans : MethodName := ⟨RX3, "spans", "(II)Z"⟩
abbrev cX3_bitsFrom : ByteArray := prog_5_method_15_code
def yX3_bitsFrom : MethodName := ⟨RX3, "bitsFrom", "(I)I"⟩
abbrev cX3_mostLevels : ByteArray := prog_5_method_16_code
def yX3_mostLevels : MethodName := ⟨RX3, "mostLevels", "()I"⟩
def RX4 : String := "LabelTree$Past"
def TX4 : u_T := fun k => match k with
  | 0 => ("LabelTree$Past", "bits", "[I", true)
  | 1 => ("LabelTree$Past", "cames", "[I", true)
  | 2 => ("LabelTree$Past", "tagged", "[I", true)
  | 3 => ("LabelTree$Past", "tags", "[I", true)
  | _ => ("LabelTree$Past", "size", "I", false)
def tyX4 : Nat → FieldType := fun k => match k with
  | 0 => .array .int
  | 1 => .array .int
  | 2 => .array .int
  | 3 => .array .int
  | _ => .int
abbrev wsX40 : List Cond := u_ws RX4 TX4 5
theorem nmX4 : ∀ a, a < 5 → ∀ b, b < 5 → a ≠ b → (TX4 a).2.1 ≠ (TX4 b).2.1 := by decide +kernel
theorem tyX4_ok : ∀ k, k < 5 → parseFieldDescriptor (TX4 k).2.2.1 = some (tyX4 k) := by decide +kernel
abbrev cX4_init : ByteArray := prog_6_method_1_code
def yX4_init : MethodName := ⟨RX4, "<init>", "()V"⟩
abbrev cX4_size : ByteArray := prog_6_method_2_code
def yX4_size : MethodName := ⟨RX4, "size", "()I"⟩
abbrev cX4_clear : ByteArray := prog_6_method_3_code
def yX4_clear : MethodName := ⟨RX4, "clear", "()V"⟩
abbrev cX4_record : ByteArray := prog_6_method_4_code
def yX4_record : MethodName := ⟨RX4, "record", "(LLabelTree$Tree;I)V"⟩
abbrev cX4_forgetFirst : ByteArray := prog_6_method_5_code
def yX4_forgetFirst : MethodName := ⟨RX4, "forgetFirst", "()V"⟩
abbrev cX4_restore : ByteArray := prog_6_method_6_code
def yX4_restore : MethodName := ⟨RX4, "restore", "(LLabelTree$Tree;)V"⟩
def RX5 : String := "LabelTree$Pattern"
def TX5 : u_T := fun k => match k with
  | 0 => ("LabelTree$Pattern", "tags", "[I", true)
  | 1 => ("LabelTree$Pattern", "hangs", "[I", true)
  | 2 => ("LabelTree$Pattern", "axes", "[I", true)
  | 3 => ("LabelTree$Pattern", "size", "I", false)
  | _ => ("LabelTree$Pattern", "lastOutermost", "I", false)
def tyX5 : Nat → FieldType := fun k => match k with
  | 0 => .array .int
  | 1 => .array .int
  | 2 => .array .int
  | 3 => .int
  | _ => .int
abbrev wsX50 : List Cond := u_ws RX5 TX5 5
theorem nmX5 : ∀ a, a < 5 → ∀ b, b < 5 → a ≠ b → (TX5 a).2.1 ≠ (TX5 b).2.1 := by decide +kernel
theorem tyX5_ok : ∀ k, k < 5 → parseFieldDescriptor (TX5 k).2.2.1 = some (tyX5 k) := by decide +kernel
abbrev cX5_init : ByteArray := prog_7_method_1_code
def yX5_init : MethodName := ⟨RX5, "<init>", "()V"⟩
abbrev cX5_clear : ByteArray := prog_7_method_2_code
def yX5_clear : MethodName := ⟨RX5, "clear", "()V"⟩
abbrev cX5_copyFrom : ByteArray := prog_7_method_3_code
def yX5_copyFrom : MethodName := ⟨RX5, "copyFrom", "(LLabelTree$Pattern;)V"⟩
abbrev cX5_size : ByteArray := prog_7_method_4_code
def yX5_size : MethodName := ⟨RX5, "size", "()I"⟩
abbrev cX5_has : ByteArray := prog_7_method_5_code
def yX5_has : MethodName := ⟨RX5, "has", "(I)Z"⟩
abbrev cX5_add : ByteArray := prog_7_method_6_code
def yX5_add : MethodName := ⟨RX5, "add", "(III)I"⟩
abbrev cX5_setLastOutermost : ByteArray := prog_7_method_7_code
def yX5_setLastOutermost : MethodName := ⟨RX5, "setLastOutermost", "(I)V"⟩
abbrev cX5_lastOutermost : ByteArray := prog_7_method_8_code
def yX5_lastOutermost : MethodName := ⟨RX5, "lastOutermost", "()I"⟩
abbrev cX5_tagOf : ByteArray := prog_7_method_9_code
def yX5_tagOf : MethodName := ⟨RX5, "tagOf", "(I)I"⟩
abbrev cX5_hangOf : ByteArray := prog_7_method_10_code
def yX5_hangOf : MethodName := ⟨RX5, "hangOf", "(I)I"⟩
abbrev cX5_axisOf : ByteArray := prog_7_method_11_code
def yX5_axisOf : MethodName := ⟨RX5, "axisOf", "(I)I"⟩
abbrev cX5_fits : ByteArray := prog_7_method_12_code
def yX5_fits : MethodName := ⟨RX5, "fits", "(II)Z"⟩
def RX6 : String := "LabelTree$PatternReader"
def TX6 : u_T := fun k => match k with
  | 0 => ("LabelTree$PatternReader", "opened", "[I", true)
  | 1 => ("LabelTree$PatternReader", "depth", "I", false)
  | 2 => ("LabelTree$PatternReader", "due", "I", false)
  | 3 => ("LabelTree$PatternReader", "latest", "I", false)
  | _ => ("LabelTree$PatternReader", "axis", "I", false)
def tyX6 : Nat → FieldType := fun k => match k with
  | 0 => .array .int
  | 1 => .int
  | 2 => .int
  | 3 => .int
  | _ => .int
abbrev wsX60 : List Cond := u_ws RX6 TX6 5
theorem nmX6 : ∀ a, a < 5 → ∀ b, b < 5 → a ≠ b → (TX6 a).2.1 ≠ (TX6 b).2.1 := by decide +kernel
theorem tyX6_ok : ∀ k, k < 5 → parseFieldDescriptor (TX6 k).2.2.1 = some (tyX6 k) := by decide +kernel
abbrev cX6_init : ByteArray := prog_8_method_1_code
def yX6_init : MethodName := ⟨RX6, "<init>", "()V"⟩
abbrev cX6_read : ByteArray := prog_8_method_2_code
def yX6_read : MethodName := ⟨RX6, "read", "(LLabelTree$Letters;LLabelTree$Pattern;)I"⟩
abbrev cX6_takes : ByteArray := prog_8_method_3_code
def yX6_takes : MethodName := ⟨RX6, "takes", "(ILLabelTree$Pattern;)Z"⟩
abbrev cX6_takesTag : ByteArray := prog_8_method_4_code
def yX6_takesTag : MethodName := ⟨RX6, "takesTag", "(ILLabelTree$Pattern;)Z"⟩
abbrev cX6_takesAxis : ByteArray := prog_8_method_5_code
def yX6_takesAxis : MethodName := ⟨RX6, "takesAxis", "(I)Z"⟩
abbrev cX6_axisFor : ByteArray := prog_8_method_6_code
def yX6_axisFor : MethodName := ⟨RX6, "axisFor", "(I)I"⟩
abbrev cX6_opens : ByteArray := prog_8_method_7_code
def yX6_opens : MethodName := ⟨RX6, "opens", "()Z"⟩
abbrev cX6_closes : ByteArray := prog_8_method_8_code
def yX6_closes : MethodName := ⟨RX6, "closes", "()Z"⟩
def RX7 : String := "LabelTree$Tree"
def TX7 : u_T := fun k => match k with
  | 0 => ("LabelTree$Tree", "tags", "[I", true)
  | 1 => ("LabelTree$Tree", "parents", "[I", true)
  | 2 => ("LabelTree$Tree", "spots", "[I", true)
  | 3 => ("LabelTree$Tree", "thereBits", "I", false)
  | 4 => ("LabelTree$Tree", "came", "I", false)
  | _ => ("LabelTree$Tree", "kind", "I", false)
def tyX7 : Nat → FieldType := fun k => match k with
  | 0 => .array .int
  | 1 => .array .int
  | 2 => .array .int
  | 3 => .int
  | 4 => .int
  | _ => .int
abbrev wsX70 : List Cond := u_ws RX7 TX7 6
theorem nmX7 : ∀ a, a < 6 → ∀ b, b < 6 → a ≠ b → (TX7 a).2.1 ≠ (TX7 b).2.1 := by decide +kernel
theorem tyX7_ok : ∀ k, k < 6 → parseFieldDescriptor (TX7 k).2.2.1 = some (tyX7 k) := by decide +kernel
abbrev cX7_init : ByteArray := prog_9_method_1_code
def yX7_init : MethodName := ⟨RX7, "<init>", "()V"⟩
abbrev cX7_clear : ByteArray := prog_9_method_2_code
def yX7_clear : MethodName := ⟨RX7, "clear", "()V"⟩
abbrev cX7_copyFrom : ByteArray := prog_9_method_3_code
def yX7_copyFrom : MethodName := ⟨RX7, "copyFrom", "(LLabelTree$Tree;)V"⟩
abbrev cX7_isNumber : ByteArray := prog_9_method_4_code
def yX7_isNumber : MethodName := ⟨RX7, "isNumber", "(I)Z"⟩
abbrev cX7_isThere : ByteArray := prog_9_method_5_code
def yX7_isThere : MethodName := ⟨RX7, "isThere", "(I)Z"⟩
abbrev cX7_isFull : ByteArray := prog_9_method_6_code
def yX7_isFull : MethodName := ⟨RX7, "isFull", "()Z"⟩
abbrev cX7_came : ByteArray := prog_9_method_7_code
def yX7_came : MethodName := ⟨RX7, "came", "()I"⟩
abbrev cX7_kind : ByteArray := prog_9_method_8_code
def yX7_kind : MethodName := ⟨RX7, "kind", "()I"⟩
abbrev cX7_setKind : ByteArray := prog_9_method_9_code
def yX7_setKind : MethodName := ⟨RX7, "setKind", "(I)V"⟩
abbrev cX7_bits : ByteArray := prog_9_method_10_code
def yX7_bits : MethodName := ⟨RX7, "bits", "()I"⟩
abbrev cX7_tagOf : ByteArray := prog_9_method_11_code
def yX7_tagOf : MethodName := ⟨RX7, "tagOf", "(I)I"⟩
abbrev cX7_setTag : ByteArray := prog_9_method_12_code
def yX7_setTag : MethodName := ⟨RX7, "setTag", "(II)V"⟩
abbrev cX7_parentOf : ByteArray := prog_9_method_13_code
def yX7_parentOf : MethodName := ⟨RX7, "parentOf", "(I)I"⟩
abbrev cX7_spotOf : ByteArray := prog_9_method_14_code
def yX7_spotOf : MethodName := ⟨RX7, "spotOf", "(I)I"⟩
abbrev cX7_add : ByteArray := prog_9_method_15_code
def yX7_add : MethodName := ⟨RX7, "add", "(III)I"⟩
abbrev cX7_remove : ByteArray := prog_9_method_16_code
def yX7_remove : MethodName := ⟨RX7, "remove", "(I)V"⟩
abbrev cX7_rewind : ByteArray := prog_9_method_17_code
def yX7_rewind : MethodName := ⟨RX7, "rewind", "(II)V"⟩
abbrev cX7_kidsOf : ByteArray := prog_9_method_18_code
def yX7_kidsOf : MethodName := ⟨RX7, "kidsOf", "(I)I"⟩
abbrev cX7_nextKid : ByteArray := prog_9_method_19_code
def yX7_nextKid : MethodName := ⟨RX7, "nextKid", "(II)I"⟩
abbrev cX7_childAt : ByteArray := prog_9_method_20_code
def yX7_childAt : MethodName := ⟨RX7, "childAt", "(II)I"⟩
abbrev cX7_spotFor : ByteArray := prog_9_method_21_code
def yX7_spotFor : MethodName := ⟨RX7, "spotFor", "(II)I"⟩
def RX8 : String := "LabelTree$TreeReader"
def TX8 : u_T := fun k => match k with
  | 0 => ("LabelTree$TreeReader", "numbers", "[I", true)
  | 1 => ("LabelTree$TreeReader", "place", "I", false)
  | _ => ("LabelTree$TreeReader", "kindTold", "Z", false)
def tyX8 : Nat → FieldType := fun k => match k with
  | 0 => .array .int
  | 1 => .int
  | _ => .boolean
abbrev wsX80 : List Cond := u_ws RX8 TX8 3
theorem nmX8 : ∀ a, a < 3 → ∀ b, b < 3 → a ≠ b → (TX8 a).2.1 ≠ (TX8 b).2.1 := by decide +kernel
theorem tyX8_ok : ∀ k, k < 3 → parseFieldDescriptor (TX8 k).2.2.1 = some (tyX8 k) := by decide +kernel
abbrev cX8_init : ByteArray := prog_10_method_1_code
def yX8_init : MethodName := ⟨RX8, "<init>", "()V"⟩
abbrev cX8_read : ByteArray := prog_10_method_2_code
def yX8_read : MethodName := ⟨RX8, "read", "(LLabelTree$Letters;LLabelTree$Tree;)I"⟩
abbrev cX8_numbersBehind : ByteArray := prog_10_method_3_code
def yX8_numbersBehind : MethodName := ⟨RX8, "numbersBehind", "(I)I"⟩
abbrev cX8_readNumbers : ByteArray := prog_10_method_4_code
def yX8_readNumbers : MethodName := ⟨RX8, "readNumbers", "(LLabelTree$Letters;I)Z"⟩
abbrev cX8_readNumber : ByteArray := prog_10_method_5_code
def yX8_readNumber : MethodName := ⟨RX8, "readNumber", "(LLabelTree$Letters;)I"⟩
abbrev cX8_figureAt : ByteArray := prog_10_method_6_code
def yX8_figureAt : MethodName := ⟨RX8, "figureAt", "(LLabelTree$Letters;I)I"⟩
abbrev cX8_apply : ByteArray := prog_10_method_7_code
def yX8_apply : MethodName := ⟨RX8, "apply", "(ILLabelTree$Tree;)Z"⟩
abbrev cX8_applyKind : ByteArray := prog_10_method_8_code
def yX8_applyKind : MethodName := ⟨RX8, "applyKind", "(LLabelTree$Tree;)Z"⟩
abbrev cX8_applyRoot : ByteArray := prog_10_method_9_code
def yX8_applyRoot : MethodName := ⟨RX8, "applyRoot", "(LLabelTree$Tree;)Z"⟩
abbrev cX8_applyNode : ByteArray := prog_10_method_10_code
def yX8_applyNode : MethodName := ⟨RX8, "applyNode", "(LLabelTree$Tree;)Z"⟩
def RX9 : String := "LabelTree"
def TX9 : u_T := fun k => match k with
  | 0 => ("LabelTree", "text", "LLabelTree$Letters;", true)
  | 1 => ("LabelTree", "treeReader", "LLabelTree$TreeReader;", true)
  | 2 => ("LabelTree", "patternReader", "LLabelTree$PatternReader;", true)
  | 3 => ("LabelTree", "tree", "LLabelTree$Tree;", true)
  | 4 => ("LabelTree", "treeDraft", "LLabelTree$Tree;", true)
  | 5 => ("LabelTree", "order", "LLabelTree$Order;", true)
  | 6 => ("LabelTree", "past", "LLabelTree$Past;", true)
  | 7 => ("LabelTree", "keptFirst", "LLabelTree$Tree;", true)
  | 8 => ("LabelTree", "keptSecond", "LLabelTree$Tree;", true)
  | 9 => ("LabelTree", "keptSize", "I", false)
  | 10 => ("LabelTree", "steps", "LLabelTree$Pattern;", true)
  | 11 => ("LabelTree", "stepsDraft", "LLabelTree$Pattern;", true)
  | 12 => ("LabelTree", "matcher", "LLabelTree$Matcher;", true)
  | _ => ("LabelTree", "matched", "Z", false)
def tyX9 : Nat → FieldType := fun k => match k with
  | 0 => .object "LabelTree$Letters"
  | 1 => .object "LabelTree$TreeReader"
  | 2 => .object "LabelTree$PatternReader"
  | 3 => .object "LabelTree$Tree"
  | 4 => .object "LabelTree$Tree"
  | 5 => .object "LabelTree$Order"
  | 6 => .object "LabelTree$Past"
  | 7 => .object "LabelTree$Tree"
  | 8 => .object "LabelTree$Tree"
  | 9 => .int
  | 10 => .object "LabelTree$Pattern"
  | 11 => .object "LabelTree$Pattern"
  | 12 => .object "LabelTree$Matcher"
  | _ => .boolean
abbrev wsX90 : List Cond := u_ws RX9 TX9 14
theorem nmX9 : ∀ a, a < 14 → ∀ b, b < 14 → a ≠ b → (TX9 a).2.1 ≠ (TX9 b).2.1 := by decide +kernel
theorem tyX9_ok : ∀ k, k < 14 → parseFieldDescriptor (TX9 k).2.2.1 = some (tyX9 k) := by decide +kernel
abbrev cX9_init : ByteArray := prog_1_method_1_code
def yX9_init : MethodName := ⟨RX9, "<init>", "()V"⟩
abbrev cX9_write : ByteArray := prog_1_method_2_code
def yX9_write : MethodName := ⟨RX9, "write", "(I)I"⟩
abbrev cX9_wipe : ByteArray := prog_1_method_3_code
def yX9_wipe : MethodName := ⟨RX9, "wipe", "()I"⟩
abbrev cX9_fault : ByteArray := prog_1_method_4_code
def yX9_fault : MethodName := ⟨RX9, "fault", "()I"⟩
abbrev cX9_lay : ByteArray := prog_1_method_5_code
def yX9_lay : MethodName := ⟨RX9, "lay", "()I"⟩
abbrev cX9_node : ByteArray := prog_1_method_6_code
def yX9_node : MethodName := ⟨RX9, "node", "(II)I"⟩
abbrev cX9_child : ByteArray := prog_1_method_7_code
def yX9_child : MethodName := ⟨RX9, "child", "(II)I"⟩
abbrev cX9_key : ByteArray := prog_1_method_8_code
def yX9_key : MethodName := ⟨RX9, "key", "(III)I"⟩
abbrev cX9_at : ByteArray := prog_1_method_9_code
def yX9_at : MethodName := ⟨RX9, "at", "(I)I"⟩
abbrev cX9_grow : ByteArray := prog_1_method_10_code
def yX9_grow : MethodName := ⟨RX9, "grow", "(III)I"⟩
abbrev cX9_cut : ByteArray := prog_1_method_11_code
def yX9_cut : MethodName := ⟨RX9, "cut", "(I)I"⟩
abbrev cX9_tag : ByteArray := prog_1_method_12_code
def yX9_tag : MethodName := ⟨RX9, "tag", "(II)I"⟩
abbrev cX9_undo : ByteArray := prog_1_method_13_code
def yX9_undo : MethodName := ⟨RX9, "undo", "()I"⟩
abbrev cX9_between : ByteArray := prog_1_method_14_code
def yX9_between : MethodName := ⟨RX9, "between", "(III)I"⟩
abbrev cX9_ahead : ByteArray := prog_1_method_15_code
def yX9_ahead : MethodName := ⟨RX9, "ahead", "(II)I"⟩
abbrev cX9_above : ByteArray := prog_1_method_16_code
def yX9_above : MethodName := ⟨RX9, "above", "(II)I"⟩
abbrev cX9_meet : ByteArray := prog_1_method_17_code
def yX9_meet : MethodName := ⟨RX9, "meet", "(II)I"⟩
abbrev cX9_pattern : ByteArray := prog_1_method_18_code
def yX9_pattern : MethodName := ⟨RX9, "pattern", "()I"⟩
abbrev cX9_step : ByteArray := prog_1_method_19_code
def yX9_step : MethodName := ⟨RX9, "step", "(II)I"⟩
abbrev cX9_matches : ByteArray := prog_1_method_20_code
def yX9_matches : MethodName := ⟨RX9, "matches", "()J"⟩
abbrev cX9_puts : ByteArray := prog_1_method_21_code
def yX9_puts : MethodName := ⟨RX9, "puts", "(II)J"⟩
abbrev cX9_useful : ByteArray := prog_1_method_22_code
def yX9_useful : MethodName := ⟨RX9, "useful", "(I)I"⟩
abbrev cX9_end : ByteArray := prog_1_method_23_code
def yX9_end : MethodName := ⟨RX9, "end", "(I)I"⟩
abbrev cX9_keep : ByteArray := prog_1_method_24_code
def yX9_keep : MethodName := ⟨RX9, "keep", "()I"⟩
abbrev cX9_back : ByteArray := prog_1_method_25_code
def yX9_back : MethodName := ⟨RX9, "back", "()I"⟩
abbrev cX9_count : ByteArray := prog_1_method_26_code
def yX9_count : MethodName := ⟨RX9, "count", "(I)I"⟩
abbrev cX9_settle : ByteArray := prog_1_method_27_code
def yX9_settle : MethodName := ⟨RX9, "settle", "()V"⟩
abbrev cX9_matchAll : ByteArray := prog_1_method_28_code
def yX9_matchAll : MethodName := ⟨RX9, "matchAll", "()V"⟩
abbrev cX9_keptTree : ByteArray := prog_1_method_29_code
def yX9_keptTree : MethodName := ⟨RX9, "keptTree", "(I)LLabelTree$Tree;"⟩
abbrev cX9_isPlace : ByteArray := prog_1_method_30_code
def yX9_isPlace : MethodName := ⟨RX9, "isPlace", "(II)Z"⟩
abbrev cX9_isTag : ByteArray := prog_1_method_31_code
def yX9_isTag : MethodName := ⟨RX9, "isTag", "(I)Z"⟩
abbrev cX9_isKeyPart : ByteArray := prog_1_method_32_code
def yX9_isKeyPart : MethodName := ⟨RX9, "isKeyPart", "(I)Z"⟩
abbrev cX9_keyPart : ByteArray := prog_1_method_33_code
def yX9_keyPart : MethodName := ⟨RX9, "keyPart", "(II)I"⟩
abbrev cX9_climb : ByteArray := prog_1_method_34_code
def yX9_climb : MethodName := ⟨RX9, "climb", "(II)I"⟩
abbrev cX9_mostFigures : ByteArray := prog_1_method_35_code
def yX9_mostFigures : MethodName := ⟨RX9, "mostFigures", "()I"⟩
def RX10 : String := "LabelTreeModel"
def TX10 : u_T := fun k => match k with
  | 0 => ("LabelTreeModel", "there", "I", false)
  | 1 => ("LabelTreeModel", "came", "I", false)
  | 2 => ("LabelTreeModel", "kind", "I", false)
  | 3 => ("LabelTreeModel", "tagOf", "[I", true)
  | 4 => ("LabelTreeModel", "parentOf", "[I", true)
  | 5 => ("LabelTreeModel", "keyOf", "[I", true)
  | 6 => ("LabelTreeModel", "ahead", "[I", true)
  | 7 => ("LabelTreeModel", "undoMany", "I", false)
  | 8 => ("LabelTreeModel", "saved", "[I", true)
  | 9 => ("LabelTreeModel", "savedMany", "I", false)
  | 10 => ("LabelTreeModel", "text", "[I", true)
  | 11 => ("LabelTreeModel", "size", "I", false)
  | 12 => ("LabelTreeModel", "readAt", "I", false)
  | 13 => ("LabelTreeModel", "readNumber", "I", false)
  | 14 => ("LabelTreeModel", "before", "[I", true)
  | 15 => ("LabelTreeModel", "steps", "I", false)
  | 16 => ("LabelTreeModel", "lastStep", "I", false)
  | 17 => ("LabelTreeModel", "stepTag", "[I", true)
  | 18 => ("LabelTreeModel", "hangsOn", "[I", true)
  | 19 => ("LabelTreeModel", "axisOf", "[I", true)
  | 20 => ("LabelTreeModel", "readSteps", "I", false)
  | 21 => ("LabelTreeModel", "readLast", "I", false)
  | 22 => ("LabelTreeModel", "readTag", "[I", true)
  | 23 => ("LabelTreeModel", "readHangs", "[I", true)
  | 24 => ("LabelTreeModel", "readAxis", "[I", true)
  | 25 => ("LabelTreeModel", "onLevel", "[I", true)
  | _ => ("LabelTreeModel", "ways", "[J", true)
def tyX10 : Nat → FieldType := fun k => match k with
  | 0 => .int
  | 1 => .int
  | 2 => .int
  | 3 => .array .int
  | 4 => .array .int
  | 5 => .array .int
  | 6 => .array .int
  | 7 => .int
  | 8 => .array .int
  | 9 => .int
  | 10 => .array .int
  | 11 => .int
  | 12 => .int
  | 13 => .int
  | 14 => .array .int
  | 15 => .int
  | 16 => .int
  | 17 => .array .int
  | 18 => .array .int
  | 19 => .array .int
  | 20 => .int
  | 21 => .int
  | 22 => .array .int
  | 23 => .array .int
  | 24 => .array .int
  | 25 => .array .int
  | _ => .array .long
abbrev wsX100 : List Cond := u_ws RX10 TX10 27
theorem nmX10 : ∀ a, a < 27 → ∀ b, b < 27 → a ≠ b → (TX10 a).2.1 ≠ (TX10 b).2.1 := by decide +kernel
theorem tyX10_ok : ∀ k, k < 27 → parseFieldDescriptor (TX10 k).2.2.1 = some (tyX10 k) := by decide +kernel
abbrev cX10_in : ByteArray := prog_12_method_1_code
def yX10_in : MethodName := ⟨RX10, "in", "(III)Z"⟩
abbrev cX10_has : ByteArray := prog_12_method_2_code
def yX10_has : MethodName := ⟨RX10, "has", "(II)Z"⟩
abbrev cX10_init : ByteArray := prog_12_method_3_code
def yX10_init : MethodName := ⟨RX10, "<init>", "()V"⟩
abbrev cX10_isNode : ByteArray := prog_12_method_4_code
def yX10_isNode : MethodName := ⟨RX10, "isNode", "(I)Z"⟩
abbrev cX10_isTag : ByteArray := prog_12_method_5_code
def yX10_isTag : MethodName := ⟨RX10, "isTag", "(I)Z"⟩
abbrev cX10_root : ByteArray := prog_12_method_6_code
def yX10_root : MethodName := ⟨RX10, "root", "(I)V"⟩
abbrev cX10_childMany : ByteArray := prog_12_method_7_code
def yX10_childMany : MethodName := ⟨RX10, "childMany", "(I)I"⟩
abbrev cX10_childBehind : ByteArray := prog_12_method_8_code
def yX10_childBehind : MethodName := ⟨RX10, "childBehind", "(II)I"⟩
abbrev cX10_childAt : ByteArray := prog_12_method_9_code
def yX10_childAt : MethodName := ⟨RX10, "childAt", "(II)I"⟩
abbrev cX10_keyBetween : ByteArray := prog_12_method_10_code
def yX10_keyBetween : MethodName := ⟨RX10, "keyBetween", "(II)I"⟩
abbrev cX10_keyFor : ByteArray := prog_12_method_11_code
def yX10_keyFor : MethodName := ⟨RX10, "keyFor", "(II)I"⟩
abbrev cX10_figuresOf : ByteArray := prog_12_method_12_code
def yX10_figuresOf : MethodName := ⟨RX10, "figuresOf", "(I)I"⟩
abbrev cX10_numberOf : ByteArray := prog_12_method_13_code
def yX10_numberOf : MethodName := ⟨RX10, "numberOf", "(I)I"⟩
abbrev cX10_comes : ByteArray := prog_12_method_14_code
def yX10_comes : MethodName := ⟨RX10, "comes", "(III)I"⟩
abbrev cX10_isOver : ByteArray := prog_12_method_15_code
def yX10_isOver : MethodName := ⟨RX10, "isOver", "(II)Z"⟩
abbrev cX10_belowSet : ByteArray := prog_12_method_16_code
def yX10_belowSet : MethodName := ⟨RX10, "belowSet", "(I)I"⟩
abbrev cX10_bits : ByteArray := prog_12_method_17_code
def yX10_bits : MethodName := ⟨RX10, "bits", "(I)I"⟩
abbrev cX10_deepOf : ByteArray := prog_12_method_18_code
def yX10_deepOf : MethodName := ⟨RX10, "deepOf", "(I)I"⟩
abbrev cX10_behind : ByteArray := prog_12_method_19_code
def yX10_behind : MethodName := ⟨RX10, "behind", "(I)I"⟩
abbrev cX10_placeOf : ByteArray := prog_12_method_20_code
def yX10_placeOf : MethodName := ⟨RX10, "placeOf", "(I)I"⟩
abbrev cX10_node : ByteArray := prog_12_method_21_code
def yX10_node : MethodName := ⟨RX10, "node", "(II)I"⟩
abbrev cX10_child : ByteArray := prog_12_method_22_code
def yX10_child : MethodName := ⟨RX10, "child", "(II)I"⟩
abbrev cX10_key : ByteArray := prog_12_method_23_code
def yX10_key : MethodName := ⟨RX10, "key", "(III)I"⟩
abbrev cX10_at : ByteArray := prog_12_method_24_code
def yX10_at : MethodName := ⟨RX10, "at", "(I)I"⟩
abbrev cX10_lays : ByteArray := prog_12_method_25_code
def yX10_lays : MethodName := ⟨RX10, "lays", "([II)V"⟩
abbrev cX10_takes : ByteArray := prog_12_method_26_code
def yX10_takes : MethodName := ⟨RX10, "takes", "([II)V"⟩
abbrev cX10_notes : ByteArray := prog_12_method_27_code
def yX10_notes : MethodName := ⟨RX10, "notes", "()V"⟩
abbrev cX10_grow : ByteArray := prog_12_method_28_code
def yX10_grow : MethodName := ⟨RX10, "grow", "(III)I"⟩
abbrev cX10_cut : ByteArray := prog_12_method_29_code
def yX10_cut : MethodName := ⟨RX10, "cut", "(I)I"⟩
abbrev cX10_tag : ByteArray := prog_12_method_30_code
def yX10_tag : MethodName := ⟨RX10, "tag", "(II)I"⟩
abbrev cX10_undo : ByteArray := prog_12_method_31_code
def yX10_undo : MethodName := ⟨RX10, "undo", "()I"⟩
abbrev cX10_keep : ByteArray := prog_12_method_32_code
def yX10_keep : MethodName := ⟨RX10, "keep", "()I"⟩
abbrev cX10_back : ByteArray := prog_12_method_33_code
def yX10_back : MethodName := ⟨RX10, "back", "()I"⟩
abbrev cX10_between : ByteArray := prog_12_method_34_code
def yX10_between : MethodName := ⟨RX10, "between", "(III)I"⟩
abbrev cX10_ahead : ByteArray := prog_12_method_35_code
def yX10_ahead : MethodName := ⟨RX10, "ahead", "(II)I"⟩
abbrev cX10_above : ByteArray := prog_12_method_36_code
def yX10_above : MethodName := ⟨RX10, "above", "(II)I"⟩
abbrev cX10_meet : ByteArray := prog_12_method_37_code
def yX10_meet : MethodName := ⟨RX10, "meet", "(II)I"⟩
abbrev cX10_write : ByteArray := prog_12_method_38_code
def yX10_write : MethodName := ⟨RX10, "write", "(I)I"⟩
abbrev cX10_wipe : ByteArray := prog_12_method_39_code
def yX10_wipe : MethodName := ⟨RX10, "wipe", "()I"⟩
abbrev cX10_here : ByteArray := prog_12_method_40_code
def yX10_here : MethodName := ⟨RX10, "here", "()I"⟩
abbrev cX10_isFigure : ByteArray := prog_12_method_41_code
def yX10_isFigure : MethodName := ⟨RX10, "isFigure", "()Z"⟩
abbrev cX10_number : ByteArray := prog_12_method_42_code
def yX10_number : MethodName := ⟨RX10, "number", "(III)Z"⟩
abbrev cX10_readsKind : ByteArray := prog_12_method_43_code
def yX10_readsKind : MethodName := ⟨RX10, "readsKind", "()Z"⟩
abbrev cX10_readsRoot : ByteArray := prog_12_method_44_code
def yX10_readsRoot : MethodName := ⟨RX10, "readsRoot", "()Z"⟩
abbrev cX10_readsNode : ByteArray := prog_12_method_45_code
def yX10_readsNode : MethodName := ⟨RX10, "readsNode", "()Z"⟩
abbrev cX10_readsItem : ByteArray := prog_12_method_46_code
def yX10_readsItem : MethodName := ⟨RX10, "readsItem", "(Z)Z"⟩
abbrev cX10_reads : ByteArray := prog_12_method_47_code
def yX10_reads : MethodName := ⟨RX10, "reads", "()I"⟩
abbrev cX10_fault : ByteArray := prog_12_method_48_code
def yX10_fault : MethodName := ⟨RX10, "fault", "()I"⟩
abbrev cX10_many : ByteArray := prog_12_method_49_code
def yX10_many : MethodName := ⟨RX10, "many", "(I)I"⟩
abbrev cX10_lay : ByteArray := prog_12_method_50_code
def yX10_lay : MethodName := ⟨RX10, "lay", "()I"⟩
abbrev cX10_axisBy : ByteArray := prog_12_method_51_code
def yX10_axisBy : MethodName := ⟨RX10, "axisBy", "(I)I"⟩
abbrev cX10_readsStep : ByteArray := prog_12_method_52_code
def yX10_readsStep : MethodName := ⟨RX10, "readsStep", "(II)Z"⟩
abbrev cX10_readsPattern : ByteArray := prog_12_method_53_code
def yX10_readsPattern : MethodName := ⟨RX10, "readsPattern", "()I"⟩
abbrev cX10_pattern : ByteArray := prog_12_method_54_code
def yX10_pattern : MethodName := ⟨RX10, "pattern", "()I"⟩
abbrev cX10_isStep : ByteArray := prog_12_method_55_code
def yX10_isStep : MethodName := ⟨RX10, "isStep", "(I)Z"⟩
abbrev cX10_step : ByteArray := prog_12_method_56_code
def yX10_step : MethodName := ⟨RX10, "step", "(II)I"⟩
abbrev cX10_stands : ByteArray := prog_12_method_57_code
def yX10_stands : MethodName := ⟨RX10, "stands", "(III)Z"⟩
abbrev cX10_waysBy : ByteArray := prog_12_method_58_code
def yX10_waysBy : MethodName := ⟨RX10, "waysBy", "(II)J"⟩
abbrev cX10_sumOf : ByteArray := prog_12_method_59_code
def yX10_sumOf : MethodName := ⟨RX10, "sumOf", "(II)J"⟩
abbrev cX10_matches : ByteArray := prog_12_method_60_code
def yX10_matches : MethodName := ⟨RX10, "matches", "()J"⟩
abbrev cX10_puts : ByteArray := prog_12_method_61_code
def yX10_puts : MethodName := ⟨RX10, "puts", "(II)J"⟩
abbrev cX10_usefulSet : ByteArray := prog_12_method_62_code
def yX10_usefulSet : MethodName := ⟨RX10, "usefulSet", "(I)I"⟩
abbrev cX10_useful : ByteArray := prog_12_method_63_code
def yX10_useful : MethodName := ⟨RX10, "useful", "(I)I"⟩
abbrev cX10_end : ByteArray := prog_12_method_64_code
def yX10_end : MethodName := ⟨RX10, "end", "(I)I"⟩
abbrev cX10_mostFigures : ByteArray := prog_12_method_65_code
def yX10_mostFigures : MethodName := ⟨RX10, "mostFigures", "()I"⟩
abbrev cX10_mostKeys : ByteArray := prog_12_method_66_code
def yX10_mostKeys : MethodName := ⟨RX10, "mostKeys", "()I"⟩
abbrev cX10_count : ByteArray := prog_12_method_67_code
def yX10_count : MethodName := ⟨RX10, "count", "(I)I"⟩
def RJx145de : String := "java/io/Serializable"
def TJx145de : u_T := fun k => match k with
  | _ => ("", "", "", false)
def tyJx145de : Nat → FieldType := fun k => match k with
  | _ => .int
abbrev wsJx145de0 : List Cond := u_ws RJx145de TJx145de 0
theorem nmJx145de : ∀ a, a < 0 → ∀ b, b < 0 → a ≠ b → (TJx145de a).2.1 ≠ (TJx145de b).2.1 := by decide +kernel
theorem tyJx145de_ok : ∀ k, k < 0 → parseFieldDescriptor (TJx145de k).2.2.1 = some (tyJx145de k) := by decide +kernel
def RJx9f9b0 : String := "java/lang/CharSequence"
def TJx9f9b0 : u_T := fun k => match k with
  | _ => ("", "", "", false)
def tyJx9f9b0 : Nat → FieldType := fun k => match k with
  | _ => .int
abbrev wsJx9f9b00 : List Cond := u_ws RJx9f9b0 TJx9f9b0 0
theorem nmJx9f9b0 : ∀ a, a < 0 → ∀ b, b < 0 → a ≠ b → (TJx9f9b0 a).2.1 ≠ (TJx9f9b0 b).2.1 := by decide +kernel
theorem tyJx9f9b0_ok : ∀ k, k < 0 → parseFieldDescriptor (TJx9f9b0 k).2.2.1 = some (tyJx9f9b0 k) := by decide +kernel
def RJxb160c : String := "java/lang/Comparable"
def TJxb160c : u_T := fun k => match k with
  | _ => ("", "", "", false)
def tyJxb160c : Nat → FieldType := fun k => match k with
  | _ => .int
abbrev wsJxb160c0 : List Cond := u_ws RJxb160c TJxb160c 0
theorem nmJxb160c : ∀ a, a < 0 → ∀ b, b < 0 → a ≠ b → (TJxb160c a).2.1 ≠ (TJxb160c b).2.1 := by decide +kernel
theorem tyJxb160c_ok : ∀ k, k < 0 → parseFieldDescriptor (TJxb160c k).2.2.1 = some (tyJxb160c k) := by decide +kernel
def RJ6 : String := "java/lang/Integer"
def TJ6 : u_T := fun k => match k with
  | _ => ("", "", "", false)
def tyJ6 : Nat → FieldType := fun k => match k with
  | _ => .int
abbrev wsJ60 : List Cond := u_ws RJ6 TJ6 0
theorem nmJ6 : ∀ a, a < 0 → ∀ b, b < 0 → a ≠ b → (TJ6 a).2.1 ≠ (TJ6 b).2.1 := by decide +kernel
theorem tyJ6_ok : ∀ k, k < 0 → parseFieldDescriptor (TJ6 k).2.2.1 = some (tyJ6 k) := by decide +kernel
abbrev cJ6_bitCount_0f7a4 : ByteArray := prog_13_method_49_code
def yJ6_bitCount_0f7a4 : MethodName := ⟨RJ6, "bitCount", "(I)I"⟩
def RJ9 : String := "java/lang/Math"
def TJ9 : u_T := fun k => match k with
  | _ => ("", "", "", false)
def tyJ9 : Nat → FieldType := fun k => match k with
  | _ => .int
abbrev wsJ90 : List Cond := u_ws RJ9 TJ9 0
theorem nmJ9 : ∀ a, a < 0 → ∀ b, b < 0 → a ≠ b → (TJ9 a).2.1 ≠ (TJ9 b).2.1 := by decide +kernel
theorem tyJ9_ok : ∀ k, k < 0 → parseFieldDescriptor (TJ9 k).2.2.1 = some (tyJ9 k) := by decide +kernel
abbrev cJ9_max_7cf53 : ByteArray := prog_14_method_65_code
def yJ9_max_7cf53 : MethodName := ⟨RJ9, "max", "(II)I"⟩
abbrev cJ9_min_7cf53 : ByteArray := prog_14_method_69_code
def yJ9_min_7cf53 : MethodName := ⟨RJ9, "min", "(II)I"⟩
def RJ0 : String := "java/lang/String"
def TJ0 : u_T := fun k => match k with
  | _ => ("", "", "", false)
def tyJ0 : Nat → FieldType := fun k => match k with
  | _ => .int
abbrev wsJ00 : List Cond := u_ws RJ0 TJ0 0
theorem nmJ0 : ∀ a, a < 0 → ∀ b, b < 0 → a ≠ b → (TJ0 a).2.1 ≠ (TJ0 b).2.1 := by decide +kernel
theorem tyJ0_ok : ∀ k, k < 0 → parseFieldDescriptor (TJ0 k).2.2.1 = some (tyJ0 k) := by decide +kernel
abbrev cJ0_length_8abf5 : ByteArray := prog_15_method_54_code
def yJ0_length_8abf5 : MethodName := ⟨RJ0, "length", "()I"⟩
abbrev cJ0_charAt_5068e : ByteArray := prog_15_method_56_code
def yJ0_charAt_5068e : MethodName := ⟨RJ0, "charAt", "(I)C"⟩
abbrev cJ0_coder_7d493 : ByteArray := prog_15_method_152_code
def yJ0_coder_7d493 : MethodName := ⟨RJ0, "coder", "()B"⟩
abbrev cJ0_isLatin1_aae02 : ByteArray := prog_15_method_154_code
def yJ0_isLatin1_aae02 : MethodName := ⟨RJ0, "isLatin1", "()Z"⟩
abbrev cJ0_checkIndex_df160 : ByteArray := prog_15_method_155_code
def yJ0_checkIndex_df160 : MethodName := ⟨RJ0, "checkIndex", "(II)V"⟩
def RJ1 : String := "java/lang/StringLatin1"
def TJ1 : u_T := fun k => match k with
  | _ => ("", "", "", false)
def tyJ1 : Nat → FieldType := fun k => match k with
  | _ => .int
abbrev wsJ10 : List Cond := u_ws RJ1 TJ1 0
theorem nmJ1 : ∀ a, a < 0 → ∀ b, b < 0 → a ≠ b → (TJ1 a).2.1 ≠ (TJ1 b).2.1 := by decide +kernel
theorem tyJ1_ok : ∀ k, k < 0 → parseFieldDescriptor (TJ1 k).2.2.1 = some (tyJ1 k) := by decide +kernel
abbrev cJ1_charAt_3b067 : ByteArray := prog_16_method_2_code
def yJ1_charAt_3b067 : MethodName := ⟨RJ1, "charAt", "([BI)C"⟩
def RJ2 : String := "java/lang/StringUTF16"
def TJ2 : u_T := fun k => match k with
  | _ => ("", "", "", false)
def tyJ2 : Nat → FieldType := fun k => match k with
  | _ => .int
abbrev wsJ20 : List Cond := u_ws RJ2 TJ2 0
theorem nmJ2 : ∀ a, a < 0 → ∀ b, b < 0 → a ≠ b → (TJ2 a).2.1 ≠ (TJ2 b).2.1 := by decide +kernel
theorem tyJ2_ok : ∀ k, k < 0 → parseFieldDescriptor (TJ2 k).2.2.1 = some (tyJ2 k) := by decide +kernel
abbrev cJ2_getChar_3b067 : ByteArray := prog_17_method_5_code
def yJ2_getChar_3b067 : MethodName := ⟨RJ2, "getChar", "([BI)C"⟩
abbrev cJ2_length_9d52b : ByteArray := prog_17_method_6_code
def yJ2_length_9d52b : MethodName := ⟨RJ2, "length", "([B)I"⟩
abbrev cJ2_charAt_3b067 : ByteArray := prog_17_method_83_code
def yJ2_charAt_3b067 : MethodName := ⟨RJ2, "charAt", "([BI)C"⟩
abbrev cJ2_checkIndex_2214a : ByteArray := prog_17_method_91_code
def yJ2_checkIndex_2214a : MethodName := ⟨RJ2, "checkIndex", "(I[B)V"⟩
def RJ10 : String := "java/lang/System"
def TJ10 : u_T := fun k => match k with
  | _ => ("", "", "", false)
def tyJ10 : Nat → FieldType := fun k => match k with
  | _ => .int
abbrev wsJ100 : List Cond := u_ws RJ10 TJ10 0
theorem nmJ10 : ∀ a, a < 0 → ∀ b, b < 0 → a ≠ b → (TJ10 a).2.1 ≠ (TJ10 b).2.1 := by decide +kernel
theorem tyJ10_ok : ∀ k, k < 0 → parseFieldDescriptor (TJ10 k).2.2.1 = some (tyJ10 k) := by decide +kernel
def RJxfd54e : String := "java/lang/constant/Constable"
def TJxfd54e : u_T := fun k => match k with
  | _ => ("", "", "", false)
def tyJxfd54e : Nat → FieldType := fun k => match k with
  | _ => .int
abbrev wsJxfd54e0 : List Cond := u_ws RJxfd54e TJxfd54e 0
theorem nmJxfd54e : ∀ a, a < 0 → ∀ b, b < 0 → a ≠ b → (TJxfd54e a).2.1 ≠ (TJxfd54e b).2.1 := by decide +kernel
theorem tyJxfd54e_ok : ∀ k, k < 0 → parseFieldDescriptor (TJxfd54e k).2.2.1 = some (tyJxfd54e k) := by decide +kernel
def RJx3cf43 : String := "java/lang/constant/ConstantDesc"
def TJx3cf43 : u_T := fun k => match k with
  | _ => ("", "", "", false)
def tyJx3cf43 : Nat → FieldType := fun k => match k with
  | _ => .int
abbrev wsJx3cf430 : List Cond := u_ws RJx3cf43 TJx3cf43 0
theorem nmJx3cf43 : ∀ a, a < 0 → ∀ b, b < 0 → a ≠ b → (TJx3cf43 a).2.1 ≠ (TJx3cf43 b).2.1 := by decide +kernel
theorem tyJx3cf43_ok : ∀ k, k < 0 → parseFieldDescriptor (TJx3cf43 k).2.2.1 = some (tyJx3cf43 k) := by decide +kernel
def RJ7 : String := "java/util/Arrays"
def TJ7 : u_T := fun k => match k with
  | _ => ("", "", "", false)
def tyJ7 : Nat → FieldType := fun k => match k with
  | _ => .int
abbrev wsJ70 : List Cond := u_ws RJ7 TJ7 0
theorem nmJ7 : ∀ a, a < 0 → ∀ b, b < 0 → a ≠ b → (TJ7 a).2.1 ≠ (TJ7 b).2.1 := by decide +kernel
theorem tyJ7_ok : ∀ k, k < 0 → parseFieldDescriptor (TJ7 k).2.2.1 = some (tyJ7 k) := by decide +kernel
abbrev cJ7_fill_d0a16 : ByteArray := prog_19_method_101_code
def yJ7_fill_d0a16 : MethodName := ⟨RJ7, "fill", "([JJ)V"⟩
def RJ3 : String := "jdk/internal/util/Preconditions"
def TJ3 : u_T := fun k => match k with
  | _ => ("", "", "", false)
def tyJ3 : Nat → FieldType := fun k => match k with
  | _ => .int
abbrev wsJ30 : List Cond := u_ws RJ3 TJ3 0
theorem nmJ3 : ∀ a, a < 0 → ∀ b, b < 0 → a ≠ b → (TJ3 a).2.1 ≠ (TJ3 b).2.1 := by decide +kernel
theorem tyJ3_ok : ∀ k, k < 0 → parseFieldDescriptor (TJ3 k).2.2.1 = some (tyJ3 k) := by decide +kernel
abbrev cJ3_checkIndex_8e157 : ByteArray := prog_20_method_11_code
def yJ3_checkIndex_8e157 : MethodName := ⟨RJ3, "checkIndex", "(IILjava/util/function/BiFunction;)I"⟩
def RL : String := "LabelTreeLaw"
abbrev cL_law : ByteArray := code
def yL_law : MethodName := ⟨RL, "law", "([I)Z"⟩
abbrev vwCl : List vw_C := [(RX1, TX1, 2), (RX2, TX2, 7), (RX3, TX3, 8), (RX4, TX4, 5), (RX5, TX5, 5), (RX6, TX6, 5), (RX7, TX7, 6), (RX8, TX8, 3), (RX9, TX9, 14), (RX10, TX10, 27)]
end
section
/-! THE PURE MACHINE: cells by place, values with places for references, no making of cells; what it does, the machine does (part 04). -/
abbrev pE : Type := (Nat × (Nat → Int32)) ⊕ ((Nat × (Nat → Int64)) ⊕ ((Nat × (Nat → Option Nat)) ⊕ (Nat × List Value)))
abbrev pH : Type := Nat → pE
abbrev eI (n : Nat) (f : Nat → Int32) : pE := .inl (n, f)
abbrev eJ (n : Nat) (f : Nat → Int64) : pE := .inr (.inl (n, f))
abbrev eR (n : Nat) (f : Nat → Option Nat) : pE := .inr (.inr (.inl (n, f)))
abbrev eO (c : Nat) (fs : List Value) : pE := .inr (.inr (.inr (c, fs)))
def pu (h : pH) (k : Nat) (c : pE) : pH := fun j => if j = k then c else h j
abbrev pLv : Type := List (Nat × Value)
/-- heap, pc, locals, stack -/
abbrev pS : Type := pH × Nat × pLv × List Value
/-- an instruction's row: pc, instruction, length, what it stands for (a, b, c), the places of its words, the locals that are kept here (none named: all) -/
abbrev pI : Type := Nat × Instr × Nat × (Nat × Nat × Nat) × List Nat × List Nat
/-- a method: name, bytes, locals, answer, the place of its code word, its rows -/
abbrev pM : Type := MethodName × ByteArray × Nat × Option FieldType × Nat × List pI
abbrev pCi : Type := vw_C × (Nat → FieldType)
def p_isI : Value → Bool
  | .int _ => true
  | _ => false
def p_isL : Value → Bool
  | .long _ => true
  | _ => false
def p_isR : Value → Bool
  | .ref _ => true
  | _ => false
/-- put in by its number -/
def p_ins (i : Nat) (v : Value) : pLv → pLv
  | [] => [(i, v)]
  | q :: r => if i < q.1 then (i, v) :: q :: r else q :: p_ins i v r
def p_s1 (i : Nat) (v : Value) (lv : pLv) : pLv := p_ins i v (lv.filter (fun q => !(q.1 == i) && !(q.1 + 1 == i && q.2.category == 2)))
def p_s2 (i : Nat) (v : Value) (lv : pLv) : pLv := p_ins i v (lv.filter (fun q => !(q.1 == i) && (!(q.1 == i + 1) && !(q.1 + 1 == i && q.2.category == 2))))
/-- the locals that are kept -/
def p_live (ks : List Nat) (lv : pLv) : pLv :=
  match ks with
  | [] => lv
  | _ => lv.filter (fun q => ks.contains q.1)
def p_ld (t : Value → Bool) (i len : Nat) (s : pS) : Option pS :=
  match List.lookup i s.2.2.1 with
  | some v => if t v = true then some (s.1, s.2.1 + len, s.2.2.1, v :: s.2.2.2) else none
  | none => none
def p_st1 (t : Value → Bool) (mx i len : Nat) (s : pS) : Option pS :=
  match s.2.2.2 with
  | v :: r => if t v = true ∧ i < mx then some (s.1, s.2.1 + len, p_s1 i v s.2.2.1, r) else none
  | _ => none
def p_st2 (mx i len : Nat) (s : pS) : Option pS :=
  match s.2.2.2 with
  | v :: r => if p_isL v = true ∧ i + 1 < mx then some (s.1, s.2.1 + len, p_s2 i v s.2.2.1, r) else none
  | _ => none
def p_iinc (mx i : Nat) (n : Int) (len : Nat) (s : pS) : Option pS :=
  match List.lookup i s.2.2.1 with
  | some (.int x) => if i < mx then some (s.1, s.2.1 + len, p_s1 i (.int (x + Int32.ofInt n)) s.2.2.1, s.2.2.2) else none
  | _ => none
def p_push (v : Value) (len : Nat) (s : pS) : Option pS := some (s.1, s.2.1 + len, s.2.2.1, v :: s.2.2.2)
def p_bI (f : Int32 → Int32 → Int32) (len : Nat) (s : pS) : Option pS :=
  match s.2.2.2 with
  | .int y :: .int x :: r => some (s.1, s.2.1 + len, s.2.2.1, .int (f x y) :: r)
  | _ => none
def p_bD (f : Int32 → Int32 → Int32) (len : Nat) (s : pS) : Option pS :=
  match s.2.2.2 with
  | .int y :: .int x :: r => if y = 0 then none else some (s.1, s.2.1 + len, s.2.2.1, .int (f x y) :: r)
  | _ => none
def p_bL (f : Int64 → Int64 → Int64) (len : Nat) (s : pS) : Option pS :=
  match s.2.2.2 with
  | .long y :: .long x :: r => some (s.1, s.2.1 + len, s.2.2.1, .long (f x y) :: r)
  | _ => none
def p_cmpL (len : Nat) (s : pS) : Option pS :=
  match s.2.2.2 with
  | .long y :: .long x :: r => some (s.1, s.2.1 + len, s.2.2.1, .int (lg_cmp x y) :: r)
  | _ => none
def p_dup (len : Nat) (s : pS) : Option pS :=
  match s.2.2.2 with
  | v :: r => if v.category = 1 then some (s.1, s.2.1 + len, s.2.2.1, v :: v :: r) else none
  | _ => none
def p_dup2 (len : Nat) (s : pS) : Option pS :=
  match s.2.2.2 with
  | v :: w :: r => if v.category = 1 ∧ w.category = 1 then some (s.1, s.2.1 + len, s.2.2.1, v :: w :: v :: w :: r) else none
  | _ => none
def p_pop (len : Nat) (s : pS) : Option pS :=
  match s.2.2.2 with
  | v :: r => if v.category = 1 then some (s.1, s.2.1 + len, s.2.2.1, r) else none
  | _ => none
def p_cd (c : ClassFile.Cond) (x y : Int32) : Prop :=
  match c with
  | .eq => x = y
  | .ne => ¬ x = y
  | .lt => x < y
  | .ge => y ≤ x
  | .gt => y < x
  | .le => x ≤ y
def p_cb (c : ClassFile.Cond) (x y : Int32) : Bool :=
  match c with
  | .eq => decide (x = y)
  | .ne => decide (¬ x = y)
  | .lt => decide (x < y)
  | .ge => decide (y ≤ x)
  | .gt => decide (y < x)
  | .le => decide (x ≤ y)
theorem p_cb_iff (c : ClassFile.Cond) (x y : Int32) : p_cb c x y = true ↔ p_cd c x y := by
  cases c <;> simp [p_cb, p_cd]
def p_if1 (c : ClassFile.Cond) (tgt len : Nat) (s : pS) : Option pS :=
  match s.2.2.2 with
  | .int x :: r => if p_cb c x 0 = true then some (s.1, tgt, s.2.2.1, r) else some (s.1, s.2.1 + len, s.2.2.1, r)
  | _ => none
def p_if2 (c : ClassFile.Cond) (tgt len : Nat) (s : pS) : Option pS :=
  match s.2.2.2 with
  | .int y :: .int x :: r => if p_cb c x y = true then some (s.1, tgt, s.2.2.1, r) else some (s.1, s.2.1 + len, s.2.2.1, r)
  | _ => none
def p_tsw (dflt lo hi : Int) (offs : Array Int) (s : pS) : Option pS :=
  match s.2.2.2 with
  | .int x :: r =>
    if x.toInt < lo ∨ hi < x.toInt then
      (if 0 ≤ (s.2.1 : Int) + dflt then some (s.1, ((s.2.1 : Int) + dflt).toNat, s.2.2.1, r) else none)
    else match offs[(x.toInt - lo).toNat]? with
      | some off => if 0 ≤ (s.2.1 : Int) + off then some (s.1, ((s.2.1 : Int) + off).toNat, s.2.2.1, r) else none
      | none => none
  | _ => none
def p_lsw (dflt : Int) (ps : Array (Int × Int)) (s : pS) : Option pS :=
  match s.2.2.2 with
  | .int x :: r =>
    if (ps.toList.zip (ps.toList.drop 1)).all (fun (a, next) => a.1 < next.1) = true ∧ 0 ≤ (s.2.1 : Int) + Op.lookupswitch.offset ps.toList dflt x.toInt then
      some (s.1, ((s.2.1 : Int) + Op.lookupswitch.offset ps.toList dflt x.toInt).toNat, s.2.2.1, r)
    else none
  | _ => none
def p_get (N ci k len : Nat) (s : pS) : Option pS :=
  match s.2.2.2 with
  | .ref a :: r => if a < N then (match s.1 a with
    | .inr (.inr (.inr (c, fs))) => if c = ci then (match fs[k]? with
      | some v => some (s.1, s.2.1 + len, s.2.2.1, v :: r)
      | none => none) else none
    | _ => none) else none
  | _ => none
def p_put (N ci k : Nat) (ty : FieldType) (len : Nat) (s : pS) : Option pS :=
  match s.2.2.2 with
  | v :: .ref a :: r => if a < N then (match s.1 a with
    | .inr (.inr (.inr (c, fs))) => if c = ci ∧ k < fs.length ∧ narrow ty v = v ∧ fits ty v = true then some (pu s.1 a (eO c (fs.set k v)), s.2.1 + len, s.2.2.1, r) else none
    | _ => none) else none
  | _ => none
def p_iald (N len : Nat) (s : pS) : Option pS :=
  match s.2.2.2 with
  | .int i :: .ref a :: r => if a < N then (match s.1 a with
    | .inl (n, f) => if i < 0 ∨ n ≤ i.toNatClampNeg then none else some (s.1, s.2.1 + len, s.2.2.1, .int (f i.toNatClampNeg) :: r)
    | _ => none) else none
  | _ => none
def p_lald (N len : Nat) (s : pS) : Option pS :=
  match s.2.2.2 with
  | .int i :: .ref a :: r => if a < N then (match s.1 a with
    | .inr (.inl (n, f)) => if i < 0 ∨ n ≤ i.toNatClampNeg then none else some (s.1, s.2.1 + len, s.2.2.1, .long (f i.toNatClampNeg) :: r)
    | _ => none) else none
  | _ => none
def p_aald (N len : Nat) (s : pS) : Option pS :=
  match s.2.2.2 with
  | .int i :: .ref a :: r => if a < N then (match s.1 a with
    | .inr (.inr (.inl (n, f))) => if i < 0 ∨ n ≤ i.toNatClampNeg then none else (match f i.toNatClampNeg with
      | some b => some (s.1, s.2.1 + len, s.2.2.1, .ref b :: r)
      | none => none)
    | _ => none) else none
  | _ => none
def p_iast (N len : Nat) (s : pS) : Option pS :=
  match s.2.2.2 with
  | .int x :: .int i :: .ref a :: r => if a < N then (match s.1 a with
    | .inl (n, f) => if i < 0 ∨ n ≤ i.toNatClampNeg then none else some (pu s.1 a (eI n (upd f i.toNatClampNeg x)), s.2.1 + len, s.2.2.1, r)
    | _ => none) else none
  | _ => none
def p_last (N len : Nat) (s : pS) : Option pS :=
  match s.2.2.2 with
  | .long x :: .int i :: .ref a :: r => if a < N then (match s.1 a with
    | .inr (.inl (n, f)) => if i < 0 ∨ n ≤ i.toNatClampNeg then none else some (pu s.1 a (eJ n (vp_updL f i.toNatClampNeg x)), s.2.1 + len, s.2.2.1, r)
    | _ => none) else none
  | _ => none
def p_len (e : pE) : Option Nat :=
  match e with
  | .inl (n, _) => some n
  | .inr (.inl (n, _)) => some n
  | .inr (.inr (.inl (n, _))) => some n
  | _ => none
def p_alen (N len : Nat) (s : pS) : Option pS :=
  match s.2.2.2 with
  | .ref a :: r => if a < N then (match p_len (s.1 a) with
    | some n => some (s.1, s.2.1 + len, s.2.2.1, .int (Int32.ofNat n) :: r)
    | none => none) else none
  | _ => none
/-- System.arraycopy of ints -/
def p_copy (N : Nat) (s : pS) : Option pS :=
  match s.2.2.2 with
  | .int n :: .int dp :: .ref b :: .int sp :: .ref a :: r => if a < N ∧ b < N then (match s.1 a, s.1 b with
    | .inl (n0, f), .inl (n1, g) => if (sp < 0 ∨ dp < 0 ∨ n < 0) ∨ n0 < sp.toNatClampNeg + n.toNatClampNeg ∨ n1 < dp.toNatClampNeg + n.toNatClampNeg ∨ 8 < (r.map fun v => v.category).sum then none else
        some (pu s.1 b (eI n1 (va_cpy f g sp.toNatClampNeg dp.toNatClampNeg n.toNatClampNeg)), s.2.1 + 3, s.2.2.1, r)
    | _, _ => none) else none
  | _ => none
/-- Math.max, Math.min -/
def p_mm (b : Bool) (s : pS) : Option pS :=
  match s.2.2.2 with
  | .int y :: .int x :: r => if 8 < (r.map fun v => v.category).sum then none else some (s.1, s.2.1 + 3, s.2.2.1, .int (if b = true then (if x < y then y else x) else (if y < x then y else x)) :: r)
  | _ => none
/-- what isn't walked: 2 arraycopy, 3 max, 4 min -/
def p_nat (N c : Nat) (s : pS) : Option pS := if c = 2 then p_copy N s else if c = 3 then p_mm true s else if c = 4 then p_mm false s else none
def p_step (N : Nat) (Cs : List pCi) (mx : Nat) (i : Instr) (len : Nat) (a : Nat × Nat × Nat) (s : pS) : Option pS :=
  match i with
  | .aload_n k => p_ld p_isR k len s
  | .aload k => p_ld p_isR k len s
  | .iload_n k => p_ld p_isI k len s
  | .iload k => p_ld p_isI k len s
  | .lload_n k => p_ld p_isL k len s
  | .lload k => p_ld p_isL k len s
  | .istore_n k => p_st1 p_isI mx k len s
  | .istore k => p_st1 p_isI mx k len s
  | .astore_n k => p_st1 p_isR mx k len s
  | .lstore_n k => p_st2 mx k len s
  | .lstore k => p_st2 mx k len s
  | .iinc k n => p_iinc mx k n len s
  | .iconst n => p_push (.int (Int32.ofInt n)) len s
  | .bipush n => p_push (.int (Int8.ofInt n).toInt32) len s
  | .sipush n => p_push (.int (Int16.ofInt n).toInt32) len s
  | .lconst n => p_push (.long (Int64.ofNat (n : Nat))) len s
  | .ldc _ => p_push (.int (Int32.ofNat a.1)) len s
  | .ldc_w _ => p_push (.int (Int32.ofNat a.1)) len s
  | .ldc2_w _ => p_push (.long (if a.2.1 = 1 then -(Int64.ofNat a.1) else Int64.ofNat a.1)) len s
  | .iadd => p_bI (fun x y => x + y) len s
  | .isub => p_bI (fun x y => x - y) len s
  | .imul => p_bI (fun x y => x * y) len s
  | .iand => p_bI (fun x y => x &&& y) len s
  | .ior => p_bI (fun x y => x ||| y) len s
  | .ixor => p_bI (fun x y => x ^^^ y) len s
  | .idiv => p_bD (fun x y => x / y) len s
  | .irem => p_bD (fun x y => x - x / y * y) len s
  | .ishl => p_bI (fun x y => x <<< (y &&& 31)) len s
  | .ishr => p_bI (fun x y => x >>> (y &&& 31)) len s
  | .iushr => p_bI (fun x y => (x.toUInt32 >>> (y.toUInt32 &&& Int32.toUInt32 31)).toInt32) len s
  | .ladd => p_bL (fun x y => x + y) len s
  | .lmul => p_bL (fun x y => x * y) len s
  | .lcmp => p_cmpL len s
  | .dup => p_dup len s
  | .dup2 => p_dup2 len s
  | .pop => p_pop len s
  | .goto _ => some (s.1, a.1, s.2.2.1, s.2.2.2)
  | .ifCond c _ => p_if1 c a.1 len s
  | .if_icmp c _ => p_if2 c a.1 len s
  | .tableswitch d lo hi o => p_tsw d lo hi o s
  | .lookupswitch d ps => p_lsw d ps s
  | .getfield _ => p_get N a.1 a.2.1 len s
  | .putfield _ => (match Cs[a.1]? with
    | some q => p_put N a.1 a.2.1 (q.2 a.2.1) len s
    | none => none)
  | .iaload => p_iald N len s
  | .laload => p_lald N len s
  | .aaload => p_aald N len s
  | .iastore => p_iast N len s
  | .lastore => p_last N len s
  | .arraylength => p_alen N len s
  | _ => none
/-- 0: a step; 1: a return; 2: a call -/
def p_kd (i : Instr) : Nat :=
  match i with
  | .ireturn => 1
  | .lreturn => 1
  | .areturn => 1
  | .return_ => 1
  | .invokevirtual _ => 2
  | .invokestatic _ => 2
  | _ => 0
def p_ret (rt : Option FieldType) (i : Instr) (s : pS) : Option (Option Value × pH) :=
  match i, rt, s.2.2.2 with
  | .ireturn, some t, [.int v] => if narrow t (.int v) = .int v then some (some (.int v), s.1) else none
  | .lreturn, some .long, [.long v] => some (some (.long v), s.1)
  | .areturn, some (.object _), [.ref v] => some (some (.ref v), s.1)
  | .return_, none, [] => some (none, s.1)
  | _, _, _ => none
/-- the arguments of a call, what is left of the stack -/
def p_args (N : Nat) (i : Instr) (na ci : Nat) (s : pS) : Option (List Value × List Value) :=
  match i with
  | .invokevirtual _ => (match s.2.2.2.drop na with
    | .ref r :: rest => if r < N ∧ na ≤ s.2.2.2.length ∧ (rest.map fun v => v.category).sum ≤ 8 then (match s.1 r with
      | .inr (.inr (.inr (c, _))) => if c = ci then some (.ref r :: (s.2.2.2.take na).reverse, rest) else none
      | _ => none) else none
    | _ => none)
  | .invokestatic _ => if na ≤ s.2.2.2.length ∧ ((s.2.2.2.drop na).map fun v => v.category).sum ≤ 8 then some ((s.2.2.2.take na).reverse, s.2.2.2.drop na) else none
  | _ => none
/-- a call of what isn't walked: its row's c is 2 or more -/
def p_isCp (i : Instr) (c : Nat) : Bool :=
  match i with
  | .invokestatic _ => decide (2 ≤ c)
  | _ => false
def p_run (N : Nat) (Cs : List pCi) (Ms : List pM) : Nat → Nat → pM → pS → Option (Option Value × pH)
  | 0, _, _, _ => none
  | n + 1, d, M, s0 =>
    match List.lookup s0.2.1 M.2.2.2.2.2 with
    | none => none
    | some (i, len, a, _, ks) =>
      match (s0.1, s0.2.1, p_live ks s0.2.2.1, s0.2.2.2) with
      | s => match p_kd i with
        | 0 => (match p_step N Cs M.2.2.1 i len a s with
          | some s' => p_run N Cs Ms n d M s'
          | none => none)
        | 1 => p_ret M.2.2.2.1 i s
        | _ => (match d with
          | 0 => none
          | d' + 1 => if p_isCp i a.2.2 = true then (match p_nat N a.2.2 s with
              | some s' => p_run N Cs Ms n (d' + 1) M s'
              | none => none)
            else (match p_args N i a.2.1 a.2.2 s with
              | some (vs, rest) => (match Ms[a.1]? with
                | some M' => if (lg_sl vs).length ≤ M'.2.2.1 then (match p_run N Cs Ms n d' M' (s.1, 0, lv_args 0 vs, []) with
                  | some (r, h') => p_run N Cs Ms n (d' + 1) M (h', s.2.1 + 3, s.2.2.1, r.toList ++ rest)
                  | none => none) else none
                | none => none)
              | none => none))
end
section
/-! WHAT THE PURE MACHINE DOES, THE MACHINE DOES: the tie between places and cells, the words, a step, a run, a contract. -/
def p_v (ad : Nat → Nat) : Value → Value
  | .ref a => .ref (ad a)
  | v => v
def p_e (k : ClassId × ClassId × ClassId) (ad : Nat → Nat) : pE → va_E
  | .inl (n, f) => .inl (k.1, n, .inl f)
  | .inr (.inl (n, f)) => .inl (k.2.1, n, .inr (.inl f))
  | .inr (.inr (.inl (n, f))) => .inl (k.2.2, n, .inr (.inr (.inr (.inr (fun i => (f i).map ad)))))
  | .inr (.inr (.inr (c, fs))) => .inr (c, fs.map (p_v ad))
def p_wm (k : ClassId × ClassId × ClassId) (ad : Nat → Nat) (N : Nat) (h : pH) : va_W := (List.range N).map (fun j => (ad j, p_e k ad (h j)))
def p_tys (k : ClassId × ClassId × ClassId) : List (ClassId × FieldType) := [(k.1, .int), (k.2.1, .long), (k.2.2, .array .long)]
def p_A (ad : Nat → Nat) (N : Nat) : Nat → Prop := fun q => ∃ j, j < N ∧ q = ad j
def p_lv (ad : Nat → Nat) (lv : pLv) : pLv := lv.map (fun q => (q.1, p_v ad q.2))
theorem p_v_cat (ad : Nat → Nat) (v : Value) : (p_v ad v).category = v.category := by cases v <;> rfl
theorem p_wm_get {k : ClassId × ClassId × ClassId} {ad : Nat → Nat} {N : Nat} {h : pH} {j : Nat} (hj : j < N) : (p_wm k ad N h)[j]? = some (ad j, p_e k ad (h j)) := by
  simp [p_wm, hj]
theorem p_wm_set {k : ClassId × ClassId × ClassId} {ad : Nat → Nat} {N : Nat} {h : pH} (j : Nat) (x : pE) : (p_wm k ad N h).set j (ad j, p_e k ad x) = p_wm k ad N (pu h j x) := by
  apply List.ext_getElem?
  intro i
  by_cases hi : i < N
  · by_cases e : j = i
    · subst e
      rw [List.getElem?_set_self (by simp [p_wm, hi]), p_wm_get hi]
      simp [pu]
    · rw [List.getElem?_set_ne e, p_wm_get hi, p_wm_get hi]
      simp [pu, Ne.symm e]
  · rw [List.getElem?_eq_none (by simp [p_wm]; omega), List.getElem?_eq_none (by simp [p_wm]; omega)]
theorem p_wm_D {k : ClassId × ClassId × ClassId} {ad : Nat → Nat} {N : Nat} (inj : ∀ i j, i < N → j < N → ad i = ad j → i = j) (h : pH) : va_D (p_A ad N) (p_wm k ad N h) := by
  have lt : ∀ {i : Nat} {q : Nat × va_E}, (p_wm k ad N h)[i]? = some q → i < N := fun {i q} hi => by
    have := (List.getElem?_eq_some_iff.mp hi).1
    simpa [p_wm] using this
  refine ⟨fun i j p q hi hj hpq => ?_, fun i q hi => ?_⟩
  · have h1 := lt hi
    have h2 := lt hj
    rw [p_wm_get h1] at hi
    rw [p_wm_get h2] at hj
    cases hi
    cases hj
    exact inj i j h1 h2 hpq
  · have h1 := lt hi
    rw [p_wm_get h1] at hi
    cases hi
    exact ⟨i, h1, rfl⟩
theorem p_look {i : Nat} {v : Value} : ∀ {lv : pLv}, List.lookup i lv = some v → (i, v) ∈ lv
  | [], h => by simp at h
  | (j, w) :: r, h => by
    rw [List.lookup_cons] at h
    by_cases e : i = j
    · subst e
      simp at h
      subst h
      exact List.mem_cons_self
    · have e2 : (i == j) = false := by simpa using e
      rw [e2] at h
      exact List.mem_cons_of_mem _ (p_look h)
theorem p_lv_at {ad : Nat → Nat} {ls : Array Slot} {nL i : Nat} {lv : pLv} {v : Value} (hl : lv_has ls nL (p_lv ad lv)) (h : List.lookup i lv = some v) : ls[i]? = some (.val (p_v ad v)) :=
  hl.2.2 (i, p_v ad v) (List.mem_map.mpr ⟨(i, v), p_look h, rfl⟩)
theorem p_ins_mem {i : Nat} {v : Value} {q : Nat × Value} : ∀ {lv : pLv}, q ∈ p_ins i v lv → q = (i, v) ∨ q ∈ lv
  | [], h => Or.inl (by simpa [p_ins] using h)
  | x :: r, h => by
    unfold p_ins at h
    split at h
    · exact List.mem_cons.mp h
    · rcases List.mem_cons.mp h with h | h
      · exact Or.inr (by rw [h]; exact List.mem_cons_self)
      · rcases p_ins_mem h with h | h
        · exact Or.inl h
        · exact Or.inr (List.mem_cons_of_mem _ h)
theorem p_lv_mono {ad : Nat → Nat} {ls : Array Slot} {nL : Nat} {l : pLv} {lv : pLv} (h : lv_has ls nL l) (hm : ∀ q ∈ lv, (q.1, p_v ad q.2) ∈ l) : lv_has ls nL (p_lv ad lv) := by
  refine ⟨h.1, h.2.1, fun q hq => ?_⟩
  obtain ⟨x, hx, rfl⟩ := List.mem_map.mp hq
  exact h.2.2 _ (hm x hx)
theorem p_lv_live {ad : Nat → Nat} {ls : Array Slot} {nL : Nat} {lv : pLv} (ks : List Nat) (h : lv_has ls nL (p_lv ad lv)) : lv_has ls nL (p_lv ad (p_live ks lv)) := by
  refine p_lv_mono h (fun q hq => ?_)
  unfold p_live at hq
  split at hq
  · exact List.mem_map.mpr ⟨q, hq, rfl⟩
  · exact List.mem_map.mpr ⟨q, (List.mem_filter.mp hq).1, rfl⟩
theorem p_lv_s1 {ad : Nat → Nat} {ls : Array Slot} {nL i : Nat} {v : Value} {lv : pLv} (h : lv_has ls nL ((i, p_v ad v) :: (p_lv ad lv).filter (fun q => !(q.1 == i) && !(q.1 + 1 == i && q.2.category == 2)))) : lv_has ls nL (p_lv ad (p_s1 i v lv)) := by
  refine p_lv_mono h (fun q hq => ?_)
  rcases p_ins_mem hq with rfl | hq
  · exact List.mem_cons_self
  · obtain ⟨h1, h2⟩ := List.mem_filter.mp hq
    refine List.mem_cons_of_mem _ (List.mem_filter.mpr ⟨List.mem_map.mpr ⟨q, h1, rfl⟩, ?_⟩)
    simpa [p_v_cat] using h2
theorem p_lv_s2 {ad : Nat → Nat} {ls : Array Slot} {nL i : Nat} {v : Value} {lv : pLv} (h : lv_has ls nL ((i, p_v ad v) :: (p_lv ad lv).filter (fun q => !(q.1 == i) && (!(q.1 == i + 1) && !(q.1 + 1 == i && q.2.category == 2))))) : lv_has ls nL (p_lv ad (p_s2 i v lv)) := by
  refine p_lv_mono h (fun q hq => ?_)
  rcases p_ins_mem hq with rfl | hq
  · exact List.mem_cons_self
  · obtain ⟨h1, h2⟩ := List.mem_filter.mp hq
    refine List.mem_cons_of_mem _ (List.mem_filter.mpr ⟨List.mem_map.mpr ⟨q, h1, rfl⟩, ?_⟩)
    simpa [p_v_cat] using h2
theorem p_lv_args (ad : Nat → Nat) : ∀ (vs : List Value) (i : Nat), lv_args i (vs.map (p_v ad)) = p_lv ad (lv_args i vs)
  | [], _ => rfl
  | v :: vs, i => by
    simp only [List.map_cons, lv_args, p_v_cat, p_lv]
    congr 1
    exact p_lv_args ad vs _
theorem p_sl_len (ad : Nat → Nat) : ∀ (vs : List Value), (lg_sl (vs.map (p_v ad))).length = (lg_sl vs).length
  | [] => rfl
  | v :: vs => by
    have ih := p_sl_len ad vs
    unfold lg_sl at ih ⊢
    simp only [List.map_cons, List.flatMap_cons, List.length_append, p_v_cat, ih]
    split <;> rfl
theorem p_cats (ad : Nat → Nat) (vs : List Value) : ((vs.map (p_v ad)).map fun v => v.category).sum = (vs.map fun v => v.category).sum := by
  rw [List.map_map]
  congr 1
  apply List.map_congr_left
  intro v _
  exact p_v_cat ad v
/-! the words -/
def p_W : List Jvm.Cond := lw_tbl.filter goodWord
def p_word (i : Nat) (w : Jvm.Cond) : Bool := decide (lw_tbl[i]? = some w) && goodWord w
theorem p_word_in {i : Nat} {w : Jvm.Cond} (h : p_word i w = true) : w ∈ p_W := by
  simp only [p_word, Bool.and_eq_true, decide_eq_true_eq] at h
  exact List.mem_filter.mpr ⟨List.mem_of_getElem? h.1, h.2⟩
def p_isNest : Jvm.Cond → Bool
  | .methodLinkNest _ _ _ _ => true
  | _ => false
def p_nest (U : State) : Prop := ∀ w ∈ lw_tbl, p_isNest w = true → va_Nw w U
theorem p_nest.warm {s U : State} (hW : s.WarmedH U.vm) (h : p_nest s) : p_nest U := fun w hw hn => by
  have h1 := h w hw hn
  cases w <;> first | (simp [p_isNest] at hn; done) | exact va_Nw.warmM hW h1
theorem p_nest.same {u U : State} (hvm : u.vm = U.vm) (h : p_nest u) : p_nest U := fun w hw hn => by
  have h1 := h w hw hn
  cases w <;> first | (simp [p_isNest] at hn; done) | exact va_Nw.same rfl hvm h1
def p_ws (M : pM) : List Jvm.Cond := .code M.1 M.2.1 M.2.2.1 M.2.2.2.1 :: p_W
theorem p_good {w : Jvm.Cond} (h : w ∈ p_W) : (w.onTables && w.keeps) = true ∨ ∃ ty, w = .arrayClass ty := good_of_word (List.mem_filter.mp h).2
theorem p_ws_good {M M' : pM} (h : Jvm.Cond.code M'.1 M'.2.1 M'.2.2.1 M'.2.2.2.1 ∈ p_W) : GoodIn (p_ws M) (p_ws M') := fun w hw => by
  rcases List.mem_cons.mp hw with e | hw
  · subst e
    exact ⟨List.mem_cons_of_mem _ h, p_good h⟩
  · exact ⟨List.mem_cons_of_mem _ hw, p_good hw⟩
/-- frames d, locals 30 a frame -/
def p_rm (d : Nat) : Room := { frames := d, cells := 0, slots := 0, locals := 30 * d }
/-- how long an instruction is, as the rows want it -/
def p_ln (i : Instr) : Option Nat :=
  match i with
  | .aload _ => some 2
  | .iload _ => some 2
  | .lload _ => some 2
  | .istore _ => some 2
  | .lstore _ => some 2
  | .bipush _ => some 2
  | .ldc _ => some 2
  | .iinc _ _ => some 3
  | .sipush _ => some 3
  | .ldc_w _ => some 3
  | .ldc2_w _ => some 3
  | .goto _ => some 3
  | .ifCond _ _ => some 3
  | .if_icmp _ _ => some 3
  | .getfield _ => some 3
  | .putfield _ => some 3
  | .invokevirtual _ => some 3
  | .invokestatic _ => some 3
  | .tableswitch _ _ _ _ => none
  | .lookupswitch _ _ => none
  | _ => some 1
def p_okL (i : Instr) (len : Nat) : Bool :=
  match p_ln i with
  | some k => len == k
  | none => true
def p_okY (M' : pM) (na : Nat) : Bool :=
  decide (M'.1.cls ≠ "java/lang/invoke/MethodHandle") && decide (M'.1.cls ≠ "java/lang/invoke/VarHandle") && decide ((parseMethodDescriptor M'.1.desc).map (fun d => d.parameters.length) = some na)
def p_okW (Cs : List pCi) (Ms : List pM) (own : String) (q : pI) : Bool :=
  match q.2.1 with
  | .goto off => decide ((q.1 : Int) + off = (q.2.2.2.1.1 : Int))
  | .ifCond _ off => decide ((q.1 : Int) + off = (q.2.2.2.1.1 : Int))
  | .if_icmp _ off => decide ((q.1 : Int) + off = (q.2.2.2.1.1 : Int))
  | .ldc idx => p_word (q.2.2.2.2.1.getD 0 0) (.constant own idx (Int32.ofNat q.2.2.2.1.1))
  | .ldc_w idx => p_word (q.2.2.2.2.1.getD 0 0) (.constant own idx (Int32.ofNat q.2.2.2.1.1))
  | .ldc2_w idx => p_word (q.2.2.2.2.1.getD 0 0) (.constantLong own idx (if q.2.2.2.1.2.1 = 1 then -(Int64.ofNat q.2.2.2.1.1) else Int64.ofNat q.2.2.2.1.1))
  | .getfield idx => (match Cs[q.2.2.2.1.1]? with
    | some C => decide (q.2.2.2.1.2.1 < C.1.2.2) && p_word (q.2.2.2.2.1.getD 0 0) (.fieldLink own idx (C.1.2.1 q.2.2.2.1.2.1).1 (C.1.2.1 q.2.2.2.1.2.1).2.1 (C.1.2.1 q.2.2.2.1.2.1).2.2.1)
    | none => false)
  | .putfield idx => (match Cs[q.2.2.2.1.1]? with
    | some C => decide (q.2.2.2.1.2.1 < C.1.2.2) && !(C.1.2.1 q.2.2.2.1.2.1).2.2.2 && p_word (q.2.2.2.2.1.getD 0 0) (.fieldLink own idx (C.1.2.1 q.2.2.2.1.2.1).1 (C.1.2.1 q.2.2.2.1.2.1).2.1 (C.1.2.1 q.2.2.2.1.2.1).2.2.1)
    | none => false)
  | .invokevirtual idx => (match Ms[q.2.2.2.1.1]? with
    | some M' => p_okY M' q.2.2.2.1.2.1 && p_word (q.2.2.2.2.1.getD 0 0) (.methodLink own idx M'.1) && p_word (q.2.2.2.2.1.getD 1 0) (.instanceMethod M'.1) && p_word (q.2.2.2.2.1.getD 2 0) (.selects M'.1.cls M'.1 M'.1) && p_word (q.2.2.2.2.1.getD 3 0) (.initialized M'.1.cls) && decide ((Cs[q.2.2.2.1.2.2]?).map (fun C => C.1.1) = some M'.1.cls)
    | none => false)
  | .invokestatic idx => if q.2.2.2.1.2.2 = 2 then
      p_word (q.2.2.2.2.1.getD 0 0) (.methodLink own idx arraycopyName) && p_word (q.2.2.2.2.1.getD 1 0) (.native arraycopyName) && p_word (q.2.2.2.2.1.getD 2 0) (.static arraycopyName) && p_word (q.2.2.2.2.1.getD 3 0) (.initialized "java/lang/System")
    else if q.2.2.2.1.2.2 = 3 then
      p_word (q.2.2.2.2.1.getD 0 0) (.methodLink own idx Lib.Math.max.name) && p_word (q.2.2.2.2.1.getD 1 0) (.static Lib.Math.max.name) && p_word (q.2.2.2.2.1.getD 2 0) (.initialized "java/lang/Math") && p_word (q.2.2.2.2.1.getD 3 0) (.code Lib.Math.max.name Lib.Math.max.code 2 (some .int))
    else if q.2.2.2.1.2.2 = 4 then
      p_word (q.2.2.2.2.1.getD 0 0) (.methodLink own idx Lib.Math.min.name) && p_word (q.2.2.2.2.1.getD 1 0) (.static Lib.Math.min.name) && p_word (q.2.2.2.2.1.getD 2 0) (.initialized "java/lang/Math") && p_word (q.2.2.2.2.1.getD 3 0) (.code Lib.Math.min.name Lib.Math.min.code 2 (some .int))
    else (match Ms[q.2.2.2.1.1]? with
    | some M' => p_okY M' q.2.2.2.1.2.1 && p_word (q.2.2.2.2.1.getD 1 0) (.static M'.1) && p_word (q.2.2.2.2.1.getD 2 0) (.initialized M'.1.cls) &&
        (if q.2.2.2.1.2.2 = 1 then decide (lw_tbl[q.2.2.2.2.1.getD 0 0]? = some (.methodLinkNest own idx M'.1 "LabelTree")) else p_word (q.2.2.2.2.1.getD 0 0) (.methodLink own idx M'.1))
    | none => false)
  | _ => true
def p_okI (Cs : List pCi) (Ms : List pM) (M : pM) (q : pI) : Bool :=
  decide (decode M.2.1 q.1 = .ok (q.2.1, q.2.2.1)) && p_okL q.2.1 q.2.2.1 && p_okW Cs Ms M.1.cls q
def p_okM (Cs : List pCi) (Ms : List pM) (M : pM) : Prop :=
  (∀ q ∈ M.2.2.2.2.2, p_okI Cs Ms M q = true) ∧ Jvm.Cond.code M.1 M.2.1 M.2.2.1 M.2.2.2.1 ∈ p_W ∧ plainName M.1.cls = true ∧ M.2.2.1 ≤ 11
/-- what is known of the classes -/
def p_okC (Cs : List pCi) : Prop := ∀ (ci : Nat) (q : pCi), Cs[ci]? = some q → (∀ w ∈ u_ws q.1.1 q.1.2.1 q.1.2.2, w ∈ p_W) ∧ (∀ k, k < q.1.2.2 → parseFieldDescriptor (q.1.2.1 k).2.2.1 = some (q.2 k)) ∧ (∀ a, a < q.1.2.2 → ∀ b, b < q.1.2.2 → a ≠ b → (q.1.2.1 a).2.1 ≠ (q.1.2.1 b).2.1)
theorem p_fit {ty : FieldType} {ad : Nat → Nat} {v : Value} (h1 : narrow ty v = v) (h2 : fits ty v = true) : narrow ty (p_v ad v) = p_v ad v ∧ fits ty (p_v ad v) = true := by
  cases v with
  | ref a => cases ty <;> first | (simp [fits] at h2; done) | exact ⟨rfl, rfl⟩
  | _ => exact ⟨h1, h2⟩
end
section
/-! a step of the pure machine is a step of the machine -/
theorem p_ld_inv {t : Value → Bool} {i len : Nat} {s s' : pS} (h : p_ld t i len s = some s') : ∃ v, List.lookup i s.2.2.1 = some v ∧ t v = true ∧ s' = (s.1, s.2.1 + len, s.2.2.1, v :: s.2.2.2) := by
  unfold p_ld at h
  split at h
  · rename_i v hv
    split at h
    · rename_i ht
      exact ⟨v, hv, ht, (Option.some.inj h).symm⟩
    · cases h
  · cases h
theorem p_st1_inv {t : Value → Bool} {mx i len : Nat} {s s' : pS} (h : p_st1 t mx i len s = some s') : ∃ v r, s.2.2.2 = v :: r ∧ t v = true ∧ i < mx ∧ s' = (s.1, s.2.1 + len, p_s1 i v s.2.2.1, r) := by
  unfold p_st1 at h
  split at h
  · rename_i v r hv
    split at h
    · rename_i ht
      exact ⟨v, r, hv, ht.1, ht.2, (Option.some.inj h).symm⟩
    · cases h
  · cases h
theorem p_st2_inv {mx i len : Nat} {s s' : pS} (h : p_st2 mx i len s = some s') : ∃ v r, s.2.2.2 = v :: r ∧ p_isL v = true ∧ i + 1 < mx ∧ s' = (s.1, s.2.1 + len, p_s2 i v s.2.2.1, r) := by
  unfold p_st2 at h
  split at h
  · rename_i v r hv
    split at h
    · rename_i ht
      exact ⟨v, r, hv, ht.1, ht.2, (Option.some.inj h).symm⟩
    · cases h
  · cases h
theorem p_iinc_inv {mx i len : Nat} {n : Int} {s s' : pS} (h : p_iinc mx i n len s = some s') : ∃ x, List.lookup i s.2.2.1 = some (.int x) ∧ i < mx ∧ s' = (s.1, s.2.1 + len, p_s1 i (.int (x + Int32.ofInt n)) s.2.2.1, s.2.2.2) := by
  unfold p_iinc at h
  split at h
  · rename_i x hv
    split at h
    · rename_i ht
      exact ⟨x, hv, ht, (Option.some.inj h).symm⟩
    · cases h
  · cases h
theorem p_bI_inv {f : Int32 → Int32 → Int32} {len : Nat} {s s' : pS} (h : p_bI f len s = some s') : ∃ x y r, s.2.2.2 = .int y :: .int x :: r ∧ s' = (s.1, s.2.1 + len, s.2.2.1, .int (f x y) :: r) := by
  unfold p_bI at h
  split at h
  · rename_i y x r hv
    exact ⟨x, y, r, hv, (Option.some.inj h).symm⟩
  · cases h
theorem p_bD_inv {f : Int32 → Int32 → Int32} {len : Nat} {s s' : pS} (h : p_bD f len s = some s') : ∃ x y r, s.2.2.2 = .int y :: .int x :: r ∧ ¬ y = 0 ∧ s' = (s.1, s.2.1 + len, s.2.2.1, .int (f x y) :: r) := by
  unfold p_bD at h
  split at h
  · rename_i y x r hv
    split at h
    · cases h
    · rename_i hn
      exact ⟨x, y, r, hv, hn, (Option.some.inj h).symm⟩
  · cases h
theorem p_bL_inv {f : Int64 → Int64 → Int64} {len : Nat} {s s' : pS} (h : p_bL f len s = some s') : ∃ x y r, s.2.2.2 = .long y :: .long x :: r ∧ s' = (s.1, s.2.1 + len, s.2.2.1, .long (f x y) :: r) := by
  unfold p_bL at h
  split at h
  · rename_i y x r hv
    exact ⟨x, y, r, hv, (Option.some.inj h).symm⟩
  · cases h
theorem p_cmpL_inv {len : Nat} {s s' : pS} (h : p_cmpL len s = some s') : ∃ x y r, s.2.2.2 = .long y :: .long x :: r ∧ s' = (s.1, s.2.1 + len, s.2.2.1, .int (lg_cmp x y) :: r) := by
  unfold p_cmpL at h
  split at h
  · rename_i y x r hv
    exact ⟨x, y, r, hv, (Option.some.inj h).symm⟩
  · cases h
theorem p_dup_inv {len : Nat} {s s' : pS} (h : p_dup len s = some s') : ∃ v r, s.2.2.2 = v :: r ∧ v.category = 1 ∧ s' = (s.1, s.2.1 + len, s.2.2.1, v :: v :: r) := by
  unfold p_dup at h
  split at h
  · rename_i v r hv
    split at h
    · rename_i hc
      exact ⟨v, r, hv, hc, (Option.some.inj h).symm⟩
    · cases h
  · cases h
theorem p_dup2_inv {len : Nat} {s s' : pS} (h : p_dup2 len s = some s') : ∃ v w r, s.2.2.2 = v :: w :: r ∧ v.category = 1 ∧ w.category = 1 ∧ s' = (s.1, s.2.1 + len, s.2.2.1, v :: w :: v :: w :: r) := by
  unfold p_dup2 at h
  split at h
  · rename_i v w r hv
    split at h
    · rename_i hc
      exact ⟨v, w, r, hv, hc.1, hc.2, (Option.some.inj h).symm⟩
    · cases h
  · cases h
theorem p_pop_inv {len : Nat} {s s' : pS} (h : p_pop len s = some s') : ∃ v r, s.2.2.2 = v :: r ∧ v.category = 1 ∧ s' = (s.1, s.2.1 + len, s.2.2.1, r) := by
  unfold p_pop at h
  split at h
  · rename_i v r hv
    split at h
    · rename_i hc
      exact ⟨v, r, hv, hc, (Option.some.inj h).symm⟩
    · cases h
  · cases h
theorem p_if1_inv {c : ClassFile.Cond} {tgt len : Nat} {s s' : pS} (h : p_if1 c tgt len s = some s') : ∃ x r, s.2.2.2 = .int x :: r ∧ ((p_cd c x 0 ∧ s' = (s.1, tgt, s.2.2.1, r)) ∨ (¬ p_cd c x 0 ∧ s' = (s.1, s.2.1 + len, s.2.2.1, r))) := by
  unfold p_if1 at h
  split at h
  · rename_i x r hv
    split at h
    · rename_i hc
      exact ⟨x, r, hv, Or.inl ⟨(p_cb_iff _ _ _).mp hc, (Option.some.inj h).symm⟩⟩
    · rename_i hc
      exact ⟨x, r, hv, Or.inr ⟨fun q => hc ((p_cb_iff _ _ _).mpr q), (Option.some.inj h).symm⟩⟩
  · cases h
theorem p_if2_inv {c : ClassFile.Cond} {tgt len : Nat} {s s' : pS} (h : p_if2 c tgt len s = some s') : ∃ x y r, s.2.2.2 = .int y :: .int x :: r ∧ ((p_cd c x y ∧ s' = (s.1, tgt, s.2.2.1, r)) ∨ (¬ p_cd c x y ∧ s' = (s.1, s.2.1 + len, s.2.2.1, r))) := by
  unfold p_if2 at h
  split at h
  · rename_i y x r hv
    split at h
    · rename_i hc
      exact ⟨x, y, r, hv, Or.inl ⟨(p_cb_iff _ _ _).mp hc, (Option.some.inj h).symm⟩⟩
    · rename_i hc
      exact ⟨x, y, r, hv, Or.inr ⟨fun q => hc ((p_cb_iff _ _ _).mpr q), (Option.some.inj h).symm⟩⟩
  · cases h
theorem p_tsw_inv {dflt lo hi : Int} {offs : Array Int} {s s' : pS} (h : p_tsw dflt lo hi offs s = some s') : ∃ x r tgt, s.2.2.2 = .int x :: r ∧ s' = (s.1, tgt, s.2.2.1, r) ∧
    (((x.toInt < lo ∨ hi < x.toInt) ∧ (s.2.1 : Int) + dflt = (tgt : Int)) ∨ (¬ x.toInt < lo ∧ ¬ hi < x.toInt ∧ ∃ off, offs[(x.toInt - lo).toNat]? = some off ∧ (s.2.1 : Int) + off = (tgt : Int))) := by
  unfold p_tsw at h
  split at h
  · rename_i x r hv
    split at h
    · rename_i hc
      split at h
      · rename_i h0
        exact ⟨x, r, _, hv, (Option.some.inj h).symm, Or.inl ⟨hc, by omega⟩⟩
      · cases h
    · rename_i hc
      split at h
      · rename_i off ho
        split at h
        · rename_i h0
          exact ⟨x, r, _, hv, (Option.some.inj h).symm, Or.inr ⟨fun q => hc (Or.inl q), fun q => hc (Or.inr q), off, ho, by omega⟩⟩
        · cases h
      · cases h
  · cases h
theorem p_lsw_inv {dflt : Int} {ps : Array (Int × Int)} {s s' : pS} (h : p_lsw dflt ps s = some s') : ∃ x r tgt, s.2.2.2 = .int x :: r ∧ s' = (s.1, tgt, s.2.2.1, r) ∧
    (ps.toList.zip (ps.toList.drop 1)).all (fun (a, next) => a.1 < next.1) = true ∧ (s.2.1 : Int) + Op.lookupswitch.offset ps.toList dflt x.toInt = (tgt : Int) := by
  unfold p_lsw at h
  split at h
  · rename_i x r hv
    split at h
    · rename_i hc
      exact ⟨x, r, _, hv, (Option.some.inj h).symm, hc.1, by omega⟩
    · cases h
  · cases h
theorem p_get_inv {N ci k len : Nat} {s s' : pS} (h : p_get N ci k len s = some s') : ∃ a r fs v, s.2.2.2 = .ref a :: r ∧ a < N ∧ s.1 a = eO ci fs ∧ fs[k]? = some v ∧ s' = (s.1, s.2.1 + len, s.2.2.1, v :: r) := by
  unfold p_get at h
  split at h
  · rename_i a r hv
    split at h
    · rename_i ha
      split at h
      · rename_i c fs he
        split at h
        · rename_i hc
          split at h
          · rename_i v hk
            subst hc
            exact ⟨a, r, fs, v, hv, ha, he, hk, (Option.some.inj h).symm⟩
          · cases h
        · cases h
      · cases h
    · cases h
  · cases h
theorem p_put_inv {N ci k len : Nat} {ty : FieldType} {s s' : pS} (h : p_put N ci k ty len s = some s') : ∃ v a r fs, s.2.2.2 = v :: .ref a :: r ∧ a < N ∧ s.1 a = eO ci fs ∧ k < fs.length ∧ narrow ty v = v ∧ fits ty v = true ∧ s' = (pu s.1 a (eO ci (fs.set k v)), s.2.1 + len, s.2.2.1, r) := by
  unfold p_put at h
  split at h
  · rename_i v a r hv
    split at h
    · rename_i ha
      split at h
      · rename_i c fs he
        split at h
        · rename_i hc
          obtain ⟨h1, h2, h3, h4⟩ := hc
          subst h1
          exact ⟨v, a, r, fs, hv, ha, he, h2, h3, h4, (Option.some.inj h).symm⟩
        · cases h
      · cases h
    · cases h
  · cases h
theorem p_iald_inv {N len : Nat} {s s' : pS} (h : p_iald N len s = some s') : ∃ i a r n f, s.2.2.2 = .int i :: .ref a :: r ∧ a < N ∧ s.1 a = eI n f ∧ vp_in i n ∧ s' = (s.1, s.2.1 + len, s.2.2.1, .int (f i.toNatClampNeg) :: r) := by
  unfold p_iald at h
  split at h
  · rename_i i a r hv
    split at h
    · rename_i ha
      split at h
      · rename_i n f he
        split at h
        · cases h
        · rename_i hc
          exact ⟨i, a, r, n, f, hv, ha, he, hc, (Option.some.inj h).symm⟩
      · cases h
    · cases h
  · cases h
theorem p_lald_inv {N len : Nat} {s s' : pS} (h : p_lald N len s = some s') : ∃ i a r n f, s.2.2.2 = .int i :: .ref a :: r ∧ a < N ∧ s.1 a = eJ n f ∧ vp_in i n ∧ s' = (s.1, s.2.1 + len, s.2.2.1, .long (f i.toNatClampNeg) :: r) := by
  unfold p_lald at h
  split at h
  · rename_i i a r hv
    split at h
    · rename_i ha
      split at h
      · rename_i n f he
        split at h
        · cases h
        · rename_i hc
          exact ⟨i, a, r, n, f, hv, ha, he, hc, (Option.some.inj h).symm⟩
      · cases h
    · cases h
  · cases h
theorem p_aald_inv {N len : Nat} {s s' : pS} (h : p_aald N len s = some s') : ∃ i a r n f b, s.2.2.2 = .int i :: .ref a :: r ∧ a < N ∧ s.1 a = eR n f ∧ vp_in i n ∧ f i.toNatClampNeg = some b ∧ s' = (s.1, s.2.1 + len, s.2.2.1, .ref b :: r) := by
  unfold p_aald at h
  split at h
  · rename_i i a r hv
    split at h
    · rename_i ha
      split at h
      · rename_i n f he
        split at h
        · cases h
        · rename_i hc
          split at h
          · rename_i b hb
            exact ⟨i, a, r, n, f, b, hv, ha, he, hc, hb, (Option.some.inj h).symm⟩
          · cases h
      · cases h
    · cases h
  · cases h
theorem p_iast_inv {N len : Nat} {s s' : pS} (h : p_iast N len s = some s') : ∃ x i a r n f, s.2.2.2 = .int x :: .int i :: .ref a :: r ∧ a < N ∧ s.1 a = eI n f ∧ vp_in i n ∧ s' = (pu s.1 a (eI n (upd f i.toNatClampNeg x)), s.2.1 + len, s.2.2.1, r) := by
  unfold p_iast at h
  split at h
  · rename_i x i a r hv
    split at h
    · rename_i ha
      split at h
      · rename_i n f he
        split at h
        · cases h
        · rename_i hc
          exact ⟨x, i, a, r, n, f, hv, ha, he, hc, (Option.some.inj h).symm⟩
      · cases h
    · cases h
  · cases h
theorem p_last_inv {N len : Nat} {s s' : pS} (h : p_last N len s = some s') : ∃ x i a r n f, s.2.2.2 = .long x :: .int i :: .ref a :: r ∧ a < N ∧ s.1 a = eJ n f ∧ vp_in i n ∧ s' = (pu s.1 a (eJ n (vp_updL f i.toNatClampNeg x)), s.2.1 + len, s.2.2.1, r) := by
  unfold p_last at h
  split at h
  · rename_i x i a r hv
    split at h
    · rename_i ha
      split at h
      · rename_i n f he
        split at h
        · cases h
        · rename_i hc
          exact ⟨x, i, a, r, n, f, hv, ha, he, hc, (Option.some.inj h).symm⟩
      · cases h
    · cases h
  · cases h
theorem p_alen_inv {N len : Nat} {s s' : pS} (h : p_alen N len s = some s') : ∃ a r n, s.2.2.2 = .ref a :: r ∧ a < N ∧ p_len (s.1 a) = some n ∧ s' = (s.1, s.2.1 + len, s.2.2.1, .int (Int32.ofNat n) :: r) := by
  unfold p_alen at h
  split at h
  · rename_i a r hv
    split at h
    · rename_i ha
      split at h
      · rename_i n he
        exact ⟨a, r, n, hv, ha, he, (Option.some.inj h).symm⟩
      · cases h
    · cases h
  · cases h
theorem p_copy_inv {N : Nat} {s s' : pS} (h : p_copy N s = some s') : ∃ n dp b sp a r n0 n1 f g, s.2.2.2 = .int n :: .int dp :: .ref b :: .int sp :: .ref a :: r ∧ a < N ∧ b < N ∧ s.1 a = eI n0 f ∧ s.1 b = eI n1 g ∧ ¬ sp < 0 ∧ ¬ dp < 0 ∧ ¬ n < 0 ∧ sp.toNatClampNeg + n.toNatClampNeg ≤ n0 ∧ dp.toNatClampNeg + n.toNatClampNeg ≤ n1 ∧ (r.map fun v => v.category).sum ≤ 8 ∧
    s' = (pu s.1 b (eI n1 (va_cpy f g sp.toNatClampNeg dp.toNatClampNeg n.toNatClampNeg)), s.2.1 + 3, s.2.2.1, r) := by
  unfold p_copy at h
  split at h
  · rename_i n dp b sp a r hv
    split at h
    · rename_i ha
      split at h
      · rename_i n0 f n1 g he hg
        split at h
        · cases h
        · rename_i hc
          simp only [not_or, Nat.not_lt] at hc
          obtain ⟨⟨c1, c2, c3⟩, c4, c5, c6⟩ := hc
          exact ⟨n, dp, b, sp, a, r, n0, n1, f, g, hv, ha.1, ha.2, he, hg, c1, c2, c3, c4, c5, c6, (Option.some.inj h).symm⟩
      · cases h
    · cases h
  · cases h
theorem p_mm_inv {b : Bool} {s s' : pS} (h : p_mm b s = some s') : ∃ x y r, s.2.2.2 = .int y :: .int x :: r ∧ (r.map fun v => v.category).sum ≤ 8 ∧ s' = (s.1, s.2.1 + 3, s.2.2.1, .int (if b = true then (if x < y then y else x) else (if y < x then y else x)) :: r) := by
  unfold p_mm at h
  split at h
  · rename_i y x r hv
    split at h
    · cases h
    · rename_i hc
      exact ⟨x, y, r, hv, by omega, (Option.some.inj h).symm⟩
  · cases h
def p_Cx (p : Program) (s : State) (m : MethodId) (args : Array Value) (meth : Method) (c : Code) (D : va_G) (kc : ClassId × ClassId × ClassId) (Cs : List pCi) (M : pM) : Prop :=
  p.tables.exec = Jvm.exec ∧ c.code = M.2.1 ∧ meth.sig.returnType = M.2.2.2.1 ∧ c.maxLocals = M.2.2.1 ∧ (∀ w ∈ p_ws M, w.before args s = true) ∧ s.vm.findClass M.1.cls = some m.cls ∧ meth.locks = false ∧ va_K D (Cs.map Prod.fst) (p_tys kc) s ∧ p_nest s
section PSW
variable {p : Program} {l : Launch} {e : Env} {R : Room} {s : State} {m : MethodId} {args : Array Value} {below : List Frame} {meth : Method} {c : Code} {Q : State → Prop} {H : Heap} {locs : List Loc} {cells slots : Nat}
variable {D : va_G} {kc : ClassId × ClassId × ClassId} {ad : Nat → Nat} {N : Nat} {Cs : List pCi} {Ms : List pM} {M : pM}
theorem p_aaldW {cc : ByteArray} {pc : Nat} {ls : Array Slot} {rest : List Value} {cl : List vw_C} {a : Nat} {tys : List (ClassId × FieldType)} {ws : va_W} (hexec : p.tables.exec = Jvm.exec) (hb : c.code = cc) (hK : va_K D cl tys s) (hP : va_P D cl ws H) (q0 t0 : Nat) {cA : ClassId} {n : Nat} {f : Nat → Option Nat} (ha : ws[q0]? = some (a, .inl (cA, n, .inr (.inr (.inr (.inr f)))))) (ht : tys[t0]? = some (cA, .array .long)) {i : Int32} (hin : vp_in i n) (hdg : decode cc pc = .ok (.aaload, 1))
    (kk : W p l e R s m args below meth c H locs cells slots Q (F0 m (pc + 1) ls (va_rf (f i.toNatClampNeg) :: rest))) : W p l e R s m args below meth c H locs cells slots Q (F0 m pc ls (.int i :: .ref a :: rest)) := by
  have hlt : i.toNatClampNeg < n := Nat.not_le.mp fun q => hin (Or.inr q)
  exact W.aald (v := va_rf (f i.toNatClampNeg)) (ty := .array .long) hexec hb (hP q0 _ ha) ((hK.2 t0 _ ht).1 n (fun j => va_rf (f j))) rfl (fun q => by cases q) (by show ¬ (i < 0 ∨ (arrV _ _ _).slots.size ≤ _); rw [arrV_size]; exact hin) (by show (arrV _ _ _).slots[_]? = _; rw [arrV_read _ _ hlt]) rfl rfl hdg kk
theorem p_iincW {cc : ByteArray} {pc : Nat} {ls : Array Slot} {rest : List Value} (hexec : p.tables.exec = Jvm.exec) (hb : c.code = cc) {i nL : Nat} {n : Int} {x : Int32} {lv : pLv} (hdg : decode cc pc = .ok (.iinc i n, 3)) (h : lv_has ls nL (p_lv ad lv)) (hk : List.lookup i lv = some (.int x)) (hn : i < nL)
    (kk : ∀ ls' : Array Slot, lv_has ls' nL (p_lv ad (p_s1 i (.int (x + Int32.ofInt n)) lv)) → W p l e R s m args below meth c H locs cells slots Q (F0 m (pc + 3) ls' rest)) : W p l e R s m args below meth c H locs cells slots Q (F0 m pc ls rest) := by
  have hm : (i, Value.int x) ∈ p_lv ad lv := List.mem_map.mpr ⟨(i, .int x), p_look hk, rfl⟩
  obtain ⟨k, hk2⟩ := List.getElem?_of_mem hm
  exact lv_iinc hexec hb hdg h hk2 rfl hn rfl (fun ls' hl' => kk ls' (p_lv_s1 (v := .int (x + Int32.ofInt n)) hl'))
end PSW
end
section
section PSM
variable {p : Program} {l : Launch} {e : Env} {R : Room} {s : State} {m : MethodId} {args : Array Value} {below : List Frame} {meth : Method} {c : Code} {Q : State → Prop} {H : Heap} {locs : List Loc} {cells slots : Nat}
variable {D : va_G} {kc : ClassId × ClassId × ClassId} {ad : Nat → Nat} {N : Nat} {Cs : List pCi} {Ms : List pM} {M : pM}
theorem p_isI_of {v : Value} (h : p_isI v = true) : ∃ x, v = .int x := by cases v <;> first | exact ⟨_, rfl⟩ | (simp [p_isI] at h; done)
theorem p_isL_of {v : Value} (h : p_isL v = true) : ∃ x, v = .long x := by cases v <;> first | exact ⟨_, rfl⟩ | (simp [p_isL] at h; done)
theorem p_isR_of {v : Value} (h : p_isR v = true) : ∃ x, v = .ref x := by cases v <;> first | exact ⟨_, rfl⟩ | (simp [p_isR] at h; done)
theorem p_cl_at {ci : Nat} {q : pCi} (h : Cs[ci]? = some q) : (Cs.map Prod.fst)[ci]? = some q.1 := by rw [List.getElem?_map, h]; rfl
set_option maxHeartbeats 4000000 in
theorem p_stepW (cx : p_Cx p s m args meth c D kc Cs M) (hC : p_okC Cs) (inj : ∀ i j, i < N → j < N → ad i = ad j → i = j) {pc len pc1 : Nat} {i : Instr} {a : Nat × Nat × Nat} {ps : List Nat × List Nat} (ok : p_okI Cs Ms M (pc, i, len, a, ps) = true) {h h1 : pH} {lv lv1 : pLv} {st st1 : List Value}
    (hst : p_step N Cs M.2.2.1 i len a (h, pc, lv, st) = some (h1, pc1, lv1, st1)) {ls : Array Slot} (hl : lv_has ls M.2.2.1 (p_lv ad lv)) (hP : va_P D (Cs.map Prod.fst) (p_wm kc ad N h) H) (hS : va_S (p_A ad N) s.heap H locs)
    (kk : ∀ (H1 : Heap) (locs1 : List Loc) (ls1 : Array Slot), lv_has ls1 M.2.2.1 (p_lv ad lv1) → va_P D (Cs.map Prod.fst) (p_wm kc ad N h1) H1 → va_S (p_A ad N) s.heap H1 locs1 → W p l e R s m args below meth c H1 locs1 cells slots Q (F0 m pc1 ls1 (st1.map (p_v ad)))) :
    W p l e R s m args below meth c H locs cells slots Q (F0 m pc ls (st.map (p_v ad))) := by
  obtain ⟨hx, hb, hr, hml, hts, hown, hlocks, hK, hN⟩ := cx
  simp only [p_okI, Bool.and_eq_true, decide_eq_true_eq] at ok
  obtain ⟨⟨hd, hlen⟩, hw⟩ := ok
  have hD := p_wm_D (k := kc) inj h
  have hWs : ∀ w ∈ p_W, w.before args s = true := fun w h => hts w (List.mem_cons_of_mem _ h)
  cases i <;> first | (exfalso; simp [p_step] at hst; done) | skip
  case aload_n k =>
    obtain ⟨v, e1, e2, e3⟩ := p_ld_inv hst
    obtain ⟨x, rfl⟩ := p_isR_of e2
    simp [p_okL, p_ln] at hlen
    subst hlen
    cases e3
    exact lv_aload_n hx hb hd rfl (p_lv_at hl e1) (kk H locs ls hl hP hS)
  case aload k =>
    obtain ⟨v, e1, e2, e3⟩ := p_ld_inv hst
    obtain ⟨x, rfl⟩ := p_isR_of e2
    simp [p_okL, p_ln] at hlen
    subst hlen
    cases e3
    exact lv_aload hx hb hd (p_lv_at hl e1) (kk H locs ls hl hP hS)
  case iload_n k =>
    obtain ⟨v, e1, e2, e3⟩ := p_ld_inv hst
    obtain ⟨x, rfl⟩ := p_isI_of e2
    simp [p_okL, p_ln] at hlen
    subst hlen
    cases e3
    exact lv_iload_n hx hb hd rfl (p_lv_at hl e1) (kk H locs ls hl hP hS)
  case iload k =>
    obtain ⟨v, e1, e2, e3⟩ := p_ld_inv hst
    obtain ⟨x, rfl⟩ := p_isI_of e2
    simp [p_okL, p_ln] at hlen
    subst hlen
    cases e3
    exact lv_iload hx hb hd (p_lv_at hl e1) (kk H locs ls hl hP hS)
  case lload_n k =>
    obtain ⟨v, e1, e2, e3⟩ := p_ld_inv hst
    obtain ⟨x, rfl⟩ := p_isL_of e2
    simp [p_okL, p_ln] at hlen
    subst hlen
    cases e3
    exact lv_lload_n hx hb hd rfl (p_lv_at hl e1) (kk H locs ls hl hP hS)
  case lload k =>
    obtain ⟨v, e1, e2, e3⟩ := p_ld_inv hst
    obtain ⟨x, rfl⟩ := p_isL_of e2
    simp [p_okL, p_ln] at hlen
    subst hlen
    cases e3
    exact lv_lload hx hb hd (p_lv_at hl e1) (kk H locs ls hl hP hS)
  case istore_n k =>
    obtain ⟨v, r, e1, e2, e3, e4⟩ := p_st1_inv hst
    obtain ⟨x, rfl⟩ := p_isI_of e2
    simp [p_okL, p_ln] at hlen
    subst hlen
    cases e4
    change st = _ at e1
    subst e1
    exact lv_istore_n hx hb hd rfl hl e3 rfl (fun ls' hl' => kk H locs ls' (p_lv_s1 (v := .int x) hl') hP hS)
  case istore k =>
    obtain ⟨v, r, e1, e2, e3, e4⟩ := p_st1_inv hst
    obtain ⟨x, rfl⟩ := p_isI_of e2
    simp [p_okL, p_ln] at hlen
    subst hlen
    cases e4
    change st = _ at e1
    subst e1
    exact lv_istore hx hb hd hl e3 rfl (fun ls' hl' => kk H locs ls' (p_lv_s1 (v := .int x) hl') hP hS)
  case astore_n k =>
    obtain ⟨v, r, e1, e2, e3, e4⟩ := p_st1_inv hst
    obtain ⟨x, rfl⟩ := p_isR_of e2
    simp [p_okL, p_ln] at hlen
    subst hlen
    cases e4
    change st = _ at e1
    subst e1
    exact lv_astore_n hx hb hd rfl hl e3 rfl (fun ls' hl' => kk H locs ls' (p_lv_s1 (v := .ref x) hl') hP hS)
  case lstore_n k =>
    obtain ⟨v, r, e1, e2, e3, e4⟩ := p_st2_inv hst
    obtain ⟨x, rfl⟩ := p_isL_of e2
    simp [p_okL, p_ln] at hlen
    subst hlen
    cases e4
    change st = _ at e1
    subst e1
    exact lv_lstore_n hx hb hd rfl hl e3 rfl (fun ls' hl' => kk H locs ls' (p_lv_s2 (v := .long x) hl') hP hS)
  case lstore k =>
    obtain ⟨v, r, e1, e2, e3, e4⟩ := p_st2_inv hst
    obtain ⟨x, rfl⟩ := p_isL_of e2
    simp [p_okL, p_ln] at hlen
    subst hlen
    cases e4
    change st = _ at e1
    subst e1
    exact lv_lstore hx hb hd hl e3 rfl (fun ls' hl' => kk H locs ls' (p_lv_s2 (v := .long x) hl') hP hS)
  case iinc k n =>
    obtain ⟨x, e1, e2, e3⟩ := p_iinc_inv hst
    simp [p_okL, p_ln] at hlen
    subst hlen
    cases e3
    exact p_iincW hx hb hd hl e1 e2 (fun ls' hl' => kk H locs ls' hl' hP hS)
  case iconst n =>
    simp [p_okL, p_ln] at hlen
    subst hlen
    cases hst
    exact lv_iconst hx hb hd rfl (kk H locs ls hl hP hS)
  case bipush n =>
    simp [p_okL, p_ln] at hlen
    subst hlen
    cases hst
    exact lv_bipush hx hb hd rfl (kk H locs ls hl hP hS)
  case sipush n =>
    simp [p_okL, p_ln] at hlen
    subst hlen
    cases hst
    exact lv_sipush hx hb hd rfl (kk H locs ls hl hP hS)
  case lconst n =>
    simp [p_okL, p_ln] at hlen
    subst hlen
    cases hst
    exact lv_lconst hx hb hd rfl (kk H locs ls hl hP hS)
  case ldc n =>
    simp [p_okL, p_ln] at hlen
    subst hlen
    cases hst
    exact lv_ldc hx hb hown (hWs _ (p_word_in hw)) hd (kk H locs ls hl hP hS)
  case ldc_w n =>
    simp [p_okL, p_ln] at hlen
    subst hlen
    cases hst
    exact lv_ldcw hx hb hown (hWs _ (p_word_in hw)) hd (kk H locs ls hl hP hS)
  case ldc2_w n =>
    simp [p_okL, p_ln] at hlen
    subst hlen
    cases hst
    exact lv_ldc2 hx hb hown (hWs _ (p_word_in hw)) hd (kk H locs ls hl hP hS)
  case iadd =>
    obtain ⟨x, y, r, e1, e2⟩ := p_bI_inv hst
    simp [p_okL, p_ln] at hlen
    subst hlen
    cases e2
    change st = _ at e1
    subst e1
    exact lv_iadd hx hb hd (kk H locs ls hl hP hS)
  case isub =>
    obtain ⟨x, y, r, e1, e2⟩ := p_bI_inv hst
    simp [p_okL, p_ln] at hlen
    subst hlen
    cases e2
    change st = _ at e1
    subst e1
    exact lv_isub hx hb hd (kk H locs ls hl hP hS)
  case imul =>
    obtain ⟨x, y, r, e1, e2⟩ := p_bI_inv hst
    simp [p_okL, p_ln] at hlen
    subst hlen
    cases e2
    change st = _ at e1
    subst e1
    exact lv_imul hx hb hd (kk H locs ls hl hP hS)
  case iand =>
    obtain ⟨x, y, r, e1, e2⟩ := p_bI_inv hst
    simp [p_okL, p_ln] at hlen
    subst hlen
    cases e2
    change st = _ at e1
    subst e1
    exact lv_iand hx hb hd (kk H locs ls hl hP hS)
  case ior =>
    obtain ⟨x, y, r, e1, e2⟩ := p_bI_inv hst
    simp [p_okL, p_ln] at hlen
    subst hlen
    cases e2
    change st = _ at e1
    subst e1
    exact lv_ior hx hb hd (kk H locs ls hl hP hS)
  case ixor =>
    obtain ⟨x, y, r, e1, e2⟩ := p_bI_inv hst
    simp [p_okL, p_ln] at hlen
    subst hlen
    cases e2
    change st = _ at e1
    subst e1
    exact lv_ixor hx hb hd (kk H locs ls hl hP hS)
  case idiv =>
    obtain ⟨x, y, r, e1, e0, e2⟩ := p_bD_inv hst
    simp [p_okL, p_ln] at hlen
    subst hlen
    cases e2
    change st = _ at e1
    subst e1
    exact lv_idiv hx hb hd e0 (kk H locs ls hl hP hS)
  case irem =>
    obtain ⟨x, y, r, e1, e0, e2⟩ := p_bD_inv hst
    simp [p_okL, p_ln] at hlen
    subst hlen
    cases e2
    change st = _ at e1
    subst e1
    exact lv_irem hx hb hd e0 (kk H locs ls hl hP hS)
  case ishl =>
    obtain ⟨x, y, r, e1, e2⟩ := p_bI_inv hst
    simp [p_okL, p_ln] at hlen
    subst hlen
    cases e2
    change st = _ at e1
    subst e1
    exact lv_ishl hx hb hd (kk H locs ls hl hP hS)
  case ishr =>
    obtain ⟨x, y, r, e1, e2⟩ := p_bI_inv hst
    simp [p_okL, p_ln] at hlen
    subst hlen
    cases e2
    change st = _ at e1
    subst e1
    exact lv_ishr hx hb hd (kk H locs ls hl hP hS)
  case iushr =>
    obtain ⟨x, y, r, e1, e2⟩ := p_bI_inv hst
    simp [p_okL, p_ln] at hlen
    subst hlen
    cases e2
    change st = _ at e1
    subst e1
    exact lv_iushr hx hb hd rfl (kk H locs ls hl hP hS)
  case ladd =>
    obtain ⟨x, y, r, e1, e2⟩ := p_bL_inv hst
    simp [p_okL, p_ln] at hlen
    subst hlen
    cases e2
    change st = _ at e1
    subst e1
    exact lv_ladd hx hb hd (kk H locs ls hl hP hS)
  case lmul =>
    obtain ⟨x, y, r, e1, e2⟩ := p_bL_inv hst
    simp [p_okL, p_ln] at hlen
    subst hlen
    cases e2
    change st = _ at e1
    subst e1
    exact lv_lmul hx hb hd (kk H locs ls hl hP hS)
  case lcmp =>
    obtain ⟨x, y, r, e1, e2⟩ := p_cmpL_inv hst
    simp [p_okL, p_ln] at hlen
    subst hlen
    cases e2
    change st = _ at e1
    subst e1
    exact W.lcmp hx hb hd (kk H locs ls hl hP hS)
  case dup =>
    obtain ⟨v, r, e1, e0, e2⟩ := p_dup_inv hst
    simp [p_okL, p_ln] at hlen
    subst hlen
    cases e2
    change st = _ at e1
    subst e1
    exact lv_dup hx hb hd (by rw [p_v_cat]; exact e0) (kk H locs ls hl hP hS)
  case dup2 =>
    obtain ⟨v, w, r, e1, e0, e3, e2⟩ := p_dup2_inv hst
    simp [p_okL, p_ln] at hlen
    subst hlen
    cases e2
    change st = _ at e1
    subst e1
    exact lv_dup2_11 hx hb hd (by rw [p_v_cat]; exact e0) (by rw [p_v_cat]; exact e3) (kk H locs ls hl hP hS)
  case pop =>
    obtain ⟨v, r, e1, e0, e2⟩ := p_pop_inv hst
    simp [p_okL, p_ln] at hlen
    subst hlen
    cases e2
    change st = _ at e1
    subst e1
    exact lv_pop hx hb hd (by rw [p_v_cat]; exact e0) (kk H locs ls hl hP hS)
  case goto off =>
    simp [p_okL, p_ln] at hlen
    subst hlen
    cases hst
    simp only [p_okW, decide_eq_true_eq] at hw
    exact lv_goto hx hb hd hw (kk H locs ls hl hP hS)
  case ifCond cd off =>
    obtain ⟨x, r, e1, e2⟩ := p_if1_inv hst
    simp [p_okL, p_ln] at hlen
    subst hlen
    simp only [p_okW, decide_eq_true_eq] at hw
    change st = _ at e1
    subst e1
    rcases e2 with ⟨e2, e3⟩ | ⟨e2, e3⟩ <;> cases e3
    · cases cd
      · exact lv_if_eq hx hb hd hw (fun _ => kk H locs ls hl hP hS) (fun q => absurd e2 q)
      · exact lv_if_ne hx hb hd hw (fun _ => kk H locs ls hl hP hS) (fun q => absurd q e2)
      · exact lv_if_lt hx hb hd hw (fun _ => kk H locs ls hl hP hS) (fun q => absurd e2 q)
      · exact lv_if_ge hx hb hd hw (fun _ => kk H locs ls hl hP hS) (fun q => absurd e2 q)
      · exact lv_if_gt hx hb hd hw (fun _ => kk H locs ls hl hP hS) (fun q => absurd e2 q)
      · exact lv_if_le hx hb hd hw (fun _ => kk H locs ls hl hP hS) (fun q => absurd e2 q)
    · cases cd
      · exact lv_if_eq hx hb hd hw (fun q => absurd q e2) (fun _ => kk H locs ls hl hP hS)
      · exact lv_if_ne hx hb hd hw (fun q => absurd q e2) (fun _ => kk H locs ls hl hP hS)
      · exact lv_if_lt hx hb hd hw (fun q => absurd q e2) (fun _ => kk H locs ls hl hP hS)
      · exact lv_if_ge hx hb hd hw (fun q => absurd q e2) (fun _ => kk H locs ls hl hP hS)
      · exact lv_if_gt hx hb hd hw (fun q => absurd q e2) (fun _ => kk H locs ls hl hP hS)
      · exact lv_if_le hx hb hd hw (fun q => absurd q e2) (fun _ => kk H locs ls hl hP hS)
  case if_icmp cd off =>
    obtain ⟨x, y, r, e1, e2⟩ := p_if2_inv hst
    simp [p_okL, p_ln] at hlen
    subst hlen
    simp only [p_okW, decide_eq_true_eq] at hw
    change st = _ at e1
    subst e1
    rcases e2 with ⟨e2, e3⟩ | ⟨e2, e3⟩ <;> cases e3
    · cases cd
      · exact lv_icmp_eq hx hb hd hw (fun _ => kk H locs ls hl hP hS) (fun q => absurd e2 q)
      · exact lv_icmp_ne hx hb hd hw (fun _ => kk H locs ls hl hP hS) (fun q => absurd q e2)
      · exact lv_icmp_lt hx hb hd hw (fun _ => kk H locs ls hl hP hS) (fun q => absurd e2 q)
      · exact lv_icmp_ge hx hb hd hw (fun _ => kk H locs ls hl hP hS) (fun q => absurd e2 q)
      · exact lv_icmp_gt hx hb hd hw (fun _ => kk H locs ls hl hP hS) (fun q => absurd e2 q)
      · exact lv_icmp_le hx hb hd hw (fun _ => kk H locs ls hl hP hS) (fun q => absurd e2 q)
    · cases cd
      · exact lv_icmp_eq hx hb hd hw (fun q => absurd q e2) (fun _ => kk H locs ls hl hP hS)
      · exact lv_icmp_ne hx hb hd hw (fun q => absurd q e2) (fun _ => kk H locs ls hl hP hS)
      · exact lv_icmp_lt hx hb hd hw (fun q => absurd q e2) (fun _ => kk H locs ls hl hP hS)
      · exact lv_icmp_ge hx hb hd hw (fun q => absurd q e2) (fun _ => kk H locs ls hl hP hS)
      · exact lv_icmp_gt hx hb hd hw (fun q => absurd q e2) (fun _ => kk H locs ls hl hP hS)
      · exact lv_icmp_le hx hb hd hw (fun q => absurd q e2) (fun _ => kk H locs ls hl hP hS)
  case tableswitch dflt lo hi offs =>
    obtain ⟨x, r, tgt, e1, e2, e3⟩ := p_tsw_inv hst
    cases e2
    change st = _ at e1
    subst e1
    rcases e3 with ⟨e3, e4⟩ | ⟨e3, e4, off, e5, e6⟩
    · exact lv_tableOut hx hb hd e3 e4 (kk H locs ls hl hP hS)
    · exact lv_tableIn hx hb hd e3 e4 e5 e6 (kk H locs ls hl hP hS)
  case lookupswitch dflt prs =>
    obtain ⟨x, r, tgt, e1, e2, e3, e4⟩ := p_lsw_inv hst
    cases e2
    change st = _ at e1
    subst e1
    exact lv_lookup hx hb hd e3 rfl e4 (kk H locs ls hl hP hS)
  case getfield idx =>
    obtain ⟨q, r, fs, v, e1, e2, e3, e4, e5⟩ := p_get_inv hst
    simp [p_okL, p_ln] at hlen
    subst hlen
    cases e5
    change st = _ at e1
    subst e1
    change h q = _ at e3
    simp only [p_okW] at hw
    split at hw
    · rename_i C hCi
      simp only [Bool.and_eq_true, decide_eq_true_eq] at hw
      obtain ⟨c1, c2, c3⟩ := hC _ _ hCi
      refine va_get (D := D) (C := C.1.1) (T := C.1.2.1) (N := C.1.2.2) hx hb hWs c1 hown hK hP q (fs := fs.map (p_v ad)) ?_ (p_cl_at hCi) _ hw.1 (hWs _ (p_word_in hw.2)) (fun _ h9 => h9) (v := p_v ad v) ?_ hd (kk H locs ls hl hP hS)
      · rw [p_wm_get e2, e3]
        rfl
      · rw [List.getElem?_map, e4]
        rfl
    · cases hw
  case putfield idx =>
    simp only [p_step] at hst
    split at hst
    · rename_i C hCi
      obtain ⟨v, q, r, fs, e1, e2, e3, e4, e5, e6, e7⟩ := p_put_inv hst
      simp [p_okL, p_ln] at hlen
      subst hlen
      cases e7
      change st = _ at e1
      subst e1
      change h q = _ at e3
      simp only [p_okW, hCi, Bool.and_eq_true, decide_eq_true_eq, Bool.not_eq_true'] at hw
      obtain ⟨c1, c2, c3⟩ := hC _ _ hCi
      obtain ⟨f1, f2⟩ := p_fit (ad := ad) e5 e6
      refine va_put (D := D) (C := C.1.1) (T := C.1.2.1) (N := C.1.2.2) hx hb hWs c1 C.2 c2 c3 hown hK hP hD hS q (fs := fs.map (p_v ad)) ?_ (p_cl_at hCi) _ hw.1.1 (hWs _ (p_word_in hw.2)) (fun _ h9 => h9) hw.1.2 (v := p_v ad v) (c2 _ hw.1.1) f1 f2 (by rw [List.length_map]; exact e4) hd (fun H1 locs1 hP1 hD1 hS1 => kk H1 locs1 ls hl ?_ hS1)
      · rw [p_wm_get e2, e3]
        rfl
      · rw [← p_wm_set]
        have e9 : p_e kc ad (eO a.1 (fs.set a.2.1 v)) = .inr (a.1, (fs.map (p_v ad)).set a.2.1 (p_v ad v)) := by
          show (Sum.inr (a.1, (fs.set a.2.1 v).map (p_v ad)) : va_E) = _
          rw [List.map_set]
        rw [e9]
        exact hP1
    · cases hst
  case iaload =>
    obtain ⟨j, q, r, n, f, e1, e2, e3, e4, e5⟩ := p_iald_inv hst
    simp [p_okL, p_ln] at hlen
    subst hlen
    cases e5
    change st = _ at e1
    subst e1
    change h q = _ at e3
    exact va_iald (D := D) hx hb hK hP q 0 (by rw [p_wm_get e2, e3]; rfl) rfl e4 hd (kk H locs ls hl hP hS)
  case laload =>
    obtain ⟨j, q, r, n, f, e1, e2, e3, e4, e5⟩ := p_lald_inv hst
    simp [p_okL, p_ln] at hlen
    subst hlen
    cases e5
    change st = _ at e1
    subst e1
    change h q = _ at e3
    exact va_lald (D := D) hx hb hK hP q 1 (by rw [p_wm_get e2, e3]; rfl) rfl e4 hd (kk H locs ls hl hP hS)
  case aaload =>
    obtain ⟨j, q, r, n, f, b, e1, e2, e3, e4, e6, e5⟩ := p_aald_inv hst
    simp [p_okL, p_ln] at hlen
    subst hlen
    cases e5
    change st = _ at e1
    subst e1
    change h q = _ at e3
    refine p_aaldW (D := D) hx hb hK hP q 2 (by rw [p_wm_get e2, e3]; rfl) rfl e4 hd ?_
    rw [e6]
    exact kk H locs ls hl hP hS
  case iastore =>
    obtain ⟨x, j, q, r, n, f, e1, e2, e3, e4, e5⟩ := p_iast_inv hst
    simp [p_okL, p_ln] at hlen
    subst hlen
    cases e5
    change st = _ at e1
    subst e1
    change h q = _ at e3
    refine va_iast (D := D) hx hb hK hP hD hS q 0 (by rw [p_wm_get e2, e3]; rfl) rfl e4 hd (fun H1 locs1 hP1 hD1 hS1 => kk H1 locs1 ls hl ?_ hS1)
    rw [← p_wm_set]
    exact hP1
  case lastore =>
    obtain ⟨x, j, q, r, n, f, e1, e2, e3, e4, e5⟩ := p_last_inv hst
    simp [p_okL, p_ln] at hlen
    subst hlen
    cases e5
    change st = _ at e1
    subst e1
    change h q = _ at e3
    refine va_last (D := D) hx hb hK hP hD hS q 1 (by rw [p_wm_get e2, e3]; rfl) rfl e4 hd (fun H1 locs1 hP1 hD1 hS1 => kk H1 locs1 ls hl ?_ hS1)
    rw [← p_wm_set]
    exact hP1
  case arraylength =>
    obtain ⟨q, r, n, e1, e2, e3, e4⟩ := p_alen_inv hst
    simp [p_okL, p_ln] at hlen
    subst hlen
    cases e4
    change st = _ at e1
    subst e1
    change p_len (h q) = _ at e3
    have hg := p_wm_get (k := kc) (ad := ad) (h := h) e2
    generalize h q = y at hg e3
    rcases y with ⟨n', f⟩ | ⟨n', f⟩ | ⟨n', f⟩ | ⟨n', f⟩
    · cases e3
      exact va_alen (D := D) hx hb hK hP q 0 hg (rfl : (p_tys kc)[0]? = some (kc.1, .int)) rfl hd (kk H locs ls hl hP hS)
    · cases e3
      exact va_alen (D := D) hx hb hK hP q 1 hg (rfl : (p_tys kc)[1]? = some (kc.2.1, .long)) rfl hd (kk H locs ls hl hP hS)
    · cases e3
      exact va_alen (D := D) hx hb hK hP q 2 hg (rfl : (p_tys kc)[2]? = some (kc.2.2, .array .long)) rfl hd (kk H locs ls hl hP hS)
    · cases e3
end PSM
end
section
/-! a run of the pure machine is a run of the machine: every method of the table has its contract -/
def p_B (D : va_G) (kc : ClassId × ClassId × ClassId) (ad : Nat → Nat) (N : Nat) (Cs : List pCi) (h : pH) (U : State) : Prop := va_P D (Cs.map Prod.fst) (p_wm kc ad N h) U.heap ∧ va_K D (Cs.map Prod.fst) (p_tys kc) U ∧ p_nest U
def p_Q (D : va_G) (kc : ClassId × ClassId × ClassId) (ad : Nat → Nat) (N : Nat) (Cs : List pCi) (r : Option Value) (h : pH) : Array Value → State → Outcome → State → Prop := fun _ st oc t => oc = .returned (r.map (p_v ad)) ∧ p_B D kc ad N Cs h t ∧ va_F (p_A ad N) st t
theorem p_ret_inv {rt : Option FieldType} {i : Instr} {s : pS} {r : Option Value} {h' : pH} (h : p_ret rt i s = some (r, h')) : h' = s.1 ∧
    ((i = .ireturn ∧ ∃ t v, rt = some t ∧ s.2.2.2 = [.int v] ∧ narrow t (.int v) = .int v ∧ r = some (.int v)) ∨ (i = .lreturn ∧ ∃ v, rt = some .long ∧ s.2.2.2 = [.long v] ∧ r = some (.long v)) ∨
      (i = .areturn ∧ ∃ n v, rt = some (.object n) ∧ s.2.2.2 = [.ref v] ∧ r = some (.ref v)) ∨ (i = .return_ ∧ rt = none ∧ s.2.2.2 = [] ∧ r = none)) := by
  unfold p_ret at h
  split at h
  · rename_i t v hs
    split at h
    · rename_i hn
      cases h
      exact ⟨rfl, Or.inl ⟨rfl, t, v, rfl, hs, hn, rfl⟩⟩
    · cases h
  · rename_i v hs
    cases h
    exact ⟨rfl, Or.inr (Or.inl ⟨rfl, v, rfl, hs, rfl⟩)⟩
  · rename_i n v hs
    cases h
    exact ⟨rfl, Or.inr (Or.inr (Or.inl ⟨rfl, n, v, rfl, hs, rfl⟩))⟩
  · rename_i hs
    cases h
    exact ⟨rfl, Or.inr (Or.inr (Or.inr ⟨rfl, rfl, hs, rfl⟩))⟩
  · cases h
section PRW
variable {p : Program} {l : Launch} {e : Env} {R : Room} {s : State} {m : MethodId} {args : Array Value} {below : List Frame} {meth : Method} {c : Code} {Q : State → Prop} {H : Heap} {locs : List Loc}
variable {D : va_G} {kc : ClassId × ClassId × ClassId} {ad : Nat → Nat} {N : Nat} {Cs : List pCi} {Ms : List pM} {M : pM}
theorem p_blind {vs : List Value} {h : pH} : FrameBlind (va_Pc (vs.map (p_v ad)) (p_B D kc ad N Cs h)) := by
  intro a U g mk ⟨q1, q2, q3, q4⟩
  exact ⟨q1, q2, va_K.moved (u := U) (U := U.calling g mk a) (Vm.Alike.refl U.vm) q3, p_nest.same (u := U) (U := U.calling g mk a) rfl q4⟩
theorem p_cont {pc : Nat} {ls : Array Slot} {st0 rest : List Value} {a : Array Value} {r : Option Value} {h1 : pH} (hr : va_Run p l e R s m args below meth c H locs 0 0 0 0 (F0 m pc ls st0) rest (p_Q D kc ad N Cs r h1 a) (p_A ad N)) (hS : va_S (p_A ad N) s.heap H locs)
    (kk : ∀ (H1 : Heap) (locs1 : List Loc), va_P D (Cs.map Prod.fst) (p_wm kc ad N h1) H1 → va_S (p_A ad N) s.heap H1 locs1 → W p l e R s m args below meth c H1 locs1 0 0 Q (F0 m (pc + 3) ls ((r.map (p_v ad)).toList ++ rest))) : W p l e R s m args below meth c H locs 0 0 Q (F0 m pc ls st0) := by
  intro T hT X
  obtain ⟨v, st₀, t, T', L, h0, X', hL, e1, e2, ⟨hv, hB, hz, hk⟩, st⟩ := hr T hT X
  cases hv
  rw [h0] at hz hk
  obtain ⟨t2, a1, b1⟩ := kk T'.heap (locs ++ L) (by rw [e1]; exact hB.1)
    ⟨Nat.le_trans hS.1 (by rw [e1]; exact hz), fun q h1 h2 => by rw [e1, hk q (Nat.lt_of_lt_of_le h1 hS.1) h2]; exact hS.2.1 q h1 h2, fun q hq => by
      rcases List.mem_append.mp hq with h | h
      · exact hS.2.2 q h
      · exact hL q h⟩ T' rfl X'
  exact ⟨t2, st t2 a1, b1⟩
theorem p_retW (cx : p_Cx p s m args meth c D kc Cs M) {pc len : Nat} {i : Instr} (hd : decode M.2.1 pc = .ok (i, len)) (hlen : p_okL i len = true) {h h' : pH} {lv : pLv} {st : List Value} {r : Option Value} (hret : p_ret M.2.2.2.1 i (h, pc, lv, st) = some (r, h')) {ls : Array Slot}
    (hP : va_P D (Cs.map Prod.fst) (p_wm kc ad N h) H) (hS : va_S (p_A ad N) s.heap H locs) : W p l e R s m args below meth c H locs 0 0 (MQ below (p_Q D kc ad N Cs r h') args s 0 0 (p_A ad N)) (F0 m pc ls (st.map (p_v ad))) := by
  obtain ⟨hx, hb, hr, hml, hts, hown, hlocks, hK, hN⟩ := cx
  obtain ⟨e0, hh⟩ := p_ret_inv hret
  have e0 : h' = h := e0
  cases e0
  have post : ∀ t : State, t.heap = H → s.WarmedH t.vm → p_B D kc ad N Cs h t ∧ va_F (p_A ad N) s t := fun t ht hW => ⟨⟨by rw [ht]; exact hP, va_K.moved hW.alike hK, p_nest.warm hW hN⟩, hS.F ht⟩
  rcases hh with ⟨rfl, t, v, e1, e2, e3, rfl⟩ | ⟨rfl, v, e1, e2, rfl⟩ | ⟨rfl, n, v, e1, e2, rfl⟩ | ⟨rfl, e1, e2, rfl⟩
  · simp [p_okL, p_ln] at hlen
    subst hlen
    change st = _ at e2
    subst e2
    exact W.zret hx hb (hr.trans e1) e3 (fun t ht hW => ⟨rfl, post t ht hW⟩) hS.2.2 hd hlocks
  · simp [p_okL, p_ln] at hlen
    subst hlen
    change st = _ at e2
    subst e2
    exact W.lret hx hb (hr.trans e1) (fun t ht hW => ⟨rfl, post t ht hW⟩) hS.2.2 hd hlocks
  · simp [p_okL, p_ln] at hlen
    subst hlen
    change st = _ at e2
    subst e2
    exact W.aret hx hb (hr.trans e1) (Or.inl ⟨n, rfl⟩) (Or.inr ⟨_, rfl⟩) (fun t ht hW => ⟨rfl, post t ht hW⟩) hS.2.2 hd hlocks
  · simp [p_okL, p_ln] at hlen
    subst hlen
    change st = _ at e2
    subst e2
    exact W.vret hx hb (hr.trans e1) (fun t ht hW => ⟨rfl, post t ht hW⟩) hS.2.2 hd hlocks
theorem p_copyW (cx : p_Cx p s m args meth c D kc Cs M) (inj : ∀ i j, i < N → j < N → ad i = ad j → i = j) {d pc len idx : Nat} {a : Nat × Nat × Nat} {ps : List Nat × List Nat} (hc : a.2.2 = 2) (ok : p_okI Cs Ms M (pc, .invokestatic idx, len, a, ps) = true) {h h1 : pH} {lv lv1 : pLv} {st st1 : List Value} {pc1 : Nat}
    (hst : p_copy N (h, pc, lv, st) = some (h1, pc1, lv1, st1)) {ls : Array Slot} (hl : lv_has ls M.2.2.1 (p_lv ad lv)) (hP : va_P D (Cs.map Prod.fst) (p_wm kc ad N h) H) (hS : va_S (p_A ad N) s.heap H locs)
    (kk : ∀ (H1 : Heap) (locs1 : List Loc), lv_has ls M.2.2.1 (p_lv ad lv1) → va_P D (Cs.map Prod.fst) (p_wm kc ad N h1) H1 → va_S (p_A ad N) s.heap H1 locs1 → W p l e (p_rm (d + 1)) s m args below meth c H1 locs1 0 0 Q (F0 m pc1 ls (st1.map (p_v ad)))) :
    W p l e (p_rm (d + 1)) s m args below meth c H locs 0 0 Q (F0 m pc ls (st.map (p_v ad))) := by
  obtain ⟨hx, hb, hr, hml, hts, hown, hlocks, hK, hN⟩ := cx
  simp only [p_okI, Bool.and_eq_true, decide_eq_true_eq] at ok
  obtain ⟨⟨hd, hlen⟩, hw⟩ := ok
  have hD := p_wm_D (k := kc) inj h
  have hWs : ∀ w ∈ p_W, w.before args s = true := fun w h => hts w (List.mem_cons_of_mem _ h)
  simp [p_okL, p_ln] at hlen
  subst hlen
  simp only [p_okW, hc, if_true, Bool.and_eq_true] at hw
  obtain ⟨⟨⟨w1, w2⟩, w3⟩, w4⟩ := hw
  obtain ⟨n, dp, b, sp, q, r, n0, n1, f, g, e1, e2, e3, e4, e5, c1, c2, c3, c4, c5, c6, e6⟩ := p_copy_inv hst
  cases e6
  change st = _ at e1
  subst e1
  change h q = _ at e4
  change h b = _ at e5
  refine va_copyi (D := D) hx hb (by rw [hml]; exact hl.1.symm) hown (hWs _ (p_word_in w1)) (hWs _ (p_word_in w2)) (hWs _ (p_word_in w3)) (hWs _ (p_word_in w4)) hK hP hD hS q b 0 0 (by rw [p_wm_get e2, e4]; rfl) (by rw [p_wm_get e3, e5]; rfl) rfl rfl rfl c1 c2 c3 c4 c5 (fun _ _ => rfl) (Nat.le_add_left 1 d) ?_ hd (fun H1 locs1 hP1 hD1 hS1 => kk H1 locs1 hl ?_ hS1)
  · rw [p_cats]
    show _ + (7 + 11) ≤ 30 * (d + 1)
    omega
  · rw [← p_wm_set]
    exact hP1
theorem p_natW (cx : p_Cx p s m args meth c D kc Cs M) (inj : ∀ i j, i < N → j < N → ad i = ad j → i = j) {d pc len idx : Nat} {a : Nat × Nat × Nat} {ps : List Nat × List Nat} (ok : p_okI Cs Ms M (pc, .invokestatic idx, len, a, ps) = true) {h h1 : pH} {lv lv1 : pLv} {st st1 : List Value} {pc1 : Nat}
    (hst : p_nat N a.2.2 (h, pc, lv, st) = some (h1, pc1, lv1, st1)) {ls : Array Slot} (hl : lv_has ls M.2.2.1 (p_lv ad lv)) (hP : va_P D (Cs.map Prod.fst) (p_wm kc ad N h) H) (hS : va_S (p_A ad N) s.heap H locs)
    (kk : ∀ (H1 : Heap) (locs1 : List Loc), lv_has ls M.2.2.1 (p_lv ad lv1) → va_P D (Cs.map Prod.fst) (p_wm kc ad N h1) H1 → va_S (p_A ad N) s.heap H1 locs1 → W p l e (p_rm (d + 1)) s m args below meth c H1 locs1 0 0 Q (F0 m pc1 ls (st1.map (p_v ad)))) :
    W p l e (p_rm (d + 1)) s m args below meth c H locs 0 0 Q (F0 m pc ls (st.map (p_v ad))) := by
  unfold p_nat at hst
  split at hst
  · rename_i hc
    exact p_copyW cx inj hc ok hst hl hP hS kk
  · rename_i hc2
    obtain ⟨hx, hb, hr, hml, hts, hown, hlocks, hK, hN⟩ := cx
    simp only [p_okI, Bool.and_eq_true, decide_eq_true_eq] at ok
    obtain ⟨⟨hd, hlen⟩, hw⟩ := ok
    have hWs : ∀ w ∈ p_W, w.before args s = true := fun w h => hts w (List.mem_cons_of_mem _ h)
    simp [p_okL, p_ln] at hlen
    subst hlen
    split at hst
    · rename_i hc
      simp only [p_okW, hc, if_neg (show ¬ 3 = 2 by decide), if_true, Bool.and_eq_true] at hw
      obtain ⟨⟨⟨w1, w2⟩, w3⟩, w4⟩ := hw
      obtain ⟨x, y, r, e1, e2, e3⟩ := p_mm_inv hst
      cases e3
      change st = _ at e1
      subst e1
      refine va_mmax hx hb (by rw [hml]; exact hl.1.symm) hown (hWs _ (p_word_in w1)) (hWs _ (p_word_in w2)) (hWs _ (p_word_in w3)) (hWs _ (p_word_in w4)) (Nat.le_add_left 1 d) ?_ (Nat.zero_le _) (Nat.zero_le _) hd (kk H locs hl hP hS)
      rw [p_cats]
      show _ + 13 ≤ 30 * (d + 1)
      omega
    · rename_i hc3
      split at hst
      · rename_i hc
        simp only [p_okW, hc, if_neg (show ¬ 4 = 2 by decide), if_neg (show ¬ 4 = 3 by decide), if_true, Bool.and_eq_true] at hw
        obtain ⟨⟨⟨w1, w2⟩, w3⟩, w4⟩ := hw
        obtain ⟨x, y, r, e1, e2, e3⟩ := p_mm_inv hst
        cases e3
        change st = _ at e1
        subst e1
        refine va_mmin hx hb (by rw [hml]; exact hl.1.symm) hown (hWs _ (p_word_in w1)) (hWs _ (p_word_in w2)) (hWs _ (p_word_in w3)) (hWs _ (p_word_in w4)) (Nat.le_add_left 1 d) ?_ (Nat.zero_le _) (Nat.zero_le _) hd (kk H locs hl hP hS)
        rw [p_cats]
        show _ + 13 ≤ 30 * (d + 1)
        omega
      · cases hst
def p_Run (l : Launch) (D : va_G) (kc : ClassId × ClassId × ClassId) (ad : Nat → Nat) (N : Nat) (Cs : List pCi) (Ms : List pM) (n : Nat) : Prop :=
  ∀ (d : Nat) (M : pM), M ∈ Ms → ∀ (p : Program) (e : Env) (s : State) (m : MethodId) (args : Array Value) (below : List Frame) (meth : Method) (c : Code), p_Cx p s m args meth c D kc Cs M → ∀ (h h' : pH) (pc : Nat) (lv : pLv) (st : List Value) (r : Option Value), p_run N Cs Ms n d M (h, pc, lv, st) = some (r, h') →
    ∀ (ls : Array Slot) (H : Heap) (locs : List Loc), lv_has ls M.2.2.1 (p_lv ad lv) → va_P D (Cs.map Prod.fst) (p_wm kc ad N h) H → va_S (p_A ad N) s.heap H locs → W p l e (p_rm d) s m args below meth c H locs 0 0 (MQ below (p_Q D kc ad N Cs r h') args s 0 0 (p_A ad N)) (F0 m pc ls (st.map (p_v ad)))
theorem p_met_of {n : Nat} (ih : p_Run l D kc ad N Cs Ms n) (hM : ∀ M ∈ Ms, p_okM Cs Ms M) (d : Nat) (M : pM) (hm : M ∈ Ms) (h h' : pH) (vs : List Value) (r : Option Value) (hrun : p_run N Cs Ms n d M (h, 0, lv_args 0 vs, []) = some (r, h')) (hn : (lg_sl vs).length ≤ M.2.2.1) :
    Met l M.1 (p_ws M) (p_rm d) (va_Pc (vs.map (p_v ad)) (p_B D kc ad N Cs h)) (p_Q D kc ad N Cs r h') 0 0 (p_A ad N) := by
  refine Met.ofW (cc := M.2.1) (maxL := M.2.2.1) (ret := M.2.2.2.1) (hM M hm).2.2.1 rfl ?_
  intro p e s m args below meth c s₁ B hml hv
  obtain ⟨rfl, hP, hK, hN⟩ := hv
  have hl := lv_entry (vs.map (p_v ad)) (n := M.2.2.1) (by rw [p_sl_len]; exact hn)
  rw [lg_entry_eq]
  rw [p_lv_args] at hl
  exact ih d M hm p e s m _ below meth c ⟨B.exec, B.bytes, B.returns, hml, atoms_spec (ws := p_ws M) B.pre, findClass_of_methodNamed B.named, B.notSynchronized, hK, hN⟩ h h' 0 _ [] r hrun _ _ _ hl hP va_S.rf
theorem p_args_V {idx na ci : Nat} {h : pH} {pc : Nat} {lv : pLv} {st vs rest : List Value} (hh : p_args N (.invokevirtual idx) na ci (h, pc, lv, st) = some (vs, rest)) : ∃ r fs, st.drop na = .ref r :: rest ∧ na ≤ st.length ∧ r < N ∧ h r = eO ci fs ∧ (rest.map fun v => v.category).sum ≤ 8 ∧ vs = .ref r :: (st.take na).reverse := by
  simp only [p_args] at hh
  split at hh
  · rename_i r rest' hv
    split at hh
    · rename_i hc
      split at hh
      · rename_i c fs he
        split at hh
        · rename_i e0
          subst e0
          cases hh
          exact ⟨r, fs, hv, hc.2.1, hc.1, he, hc.2.2, rfl⟩
        · cases hh
      · cases hh
    · cases hh
  · cases hh
theorem p_args_S {idx na ci : Nat} {h : pH} {pc : Nat} {lv : pLv} {st vs rest : List Value} (hh : p_args N (.invokestatic idx) na ci (h, pc, lv, st) = some (vs, rest)) : st.drop na = rest ∧ na ≤ st.length ∧ (rest.map fun v => v.category).sum ≤ 8 ∧ vs = (st.take na).reverse := by
  simp only [p_args] at hh
  split at hh
  · rename_i hc
    cases hh
    exact ⟨rfl, hc.1, hc.2, rfl⟩
  · cases hh
theorem p_nested (st : List Value) (na : Nat) : st.map (p_v ad) = (((st.take na).reverse).map (p_v ad)).reverse ++ (st.drop na).map (p_v ad) := by
  rw [List.map_reverse, List.reverse_reverse, ← List.map_append, List.take_append_drop]
set_option maxHeartbeats 4000000 in
theorem p_callW (cx : p_Cx p s m args meth c D kc Cs M) {d pc len : Nat} {i : Instr} {a1 a2 a3 : Nat} (hi : p_kd i = 2) (hcp : p_isCp i a3 = false) {ps : List Nat × List Nat} (ok : p_okI Cs Ms M (pc, i, len, (a1, a2, a3), ps) = true) {h h1 : pH} {lv : pLv} {st vs rest : List Value} {r : Option Value} {M' : pM}
    (ha : p_args N i a2 a3 (h, pc, lv, st) = some (vs, rest)) (hM' : Ms[a1]? = some M') (okM' : p_okM Cs Ms M') (hmet : Met l M'.1 (p_ws M') (p_rm d) (va_Pc (vs.map (p_v ad)) (p_B D kc ad N Cs h)) (p_Q D kc ad N Cs r h1) 0 0 (p_A ad N))
    {ls : Array Slot} (hl : lv_has ls M.2.2.1 (p_lv ad lv)) (hP : va_P D (Cs.map Prod.fst) (p_wm kc ad N h) H) (hS : va_S (p_A ad N) s.heap H locs)
    (kk : ∀ (H1 : Heap) (locs1 : List Loc), va_P D (Cs.map Prod.fst) (p_wm kc ad N h1) H1 → va_S (p_A ad N) s.heap H1 locs1 → W p l e (p_rm (d + 1)) s m args below meth c H1 locs1 0 0 Q (F0 m (pc + 3) ls ((r.toList ++ rest).map (p_v ad)))) :
    W p l e (p_rm (d + 1)) s m args below meth c H locs 0 0 Q (F0 m pc ls (st.map (p_v ad))) := by
  obtain ⟨hx, hb, hr, hml, hts, hown, hlocks, hK, hN⟩ := cx
  simp only [p_okI, Bool.and_eq_true, decide_eq_true_eq] at ok
  obtain ⟨⟨hd, hlen⟩, hw⟩ := ok
  have hWs : ∀ w ∈ p_W, w.before args s = true := fun w h => hts w (List.mem_cons_of_mem _ h)
  obtain ⟨okI, okc, okn, okm⟩ := okM'
  have hroom : (p_rm d).frames + 1 ≤ (p_rm (d + 1)).frames ∧ 8 + (M'.2.2.1 + 11) + (p_rm d).locals ≤ (p_rm (d + 1)).locals := by
    refine ⟨Nat.le_refl _, ?_⟩
    show 8 + (M'.2.2.1 + 11) + 30 * d ≤ 30 * (d + 1)
    omega
  have ekk : ∀ (H1 : Heap) (locs1 : List Loc), va_P D (Cs.map Prod.fst) (p_wm kc ad N h1) H1 → va_S (p_A ad N) s.heap H1 locs1 → W p l e (p_rm (d + 1)) s m args below meth c H1 locs1 0 0 Q (F0 m (pc + 3) ls ((r.map (p_v ad)).toList ++ rest.map (p_v ad))) := fun H1 locs1 q1 q2 => by
    have := kk H1 locs1 q1 q2
    rw [List.map_append] at this
    have e : (r.map (p_v ad)).toList = r.toList.map (p_v ad) := by cases r <;> rfl
    rw [e]
    exact this
  cases i <;> first | (exfalso; simp [p_kd] at hi; done) | skip
  case invokevirtual idx =>
    simp [p_okL, p_ln] at hlen
    subst hlen
    simp only [p_okW, hM', Bool.and_eq_true, decide_eq_true_eq] at hw
    obtain ⟨⟨⟨⟨⟨y0, w1⟩, w2⟩, w3⟩, w4⟩, hcls⟩ := hw
    simp only [p_okY, Bool.and_eq_true, decide_eq_true_eq] at y0
    obtain ⟨⟨y1, y2⟩, y3⟩ := y0
    obtain ⟨q, fs, e1, e2, e3, e4, e5, rfl⟩ := p_args_V ha
    have hcat := e5
    rw [← p_cats ad] at hcat
    have cb := callB_of (R := p_rm (d + 1)) (mc := 0) (ms := 0) (own := M.1.cls) (index := idx) (ws' := p_W) (bytes := M'.2.1) (maxL := M'.2.2.1) (ret := M'.2.2.2.1) a2 hts (p_ws_good (M := M) okc) rfl (rm := p_rm d) rfl rfl (hWs _ (p_word_in w4)) (hWs _ (p_word_in w1)) ⟨y1, y2, y3⟩ hroom
    obtain ⟨C, hC1, hC2⟩ : ∃ C, Cs[a3]? = some C ∧ C.1.1 = M'.1.cls := by
      cases hh : Cs[a3]? with
      | none => rw [hh] at hcls; cases hcls
      | some C => rw [hh] at hcls; exact ⟨C, rfl, Option.some.inj hcls⟩
    have hrecv := va_recv (D := D) hK hP (p_cl_at hC1) (q0 := q) (a := ad q) (fs := fs.map (p_v ad)) (by rw [p_wm_get e3, e4]; rfl)
    rw [hC2] at hrecv
    refine p_cont (va_runV (As := ((st.take a2).reverse).map (p_v ad)) (rest := rest.map (p_v ad)) ⟨hx, hb, hml, hown, hts⟩ hmet ⟨cb, hWs _ (p_word_in w2), hWs _ (p_word_in w3)⟩ ⟨p_blind, hrecv, fun U hU hW => ⟨rfl, by rw [hU]; exact hP, va_K.moved hW.alike hK, p_nest.warm hW hN⟩⟩ rfl ?_ hl.1 ?_ (lv_room hcat) hd ⟨Nat.zero_le _, Nat.zero_le _⟩) hS ekk
    · simp
      omega
    · show st.map (p_v ad) = _
      rw [p_nested st a2, e1]
      rfl
  case invokestatic idx =>
    simp [p_okL, p_ln] at hlen
    subst hlen
    have hc2 : ¬ 2 ≤ a3 := by simpa [p_isCp] using hcp
    simp only [p_okW, hM', if_neg (show ¬ a3 = 2 by omega), if_neg (show ¬ a3 = 3 by omega), if_neg (show ¬ a3 = 4 by omega), Bool.and_eq_true, decide_eq_true_eq] at hw
    obtain ⟨⟨⟨y0, w2⟩, w4⟩, w1⟩ := hw
    simp only [p_okY, Bool.and_eq_true, decide_eq_true_eq] at y0
    obtain ⟨⟨y1, y2⟩, y3⟩ := y0
    obtain ⟨e1, e2, e5, rfl⟩ := p_args_S ha
    have hcat := e5
    rw [← p_cats ad] at hcat
    have hstk : st.map (p_v ad) = (((st.take a2).reverse).map (p_v ad)).reverse ++ rest.map (p_v ad) := by
      rw [p_nested st a2, e1]
    have hlen2 : (((st.take a2).reverse).map (p_v ad)).length = a2 := by
      simp
      omega
    have hpre : PreS s H (va_Pc (((st.take a2).reverse).map (p_v ad)) (p_B D kc ad N Cs h)) (((st.take a2).reverse).map (p_v ad)) := ⟨p_blind, fun U hU hW => ⟨rfl, by rw [hU]; exact hP, va_K.moved hW.alike hK, p_nest.warm hW hN⟩⟩
    by_cases h1 : a3 = 1
    · rw [if_pos h1] at w1
      simp only [decide_eq_true_eq] at w1
      have cb := va_cnB (R := p_rm (d + 1)) (mc := 0) (ms := 0) (own := M.1.cls) (host := "LabelTree") (index := idx) (ws' := p_W) (bytes := M'.2.1) (maxL := M'.2.2.1) (ret := M'.2.2.2.1) a2 hts (p_ws_good (M := M) okc) rfl (rm := p_rm d) rfl rfl (hN _ (List.mem_of_getElem? w1) rfl) (hWs _ (p_word_in w4)) ⟨y1, y2, y3⟩ hroom
      exact p_cont (va_runSN (rest := rest.map (p_v ad)) ⟨hx, hb, hml, hown, hts⟩ hmet ⟨cb, hWs _ (p_word_in w2), trivial⟩ hpre rfl hlen2 hl.1 hstk (lv_room hcat) hd ⟨Nat.zero_le _, Nat.zero_le _⟩) hS ekk
    · rw [if_neg h1] at w1
      have cb := callB_of (R := p_rm (d + 1)) (mc := 0) (ms := 0) (own := M.1.cls) (index := idx) (ws' := p_W) (bytes := M'.2.1) (maxL := M'.2.2.1) (ret := M'.2.2.2.1) a2 hts (p_ws_good (M := M) okc) rfl (rm := p_rm d) rfl rfl (hWs _ (p_word_in w4)) (hWs _ (p_word_in w1)) ⟨y1, y2, y3⟩ hroom
      exact p_cont (va_runS (rest := rest.map (p_v ad)) ⟨hx, hb, hml, hown, hts⟩ hmet ⟨cb, hWs _ (p_word_in w2)⟩ hpre rfl hlen2 hl.1 hstk (lv_room hcat) hd ⟨Nat.zero_le _, Nat.zero_le _⟩) hS ekk
theorem p_lookI {pc : Nat} {x : Instr × Nat × (Nat × Nat × Nat) × List Nat × List Nat} : ∀ {t : List pI}, List.lookup pc t = some x → (pc, x) ∈ t
  | [], h => by simp at h
  | (j, w) :: r, h => by
    rw [List.lookup_cons] at h
    by_cases e : pc = j
    · subst e
      simp at h
      subst h
      exact List.mem_cons_self
    · have e2 : (pc == j) = false := by simpa using e
      rw [e2] at h
      exact List.mem_cons_of_mem _ (p_lookI h)
set_option maxHeartbeats 4000000 in
theorem p_runW (hC : p_okC Cs) (hM : ∀ M ∈ Ms, p_okM Cs Ms M) (inj : ∀ i j, i < N → j < N → ad i = ad j → i = j) : ∀ n, p_Run l D kc ad N Cs Ms n
  | 0 => fun d M hm p e s m args below meth c cx h h' pc lv st r hrun => by simp [p_run] at hrun
  | n + 1 => fun d M hm p e s m args below meth c cx h h' pc lv st r hrun ls H locs hl hP hS => by
    have ih := p_runW hC hM inj n
    simp only [p_run] at hrun
    split at hrun
    · cases hrun
    · rename_i i len a ps ks hlook
      have ok := (hM M hm).1 _ (p_lookI hlook)
      have hl := p_lv_live ks hl
      generalize p_live ks lv = lv at hl hrun
      split at hrun
      · split at hrun
        · rename_i s' hst
          obtain ⟨h1, pc1, lv1, st1⟩ := s'
          exact p_stepW cx hC inj ok hst hl hP hS (fun H1 locs1 ls1 hl1 hP1 hS1 => ih d M hm p e s m args below meth c cx h1 h' pc1 lv1 st1 r hrun ls1 H1 locs1 hl1 hP1 hS1)
        · cases hrun
      · simp only [p_okI, Bool.and_eq_true, decide_eq_true_eq] at ok
        exact p_retW cx ok.1.1 ok.1.2 hrun hP hS
      · rename_i hk0 hk1
        have hkd : p_kd i = 2 := by
          cases i <;> first | rfl | (exfalso; simp [p_kd] at hk0; done) | (exfalso; simp [p_kd] at hk1; done)
        split at hrun
        · cases hrun
        · rename_i d'
          split at hrun
          · rename_i hcp
            split at hrun
            · rename_i s' hst
              obtain ⟨h1, pc1, lv1, st1⟩ := s'
              cases i <;> first | (exfalso; simp [p_isCp] at hcp; done) | skip
              exact p_natW cx inj ok hst hl hP hS (fun H1 locs1 hl1 hP1 hS1 => ih (d' + 1) M hm p e s m args below meth c cx h1 h' pc1 lv1 st1 r hrun ls H1 locs1 hl1 hP1 hS1)
            · cases hrun
          · rename_i hcp
            split at hrun
            · rename_i vs rest hargs
              split at hrun
              · rename_i M' hM'
                split at hrun
                · rename_i hlen
                  split at hrun
                  · rename_i r1 h1 hcall
                    have hm' : M' ∈ Ms := List.mem_of_getElem? hM'
                    exact p_callW cx hkd (by simpa using hcp) ok hargs hM' (hM M' hm') (p_met_of ih hM d' M' hm' h h1 vs r1 hcall hlen) hl hP hS (fun H1 locs1 hP1 hS1 => ih (d' + 1) M hm p e s m args below meth c cx h1 h' (pc + 3) lv _ r hrun ls H1 locs1 hl hP1 hS1)
                  · cases hrun
                · cases hrun
              · cases hrun
            · cases hrun
end PRW
end
section
/-! the methods of the system as tables of the pure machine (written by program: wip/whole/gen_tables.py), and their checks -/
def p_Cs : List pCi := [((RX1, TX1, 2), tyX1), ((RX2, TX2, 7), tyX2), ((RX3, TX3, 8), tyX3), ((RX4, TX4, 5), tyX4), ((RX5, TX5, 5), tyX5), ((RX6, TX6, 5), tyX6), ((RX7, TX7, 6), tyX7), ((RX8, TX8, 3), tyX8), ((RX9, TX9, 14), tyX9), ((RX10, TX10, 27), tyX10)]
def tX0_choose : List pI := [(0, .ldc 9, 2, (100000000, 0, 0), [423], []), (2, .istore_n 3, 1, (0, 0, 0), [], []), (3, .iload_n 3, 1, (0, 0, 0), [], [0, 1, 2, 3]), (4, .ifCond .le 43, 3, (47, 0, 0), [], []), (7, .iload_n 1, 1, (0, 0, 0), [], []), (8, .iload_n 3, 1, (0, 0, 0), [], []), (9, .idiv, 1, (0, 0, 0), [], []), (10, .iconst 1, 1, (0, 0, 0), [], []), (11, .iadd, 1, (0, 0, 0), [], []), (12, .istore 4, 2, (0, 0, 0), [], []), (14, .iload_n 2, 1, (0, 0, 0), [], []), (15, .iconst 1, 1, (0, 0, 0), [], []), (16, .isub, 1, (0, 0, 0), [], []), (17, .iload_n 3, 1, (0, 0, 0), [], []), (18, .idiv, 1, (0, 0, 0), [], []), (19, .istore 5, 2, (0, 0, 0), [], []), (21, .iload 4, 2, (0, 0, 0), [], []), (23, .iload 5, 2, (0, 0, 0), [], []), (25, .if_icmp .gt 14, 3, (39, 0, 0), [], []), (28, .iload_n 0, 1, (0, 0, 0), [], []), (29, .iload 4, 2, (0, 0, 0), [], []), (31, .iload 5, 2, (0, 0, 0), [], []), (33, .invokestatic 10, 3, (1, 3, 0), [424, 425, 75], []), (36, .iload_n 3, 1, (0, 0, 0), [], []), (37, .imul, 1, (0, 0, 0), [], []), (38, .ireturn, 1, (0, 0, 0), [], []), (39, .iload_n 3, 1, (0, 0, 0), [], []), (40, .bipush 10, 2, (0, 0, 0), [], []), (42, .idiv, 1, (0, 0, 0), [], []), (43, .istore_n 3, 1, (0, 0, 0), [], []), (44, .goto (-41), 3, (3, 0, 0), [], []), (47, .iconst 0, 1, (0, 0, 0), [], []), (48, .ireturn, 1, (0, 0, 0), [], [])]
def mX0_choose : pM := (yX0_choose, cX0_choose, 6, (some .int), 422, tX0_choose)
def tX0_pick : List pI := [(0, .iload_n 0, 1, (0, 0, 0), [], []), (1, .tableswitch 39 1 3 #[27, 29, 31], 27, (0, 0, 0), [], []), (28, .iload_n 1, 1, (0, 0, 0), [], []), (29, .ireturn, 1, (0, 0, 0), [], []), (30, .iload_n 2, 1, (0, 0, 0), [], []), (31, .ireturn, 1, (0, 0, 0), [], []), (32, .iload_n 1, 1, (0, 0, 0), [], []), (33, .iconst 1, 1, (0, 0, 0), [], []), (34, .iadd, 1, (0, 0, 0), [], []), (35, .iload_n 2, 1, (0, 0, 0), [], []), (36, .invokestatic 14, 3, (0, 2, 4), [427, 428, 76, 429], []), (39, .ireturn, 1, (0, 0, 0), [], []), (40, .iload_n 1, 1, (0, 0, 0), [], []), (41, .iload_n 2, 1, (0, 0, 0), [], []), (42, .iload_n 1, 1, (0, 0, 0), [], []), (43, .isub, 1, (0, 0, 0), [], []), (44, .iconst 2, 1, (0, 0, 0), [], []), (45, .idiv, 1, (0, 0, 0), [], []), (46, .iadd, 1, (0, 0, 0), [], []), (47, .ireturn, 1, (0, 0, 0), [], [])]
def mX0_pick : pM := (yX0_pick, cX0_pick, 3, (some .int), 426, tX0_pick)
def tX0_length : List pI := [(0, .bipush 9, 2, (0, 0, 0), [], []), (2, .istore_n 1, 1, (0, 0, 0), [], []), (3, .iload_n 0, 1, (0, 0, 0), [], []), (4, .istore_n 2, 1, (0, 0, 0), [], []), (5, .iload_n 1, 1, (0, 0, 0), [], [1, 2]), (6, .iconst 1, 1, (0, 0, 0), [], []), (7, .if_icmp .le 21, 3, (28, 0, 0), [], []), (10, .iload_n 2, 1, (0, 0, 0), [], []), (11, .bipush 10, 2, (0, 0, 0), [], []), (13, .irem, 1, (0, 0, 0), [], []), (14, .ifCond .ne 14, 3, (28, 0, 0), [], []), (17, .iload_n 2, 1, (0, 0, 0), [], []), (18, .bipush 10, 2, (0, 0, 0), [], []), (20, .idiv, 1, (0, 0, 0), [], []), (21, .istore_n 2, 1, (0, 0, 0), [], []), (22, .iinc 1 (-1), 3, (0, 0, 0), [], []), (25, .goto (-20), 3, (5, 0, 0), [], []), (28, .iload_n 1, 1, (0, 0, 0), [], []), (29, .ireturn, 1, (0, 0, 0), [], [])]
def mX0_length : pM := (yX0_length, cX0_length, 3, (some .int), 604, tX0_length)
def tX0_figures : List pI := [(0, .iload_n 0, 1, (0, 0, 0), [], []), (1, .istore_n 1, 1, (0, 0, 0), [], []), (2, .iload_n 0, 1, (0, 0, 0), [], []), (3, .invokestatic 20, 3, (2, 1, 0), [602, 603, 75], []), (6, .istore_n 2, 1, (0, 0, 0), [], []), (7, .iload_n 2, 1, (0, 0, 0), [], [1, 2]), (8, .bipush 9, 2, (0, 0, 0), [], []), (10, .if_icmp .ge 14, 3, (24, 0, 0), [], []), (13, .iload_n 1, 1, (0, 0, 0), [], []), (14, .bipush 10, 2, (0, 0, 0), [], []), (16, .idiv, 1, (0, 0, 0), [], []), (17, .istore_n 1, 1, (0, 0, 0), [], []), (18, .iinc 2 1, 3, (0, 0, 0), [], []), (21, .goto (-14), 3, (7, 0, 0), [], []), (24, .iload_n 1, 1, (0, 0, 0), [], []), (25, .ireturn, 1, (0, 0, 0), [], [])]
def mX0_figures : pM := (yX0_figures, cX0_figures, 3, (some .int), 601, tX0_figures)
def tX1_size : List pI := [(0, .aload_n 0, 1, (0, 0, 0), [], []), (1, .getfield 15, 3, (0, 1, 0), [96], []), (4, .ireturn, 1, (0, 0, 0), [], [])]
def mX1_size : pM := (yX1_size, cX1_size, 1, (some .int), 336, tX1_size)
def tX1_isFull : List pI := [(0, .aload_n 0, 1, (0, 0, 0), [], []), (1, .getfield 15, 3, (0, 1, 0), [96], []), (4, .sipush 200, 3, (0, 0, 0), [], []), (7, .if_icmp .lt 7, 3, (14, 0, 0), [], []), (10, .iconst 1, 1, (0, 0, 0), [], []), (11, .goto 4, 3, (15, 0, 0), [], []), (14, .iconst 0, 1, (0, 0, 0), [], []), (15, .ireturn, 1, (0, 0, 0), [], [])]
def mX1_isFull : pM := (yX1_isFull, cX1_isFull, 1, (some .boolean), 520, tX1_isFull)
def tX1_add : List pI := [(0, .aload_n 0, 1, (0, 0, 0), [], []), (1, .getfield 15, 3, (0, 1, 0), [96], []), (4, .sipush 200, 3, (0, 0, 0), [], []), (7, .if_icmp .ge 23, 3, (30, 0, 0), [], []), (10, .aload_n 0, 1, (0, 0, 0), [], []), (11, .getfield 9, 3, (0, 0, 0), [95], []), (14, .aload_n 0, 1, (0, 0, 0), [], []), (15, .getfield 15, 3, (0, 1, 0), [96], []), (18, .iload_n 1, 1, (0, 0, 0), [], []), (19, .iastore, 1, (0, 0, 0), [], []), (20, .aload_n 0, 1, (0, 0, 0), [], []), (21, .dup, 1, (0, 0, 0), [], []), (22, .getfield 15, 3, (0, 1, 0), [96], []), (25, .iconst 1, 1, (0, 0, 0), [], []), (26, .iadd, 1, (0, 0, 0), [], []), (27, .putfield 15, 3, (0, 1, 0), [96], []), (30, .return_, 1, (0, 0, 0), [], [])]
def mX1_add : pM := (yX1_add, cX1_add, 2, none, 324, tX1_add)
def tX1_clear : List pI := [(0, .aload_n 0, 1, (0, 0, 0), [], []), (1, .iconst 0, 1, (0, 0, 0), [], []), (2, .putfield 15, 3, (0, 1, 0), [96], []), (5, .return_, 1, (0, 0, 0), [], [])]
def mX1_clear : pM := (yX1_clear, cX1_clear, 1, none, 433, tX1_clear)
def tX1_letterAt : List pI := [(0, .iload_n 1, 1, (0, 0, 0), [], []), (1, .ifCond .lt 20, 3, (21, 0, 0), [], []), (4, .iload_n 1, 1, (0, 0, 0), [], []), (5, .aload_n 0, 1, (0, 0, 0), [], []), (6, .getfield 15, 3, (0, 1, 0), [96], []), (9, .if_icmp .ge 12, 3, (21, 0, 0), [], []), (12, .aload_n 0, 1, (0, 0, 0), [], []), (13, .getfield 9, 3, (0, 0, 0), [95], []), (16, .iload_n 1, 1, (0, 0, 0), [], []), (17, .iaload, 1, (0, 0, 0), [], []), (18, .goto 4, 3, (22, 0, 0), [], []), (21, .iconst (-1), 1, (0, 0, 0), [], []), (22, .ireturn, 1, (0, 0, 0), [], [])]
def mX1_letterAt : pM := (yX1_letterAt, cX1_letterAt, 2, (some .int), 340, tX1_letterAt)
def tX2_run : List pI := [(0, .aload_n 0, 1, (0, 0, 0), [], []), (1, .getfield 34, 3, (1, 6, 0), [255], []), (4, .invokevirtual 38, 3, (41, 0, 4), [789, 752, 753, 69], []), (7, .iconst 1, 1, (0, 0, 0), [], []), (8, .isub, 1, (0, 0, 0), [], []), (9, .istore_n 1, 1, (0, 0, 0), [], []), (10, .iload_n 1, 1, (0, 0, 0), [], [0, 1]), (11, .ifCond .lt 19, 3, (30, 0, 0), [], []), (14, .aload_n 0, 1, (0, 0, 0), [], []), (15, .iload_n 1, 1, (0, 0, 0), [], []), (16, .invokevirtual 44, 3, (12, 1, 1), [790, 792, 19, 70], []), (19, .aload_n 0, 1, (0, 0, 0), [], []), (20, .iload_n 1, 1, (0, 0, 0), [], []), (21, .invokevirtual 48, 3, (14, 1, 1), [806, 808, 21, 70], []), (24, .iinc 1 (-1), 3, (0, 0, 0), [], []), (27, .goto (-17), 3, (10, 0, 0), [], []), (30, .aload_n 0, 1, (0, 0, 0), [], []), (31, .getfield 19, 3, (1, 2, 0), [251], []), (34, .iconst 0, 1, (0, 0, 0), [], []), (35, .aaload, 1, (0, 0, 0), [], []), (36, .lconst 1, 1, (0, 0, 0), [], []), (37, .invokestatic 51, 3, (187, 2, 0), [810, 811, 80], []), (40, .iconst 1, 1, (0, 0, 0), [], []), (41, .istore_n 1, 1, (0, 0, 0), [], []), (42, .iload_n 1, 1, (0, 0, 0), [], [0, 1]), (43, .aload_n 0, 1, (0, 0, 0), [], []), (44, .getfield 34, 3, (1, 6, 0), [255], []), (47, .invokevirtual 38, 3, (41, 0, 4), [789, 752, 753, 69], []), (50, .if_icmp .ge 27, 3, (77, 0, 0), [], []), (53, .aload_n 0, 1, (0, 0, 0), [], []), (54, .aload_n 0, 1, (0, 0, 0), [], []), (55, .getfield 34, 3, (1, 6, 0), [255], []), (58, .iload_n 1, 1, (0, 0, 0), [], []), (59, .invokevirtual 57, 3, (47, 1, 4), [805, 769, 770, 69], []), (62, .iload_n 1, 1, (0, 0, 0), [], []), (63, .invokevirtual 61, 3, (15, 2, 1), [827, 829, 24, 70], []), (66, .aload_n 0, 1, (0, 0, 0), [], []), (67, .iload_n 1, 1, (0, 0, 0), [], []), (68, .invokevirtual 65, 3, (16, 1, 1), [831, 833, 25, 70], []), (71, .iinc 1 1, 3, (0, 0, 0), [], []), (74, .goto (-32), 3, (42, 0, 0), [], []), (77, .return_, 1, (0, 0, 0), [], [])]
def mX2_run : pM := (yX2_run, cX2_run, 2, none, 788, tX2_run)
def tX2_total : List pI := [(0, .lconst 0, 1, (0, 0, 0), [], []), (1, .lstore_n 1, 1, (0, 0, 0), [], []), (2, .iconst 0, 1, (0, 0, 0), [], []), (3, .istore_n 3, 1, (0, 0, 0), [], []), (4, .iload_n 3, 1, (0, 0, 0), [], [0, 1, 3]), (5, .aload_n 0, 1, (0, 0, 0), [], []), (6, .getfield 30, 3, (1, 5, 0), [254], []), (9, .invokevirtual 68, 3, (23, 0, 2), [794, 551, 552, 67], []), (12, .if_icmp .ge 20, 3, (32, 0, 0), [], []), (15, .lload_n 1, 1, (0, 0, 0), [], []), (16, .aload_n 0, 1, (0, 0, 0), [], []), (17, .getfield 11, 3, (1, 0, 0), [249], []), (20, .iconst 0, 1, (0, 0, 0), [], []), (21, .aaload, 1, (0, 0, 0), [], []), (22, .iload_n 3, 1, (0, 0, 0), [], []), (23, .laload, 1, (0, 0, 0), [], []), (24, .ladd, 1, (0, 0, 0), [], []), (25, .lstore_n 1, 1, (0, 0, 0), [], []), (26, .iinc 3 1, 3, (0, 0, 0), [], []), (29, .goto (-25), 3, (4, 0, 0), [], []), (32, .lload_n 1, 1, (0, 0, 0), [], []), (33, .lreturn, 1, (0, 0, 0), [], [])]
def mX2_total : pM := (yX2_total, cX2_total, 4, (some .long), 838, tX2_total)
def tX2_ways : List pI := [(0, .iload_n 1, 1, (0, 0, 0), [], []), (1, .ifCond .lt 19, 3, (20, 0, 0), [], []), (4, .iload_n 1, 1, (0, 0, 0), [], []), (5, .bipush 8, 2, (0, 0, 0), [], []), (7, .if_icmp .ge 13, 3, (20, 0, 0), [], []), (10, .iload_n 2, 1, (0, 0, 0), [], []), (11, .ifCond .lt 9, 3, (20, 0, 0), [], []), (14, .iload_n 2, 1, (0, 0, 0), [], []), (15, .bipush 24, 2, (0, 0, 0), [], []), (17, .if_icmp .lt 5, 3, (22, 0, 0), [], []), (20, .lconst 0, 1, (0, 0, 0), [], []), (21, .lreturn, 1, (0, 0, 0), [], []), (22, .aload_n 0, 1, (0, 0, 0), [], []), (23, .getfield 11, 3, (1, 0, 0), [249], []), (26, .iload_n 1, 1, (0, 0, 0), [], []), (27, .aaload, 1, (0, 0, 0), [], []), (28, .iload_n 2, 1, (0, 0, 0), [], []), (29, .laload, 1, (0, 0, 0), [], []), (30, .aload_n 0, 1, (0, 0, 0), [], []), (31, .getfield 19, 3, (1, 2, 0), [251], []), (34, .iload_n 1, 1, (0, 0, 0), [], []), (35, .aaload, 1, (0, 0, 0), [], []), (36, .iload_n 2, 1, (0, 0, 0), [], []), (37, .laload, 1, (0, 0, 0), [], []), (38, .lmul, 1, (0, 0, 0), [], []), (39, .lreturn, 1, (0, 0, 0), [], [])]
def mX2_ways : pM := (yX2_ways, cX2_ways, 3, (some .long), 847, tX2_ways)
def tX2_countOwn : List pI := [(0, .iconst 0, 1, (0, 0, 0), [], []), (1, .istore_n 2, 1, (0, 0, 0), [], []), (2, .iload_n 2, 1, (0, 0, 0), [], [0, 1, 2]), (3, .aload_n 0, 1, (0, 0, 0), [], []), (4, .getfield 30, 3, (1, 5, 0), [254], []), (7, .invokevirtual 68, 3, (23, 0, 2), [794, 551, 552, 67], []), (10, .if_icmp .ge 24, 3, (34, 0, 0), [], []), (13, .aload_n 0, 1, (0, 0, 0), [], []), (14, .getfield 11, 3, (1, 0, 0), [249], []), (17, .iload_n 1, 1, (0, 0, 0), [], []), (18, .aaload, 1, (0, 0, 0), [], []), (19, .iload_n 2, 1, (0, 0, 0), [], []), (20, .aload_n 0, 1, (0, 0, 0), [], []), (21, .iload_n 1, 1, (0, 0, 0), [], []), (22, .iconst (-1), 1, (0, 0, 0), [], []), (23, .iload_n 2, 1, (0, 0, 0), [], []), (24, .invokevirtual 71, 3, (13, 3, 1), [795, 797, 20, 70], []), (27, .lastore, 1, (0, 0, 0), [], []), (28, .iinc 2 1, 3, (0, 0, 0), [], []), (31, .goto (-29), 3, (2, 0, 0), [], []), (34, .return_, 1, (0, 0, 0), [], [])]
def mX2_countOwn : pM := (yX2_countOwn, cX2_countOwn, 3, none, 793, tX2_countOwn)
def tX2_product : List pI := [(0, .aload_n 0, 1, (0, 0, 0), [], []), (1, .getfield 34, 3, (1, 6, 0), [255], []), (4, .iload_n 1, 1, (0, 0, 0), [], []), (5, .aload_n 0, 1, (0, 0, 0), [], []), (6, .getfield 26, 3, (1, 4, 0), [253], []), (9, .aload_n 0, 1, (0, 0, 0), [], []), (10, .getfield 30, 3, (1, 5, 0), [254], []), (13, .iload_n 3, 1, (0, 0, 0), [], []), (14, .invokevirtual 75, 3, (25, 1, 2), [799, 460, 461, 67], []), (17, .invokevirtual 78, 3, (66, 1, 6), [800, 563, 564, 66], []), (20, .invokevirtual 83, 3, (49, 2, 4), [801, 802, 803, 69], []), (23, .ifCond .ne 5, 3, (28, 0, 0), [], []), (26, .lconst 0, 1, (0, 0, 0), [], []), (27, .lreturn, 1, (0, 0, 0), [], []), (28, .lconst 1, 1, (0, 0, 0), [], []), (29, .lstore 4, 2, (0, 0, 0), [], []), (31, .iload_n 1, 1, (0, 0, 0), [], []), (32, .iconst 1, 1, (0, 0, 0), [], []), (33, .iadd, 1, (0, 0, 0), [], []), (34, .istore 6, 2, (0, 0, 0), [], []), (36, .iload 6, 2, (0, 0, 0), [], [0, 1, 2, 3, 4, 6]), (38, .aload_n 0, 1, (0, 0, 0), [], []), (39, .getfield 34, 3, (1, 6, 0), [255], []), (42, .invokevirtual 38, 3, (41, 0, 4), [789, 752, 753, 69], []), (45, .if_icmp .ge 42, 3, (87, 0, 0), [], []), (48, .iload 6, 2, (0, 0, 0), [], []), (50, .iload_n 2, 1, (0, 0, 0), [], []), (51, .if_icmp .eq 30, 3, (81, 0, 0), [], []), (54, .aload_n 0, 1, (0, 0, 0), [], []), (55, .getfield 34, 3, (1, 6, 0), [255], []), (58, .iload 6, 2, (0, 0, 0), [], []), (60, .invokevirtual 57, 3, (47, 1, 4), [805, 769, 770, 69], []), (63, .iload_n 1, 1, (0, 0, 0), [], []), (64, .if_icmp .ne 17, 3, (81, 0, 0), [], []), (67, .lload 4, 2, (0, 0, 0), [], []), (69, .aload_n 0, 1, (0, 0, 0), [], []), (70, .getfield 16, 3, (1, 1, 0), [250], []), (73, .iload 6, 2, (0, 0, 0), [], []), (75, .aaload, 1, (0, 0, 0), [], []), (76, .iload_n 3, 1, (0, 0, 0), [], []), (77, .laload, 1, (0, 0, 0), [], []), (78, .lmul, 1, (0, 0, 0), [], []), (79, .lstore 4, 2, (0, 0, 0), [], []), (81, .iinc 6 1, 3, (0, 0, 0), [], []), (84, .goto (-48), 3, (36, 0, 0), [], []), (87, .lload 4, 2, (0, 0, 0), [], []), (89, .lreturn, 1, (0, 0, 0), [], [])]
def mX2_product : pM := (yX2_product, cX2_product, 7, (some .long), 798, tX2_product)
def tX2_countHung : List pI := [(0, .aload_n 0, 1, (0, 0, 0), [], []), (1, .getfield 16, 3, (1, 1, 0), [250], []), (4, .iload_n 1, 1, (0, 0, 0), [], []), (5, .aaload, 1, (0, 0, 0), [], []), (6, .lconst 0, 1, (0, 0, 0), [], []), (7, .invokestatic 51, 3, (187, 2, 0), [810, 811, 80], []), (10, .aload_n 0, 1, (0, 0, 0), [], []), (11, .getfield 30, 3, (1, 5, 0), [254], []), (14, .invokevirtual 68, 3, (23, 0, 2), [794, 551, 552, 67], []), (17, .iconst 1, 1, (0, 0, 0), [], []), (18, .isub, 1, (0, 0, 0), [], []), (19, .istore_n 2, 1, (0, 0, 0), [], []), (20, .iload_n 2, 1, (0, 0, 0), [], [0, 1, 2]), (21, .ifCond .le 60, 3, (81, 0, 0), [], []), (24, .aload_n 0, 1, (0, 0, 0), [], []), (25, .iload_n 1, 1, (0, 0, 0), [], []), (26, .iload_n 2, 1, (0, 0, 0), [], []), (27, .invokevirtual 87, 3, (17, 2, 1), [813, 815, 22, 70], []), (30, .istore_n 3, 1, (0, 0, 0), [], []), (31, .iload_n 3, 1, (0, 0, 0), [], []), (32, .ifCond .lt 43, 3, (75, 0, 0), [], []), (35, .aload_n 0, 1, (0, 0, 0), [], []), (36, .getfield 16, 3, (1, 1, 0), [250], []), (39, .iload_n 1, 1, (0, 0, 0), [], []), (40, .aaload, 1, (0, 0, 0), [], []), (41, .iload_n 3, 1, (0, 0, 0), [], []), (42, .dup2, 1, (0, 0, 0), [], []), (43, .laload, 1, (0, 0, 0), [], []), (44, .aload_n 0, 1, (0, 0, 0), [], []), (45, .getfield 11, 3, (1, 0, 0), [249], []), (48, .iload_n 1, 1, (0, 0, 0), [], []), (49, .aaload, 1, (0, 0, 0), [], []), (50, .iload_n 2, 1, (0, 0, 0), [], []), (51, .laload, 1, (0, 0, 0), [], []), (52, .aload_n 0, 1, (0, 0, 0), [], []), (53, .iload_n 1, 1, (0, 0, 0), [], []), (54, .invokevirtual 91, 3, (18, 1, 1), [823, 825, 23, 70], []), (57, .ifCond .eq 14, 3, (71, 0, 0), [], []), (60, .aload_n 0, 1, (0, 0, 0), [], []), (61, .getfield 16, 3, (1, 1, 0), [250], []), (64, .iload_n 1, 1, (0, 0, 0), [], []), (65, .aaload, 1, (0, 0, 0), [], []), (66, .iload_n 2, 1, (0, 0, 0), [], []), (67, .laload, 1, (0, 0, 0), [], []), (68, .goto 4, 3, (72, 0, 0), [], []), (71, .lconst 0, 1, (0, 0, 0), [], []), (72, .ladd, 1, (0, 0, 0), [], []), (73, .ladd, 1, (0, 0, 0), [], []), (74, .lastore, 1, (0, 0, 0), [], []), (75, .iinc 2 (-1), 3, (0, 0, 0), [], []), (78, .goto (-58), 3, (20, 0, 0), [], []), (81, .return_, 1, (0, 0, 0), [], [])]
def mX2_countHung : pM := (yX2_countHung, cX2_countHung, 4, none, 809, tX2_countHung)
def tX2_countRest : List pI := [(0, .iconst 0, 1, (0, 0, 0), [], []), (1, .istore_n 3, 1, (0, 0, 0), [], []), (2, .iload_n 3, 1, (0, 0, 0), [], [0, 1, 2, 3]), (3, .aload_n 0, 1, (0, 0, 0), [], []), (4, .getfield 30, 3, (1, 5, 0), [254], []), (7, .invokevirtual 68, 3, (23, 0, 2), [794, 551, 552, 67], []), (10, .if_icmp .ge 39, 3, (49, 0, 0), [], []), (13, .aload_n 0, 1, (0, 0, 0), [], []), (14, .getfield 22, 3, (1, 3, 0), [252], []), (17, .iload_n 3, 1, (0, 0, 0), [], []), (18, .iload_n 1, 1, (0, 0, 0), [], []), (19, .ifCond .ge 7, 3, (26, 0, 0), [], []), (22, .lconst 0, 1, (0, 0, 0), [], []), (23, .goto 19, 3, (42, 0, 0), [], []), (26, .aload_n 0, 1, (0, 0, 0), [], []), (27, .getfield 19, 3, (1, 2, 0), [251], []), (30, .iload_n 1, 1, (0, 0, 0), [], []), (31, .aaload, 1, (0, 0, 0), [], []), (32, .iload_n 3, 1, (0, 0, 0), [], []), (33, .laload, 1, (0, 0, 0), [], []), (34, .aload_n 0, 1, (0, 0, 0), [], []), (35, .iload_n 1, 1, (0, 0, 0), [], []), (36, .iload_n 2, 1, (0, 0, 0), [], []), (37, .iload_n 3, 1, (0, 0, 0), [], []), (38, .invokevirtual 71, 3, (13, 3, 1), [795, 797, 20, 70], []), (41, .lmul, 1, (0, 0, 0), [], []), (42, .lastore, 1, (0, 0, 0), [], []), (43, .iinc 3 1, 3, (0, 0, 0), [], []), (46, .goto (-44), 3, (2, 0, 0), [], []), (49, .return_, 1, (0, 0, 0), [], [])]
def mX2_countRest : pM := (yX2_countRest, cX2_countRest, 4, none, 830, tX2_countRest)
def tX2_countOther : List pI := [(0, .aload_n 0, 1, (0, 0, 0), [], []), (1, .getfield 19, 3, (1, 2, 0), [251], []), (4, .iload_n 1, 1, (0, 0, 0), [], []), (5, .aaload, 1, (0, 0, 0), [], []), (6, .lconst 0, 1, (0, 0, 0), [], []), (7, .invokestatic 51, 3, (187, 2, 0), [810, 811, 80], []), (10, .iconst 1, 1, (0, 0, 0), [], []), (11, .istore_n 2, 1, (0, 0, 0), [], []), (12, .iload_n 2, 1, (0, 0, 0), [], [0, 1, 2]), (13, .aload_n 0, 1, (0, 0, 0), [], []), (14, .getfield 30, 3, (1, 5, 0), [254], []), (17, .invokevirtual 68, 3, (23, 0, 2), [794, 551, 552, 67], []), (20, .if_icmp .ge 55, 3, (75, 0, 0), [], []), (23, .aload_n 0, 1, (0, 0, 0), [], []), (24, .iload_n 1, 1, (0, 0, 0), [], []), (25, .iload_n 2, 1, (0, 0, 0), [], []), (26, .invokevirtual 87, 3, (17, 2, 1), [813, 815, 22, 70], []), (29, .istore_n 3, 1, (0, 0, 0), [], []), (30, .iload_n 3, 1, (0, 0, 0), [], []), (31, .ifCond .lt 38, 3, (69, 0, 0), [], []), (34, .aload_n 0, 1, (0, 0, 0), [], []), (35, .getfield 19, 3, (1, 2, 0), [251], []), (38, .iload_n 1, 1, (0, 0, 0), [], []), (39, .aaload, 1, (0, 0, 0), [], []), (40, .iload_n 2, 1, (0, 0, 0), [], []), (41, .aload_n 0, 1, (0, 0, 0), [], []), (42, .getfield 22, 3, (1, 3, 0), [252], []), (45, .iload_n 3, 1, (0, 0, 0), [], []), (46, .laload, 1, (0, 0, 0), [], []), (47, .aload_n 0, 1, (0, 0, 0), [], []), (48, .iload_n 1, 1, (0, 0, 0), [], []), (49, .invokevirtual 91, 3, (18, 1, 1), [823, 825, 23, 70], []), (52, .ifCond .eq 14, 3, (66, 0, 0), [], []), (55, .aload_n 0, 1, (0, 0, 0), [], []), (56, .getfield 19, 3, (1, 2, 0), [251], []), (59, .iload_n 1, 1, (0, 0, 0), [], []), (60, .aaload, 1, (0, 0, 0), [], []), (61, .iload_n 3, 1, (0, 0, 0), [], []), (62, .laload, 1, (0, 0, 0), [], []), (63, .goto 4, 3, (67, 0, 0), [], []), (66, .lconst 0, 1, (0, 0, 0), [], []), (67, .ladd, 1, (0, 0, 0), [], []), (68, .lastore, 1, (0, 0, 0), [], []), (69, .iinc 2 1, 3, (0, 0, 0), [], []), (72, .goto (-60), 3, (12, 0, 0), [], []), (75, .return_, 1, (0, 0, 0), [], [])]
def mX2_countOther : pM := (yX2_countOther, cX2_countOther, 4, none, 834, tX2_countOther)
def tX2_sourceOf : List pI := [(0, .aload_n 0, 1, (0, 0, 0), [], []), (1, .getfield 34, 3, (1, 6, 0), [255], []), (4, .iload_n 1, 1, (0, 0, 0), [], []), (5, .invokevirtual 95, 3, (48, 1, 4), [817, 773, 774, 69], []), (8, .istore_n 3, 1, (0, 0, 0), [], []), (9, .iload_n 3, 1, (0, 0, 0), [], []), (10, .ifCond .eq 8, 3, (18, 0, 0), [], []), (13, .iload_n 3, 1, (0, 0, 0), [], []), (14, .iconst 1, 1, (0, 0, 0), [], []), (15, .if_icmp .ne 14, 3, (29, 0, 0), [], []), (18, .aload_n 0, 1, (0, 0, 0), [], []), (19, .getfield 30, 3, (1, 5, 0), [254], []), (22, .iload_n 2, 1, (0, 0, 0), [], []), (23, .invokevirtual 98, 3, (26, 1, 2), [818, 465, 466, 67], []), (26, .goto 11, 3, (37, 0, 0), [], []), (29, .aload_n 0, 1, (0, 0, 0), [], []), (30, .getfield 30, 3, (1, 5, 0), [254], []), (33, .iload_n 2, 1, (0, 0, 0), [], []), (34, .invokevirtual 101, 3, (27, 1, 2), [819, 820, 821, 67], []), (37, .ireturn, 1, (0, 0, 0), [], [])]
def mX2_sourceOf : pM := (yX2_sourceOf, cX2_sourceOf, 4, (some .int), 816, tX2_sourceOf)
def tX2_reachesOn : List pI := [(0, .aload_n 0, 1, (0, 0, 0), [], []), (1, .getfield 34, 3, (1, 6, 0), [255], []), (4, .iload_n 1, 1, (0, 0, 0), [], []), (5, .invokevirtual 95, 3, (48, 1, 4), [817, 773, 774, 69], []), (8, .istore_n 2, 1, (0, 0, 0), [], []), (9, .iload_n 2, 1, (0, 0, 0), [], []), (10, .iconst 1, 1, (0, 0, 0), [], []), (11, .if_icmp .eq 8, 3, (19, 0, 0), [], []), (14, .iload_n 2, 1, (0, 0, 0), [], []), (15, .iconst 3, 1, (0, 0, 0), [], []), (16, .if_icmp .ne 7, 3, (23, 0, 0), [], []), (19, .iconst 1, 1, (0, 0, 0), [], []), (20, .goto 4, 3, (24, 0, 0), [], []), (23, .iconst 0, 1, (0, 0, 0), [], []), (24, .ireturn, 1, (0, 0, 0), [], [])]
def mX2_reachesOn : pM := (yX2_reachesOn, cX2_reachesOn, 3, (some .boolean), 826, tX2_reachesOn)
def tX3_read : List pI := [(0, .aload_n 0, 1, (0, 0, 0), [], []), (1, .iconst 0, 1, (0, 0, 0), [], []), (2, .putfield 33, 3, (2, 7, 0), [179], []), (5, .aload_n 1, 1, (0, 0, 0), [], []), (6, .iconst 0, 1, (0, 0, 0), [], []), (7, .invokevirtual 37, 3, (60, 1, 6), [442, 392, 393, 66], []), (10, .ifCond .eq 10, 3, (20, 0, 0), [], []), (13, .aload_n 0, 1, (0, 0, 0), [], []), (14, .iconst 0, 1, (0, 0, 0), [], []), (15, .iconst (-1), 1, (0, 0, 0), [], []), (16, .iconst (-1), 1, (0, 0, 0), [], []), (17, .invokevirtual 43, 3, (21, 3, 2), [443, 445, 7, 67], []), (20, .iconst 0, 1, (0, 0, 0), [], []), (21, .istore_n 2, 1, (0, 0, 0), [], []), (22, .iload_n 2, 1, (0, 0, 0), [], [0, 1, 2]), (23, .aload_n 0, 1, (0, 0, 0), [], []), (24, .getfield 33, 3, (2, 7, 0), [179], []), (27, .if_icmp .ge 21, 3, (48, 0, 0), [], []), (30, .iload_n 2, 1, (0, 0, 0), [], []), (31, .bipush 24, 2, (0, 0, 0), [], []), (33, .if_icmp .ge 15, 3, (48, 0, 0), [], []), (36, .aload_n 0, 1, (0, 0, 0), [], []), (37, .aload_n 1, 1, (0, 0, 0), [], []), (38, .iload_n 2, 1, (0, 0, 0), [], []), (39, .invokevirtual 47, 3, (20, 2, 2), [455, 457, 9, 67], []), (42, .iinc 2 1, 3, (0, 0, 0), [], []), (45, .goto (-23), 3, (22, 0, 0), [], []), (48, .aload_n 0, 1, (0, 0, 0), [], []), (49, .getfield 33, 3, (2, 7, 0), [179], []), (52, .iconst 1, 1, (0, 0, 0), [], []), (53, .isub, 1, (0, 0, 0), [], []), (54, .istore_n 2, 1, (0, 0, 0), [], []), (55, .iload_n 2, 1, (0, 0, 0), [], [0, 2]), (56, .ifCond .le 47, 3, (103, 0, 0), [], []), (59, .aload_n 0, 1, (0, 0, 0), [], []), (60, .getfield 18, 3, (2, 2, 0), [174], []), (63, .iload_n 2, 1, (0, 0, 0), [], []), (64, .iaload, 1, (0, 0, 0), [], []), (65, .istore_n 3, 1, (0, 0, 0), [], []), (66, .iload_n 3, 1, (0, 0, 0), [], []), (67, .ifCond .lt 30, 3, (97, 0, 0), [], []), (70, .aload_n 0, 1, (0, 0, 0), [], []), (71, .getfield 27, 3, (2, 5, 0), [177], []), (74, .iload_n 3, 1, (0, 0, 0), [], []), (75, .dup2, 1, (0, 0, 0), [], []), (76, .iaload, 1, (0, 0, 0), [], []), (77, .iconst 1, 1, (0, 0, 0), [], []), (78, .iadd, 1, (0, 0, 0), [], []), (79, .iastore, 1, (0, 0, 0), [], []), (80, .aload_n 0, 1, (0, 0, 0), [], []), (81, .getfield 30, 3, (2, 6, 0), [178], []), (84, .iload_n 3, 1, (0, 0, 0), [], []), (85, .dup2, 1, (0, 0, 0), [], []), (86, .iaload, 1, (0, 0, 0), [], []), (87, .aload_n 0, 1, (0, 0, 0), [], []), (88, .getfield 30, 3, (2, 6, 0), [178], []), (91, .iload_n 2, 1, (0, 0, 0), [], []), (92, .iaload, 1, (0, 0, 0), [], []), (93, .iconst 1, 1, (0, 0, 0), [], []), (94, .iadd, 1, (0, 0, 0), [], []), (95, .iadd, 1, (0, 0, 0), [], []), (96, .iastore, 1, (0, 0, 0), [], []), (97, .iinc 2 (-1), 3, (0, 0, 0), [], []), (100, .goto (-45), 3, (55, 0, 0), [], []), (103, .return_, 1, (0, 0, 0), [], [])]
def mX3_read : pM := (yX3_read, cX3_read, 4, none, 441, tX3_read)
def tX3_takeFollower : List pI := [(0, .aload_n 1, 1, (0, 0, 0), [], []), (1, .aload_n 0, 1, (0, 0, 0), [], []), (2, .iload_n 2, 1, (0, 0, 0), [], []), (3, .invokevirtual 51, 3, (25, 1, 2), [459, 460, 461, 67], []), (6, .iconst 0, 1, (0, 0, 0), [], []), (7, .invokevirtual 55, 3, (74, 2, 6), [463, 412, 413, 66], []), (10, .istore_n 3, 1, (0, 0, 0), [], []), (11, .iload_n 3, 1, (0, 0, 0), [], []), (12, .ifCond .lt 11, 3, (23, 0, 0), [], []), (15, .aload_n 0, 1, (0, 0, 0), [], []), (16, .iload_n 3, 1, (0, 0, 0), [], []), (17, .iload_n 2, 1, (0, 0, 0), [], []), (18, .iconst (-1), 1, (0, 0, 0), [], []), (19, .invokevirtual 43, 3, (21, 3, 2), [443, 445, 7, 67], []), (22, .return_, 1, (0, 0, 0), [], []), (23, .iload_n 2, 1, (0, 0, 0), [], []), (24, .istore 4, 2, (0, 0, 0), [], []), (26, .iconst 0, 1, (0, 0, 0), [], []), (27, .istore 5, 2, (0, 0, 0), [], []), (29, .iload 5, 2, (0, 0, 0), [], [0, 1, 4, 5]), (31, .bipush 24, 2, (0, 0, 0), [], []), (33, .if_icmp .ge 64, 3, (97, 0, 0), [], []), (36, .iload 4, 2, (0, 0, 0), [], []), (38, .ifCond .le 59, 3, (97, 0, 0), [], []), (41, .aload_n 0, 1, (0, 0, 0), [], []), (42, .iload 4, 2, (0, 0, 0), [], []), (44, .invokevirtual 59, 3, (26, 1, 2), [464, 465, 466, 67], []), (47, .istore 6, 2, (0, 0, 0), [], []), (49, .aload_n 1, 1, (0, 0, 0), [], []), (50, .aload_n 0, 1, (0, 0, 0), [], []), (51, .iload 6, 2, (0, 0, 0), [], []), (53, .invokevirtual 51, 3, (25, 1, 2), [459, 460, 461, 67], []), (56, .aload_n 1, 1, (0, 0, 0), [], []), (57, .aload_n 0, 1, (0, 0, 0), [], []), (58, .iload 4, 2, (0, 0, 0), [], []), (60, .invokevirtual 51, 3, (25, 1, 2), [459, 460, 461, 67], []), (63, .invokevirtual 62, 3, (69, 1, 6), [468, 417, 418, 66], []), (66, .invokevirtual 55, 3, (74, 2, 6), [463, 412, 413, 66], []), (69, .istore 7, 2, (0, 0, 0), [], []), (71, .iload 7, 2, (0, 0, 0), [], []), (73, .ifCond .lt 14, 3, (87, 0, 0), [], []), (76, .aload_n 0, 1, (0, 0, 0), [], []), (77, .iload 7, 2, (0, 0, 0), [], []), (79, .iload 6, 2, (0, 0, 0), [], []), (81, .iload 4, 2, (0, 0, 0), [], []), (83, .invokevirtual 43, 3, (21, 3, 2), [443, 445, 7, 67], []), (86, .return_, 1, (0, 0, 0), [], []), (87, .iload 6, 2, (0, 0, 0), [], []), (89, .istore 4, 2, (0, 0, 0), [], []), (91, .iinc 5 1, 3, (0, 0, 0), [], []), (94, .goto (-65), 3, (29, 0, 0), [], []), (97, .return_, 1, (0, 0, 0), [], [])]
def mX3_takeFollower : pM := (yX3_takeFollower, cX3_takeFollower, 8, none, 458, tX3_takeFollower)
def tX3_take : List pI := [(0, .aload_n 0, 1, (0, 0, 0), [], []), (1, .getfield 33, 3, (2, 7, 0), [179], []), (4, .bipush 24, 2, (0, 0, 0), [], []), (6, .if_icmp .ge 13, 3, (19, 0, 0), [], []), (9, .iload_n 1, 1, (0, 0, 0), [], []), (10, .ifCond .lt 9, 3, (19, 0, 0), [], []), (13, .iload_n 1, 1, (0, 0, 0), [], []), (14, .bipush 24, 2, (0, 0, 0), [], []), (16, .if_icmp .lt 4, 3, (20, 0, 0), [], []), (19, .return_, 1, (0, 0, 0), [], []), (20, .aload_n 0, 1, (0, 0, 0), [], []), (21, .getfield 9, 3, (2, 0, 0), [172], []), (24, .iload_n 1, 1, (0, 0, 0), [], []), (25, .aload_n 0, 1, (0, 0, 0), [], []), (26, .getfield 33, 3, (2, 7, 0), [179], []), (29, .iastore, 1, (0, 0, 0), [], []), (30, .aload_n 0, 1, (0, 0, 0), [], []), (31, .getfield 15, 3, (2, 1, 0), [173], []), (34, .aload_n 0, 1, (0, 0, 0), [], []), (35, .getfield 33, 3, (2, 7, 0), [179], []), (38, .iload_n 1, 1, (0, 0, 0), [], []), (39, .iastore, 1, (0, 0, 0), [], []), (40, .aload_n 0, 1, (0, 0, 0), [], []), (41, .getfield 18, 3, (2, 2, 0), [174], []), (44, .aload_n 0, 1, (0, 0, 0), [], []), (45, .getfield 33, 3, (2, 7, 0), [179], []), (48, .iload_n 2, 1, (0, 0, 0), [], []), (49, .iastore, 1, (0, 0, 0), [], []), (50, .aload_n 0, 1, (0, 0, 0), [], []), (51, .getfield 21, 3, (2, 3, 0), [175], []), (54, .aload_n 0, 1, (0, 0, 0), [], []), (55, .getfield 33, 3, (2, 7, 0), [179], []), (58, .iload_n 3, 1, (0, 0, 0), [], []), (59, .iastore, 1, (0, 0, 0), [], []), (60, .aload_n 0, 1, (0, 0, 0), [], []), (61, .getfield 24, 3, (2, 4, 0), [176], []), (64, .aload_n 0, 1, (0, 0, 0), [], []), (65, .getfield 33, 3, (2, 7, 0), [179], []), (68, .iload_n 2, 1, (0, 0, 0), [], []), (69, .ifCond .ge 7, 3, (76, 0, 0), [], []), (72, .iconst 0, 1, (0, 0, 0), [], []), (73, .goto 10, 3, (83, 0, 0), [], []), (76, .aload_n 0, 1, (0, 0, 0), [], []), (77, .iload_n 2, 1, (0, 0, 0), [], []), (78, .invokevirtual 65, 3, (28, 1, 2), [447, 448, 449, 67], []), (81, .iconst 1, 1, (0, 0, 0), [], []), (82, .iadd, 1, (0, 0, 0), [], []), (83, .iastore, 1, (0, 0, 0), [], []), (84, .aload_n 0, 1, (0, 0, 0), [], []), (85, .getfield 27, 3, (2, 5, 0), [177], []), (88, .aload_n 0, 1, (0, 0, 0), [], []), (89, .getfield 33, 3, (2, 7, 0), [179], []), (92, .iconst 0, 1, (0, 0, 0), [], []), (93, .iastore, 1, (0, 0, 0), [], []), (94, .aload_n 0, 1, (0, 0, 0), [], []), (95, .getfield 30, 3, (2, 6, 0), [178], []), (98, .aload_n 0, 1, (0, 0, 0), [], []), (99, .getfield 33, 3, (2, 7, 0), [179], []), (102, .iconst 0, 1, (0, 0, 0), [], []), (103, .iastore, 1, (0, 0, 0), [], []), (104, .aload_n 0, 1, (0, 0, 0), [], []), (105, .dup, 1, (0, 0, 0), [], []), (106, .getfield 33, 3, (2, 7, 0), [179], []), (109, .iconst 1, 1, (0, 0, 0), [], []), (110, .iadd, 1, (0, 0, 0), [], []), (111, .putfield 33, 3, (2, 7, 0), [179], []), (114, .return_, 1, (0, 0, 0), [], [])]
def mX3_take : pM := (yX3_take, cX3_take, 4, none, 446, tX3_take)
def tX3_isRank : List pI := [(0, .iload_n 1, 1, (0, 0, 0), [], []), (1, .ifCond .lt 15, 3, (16, 0, 0), [], []), (4, .iload_n 1, 1, (0, 0, 0), [], []), (5, .aload_n 0, 1, (0, 0, 0), [], []), (6, .getfield 33, 3, (2, 7, 0), [179], []), (9, .if_icmp .ge 7, 3, (16, 0, 0), [], []), (12, .iconst 1, 1, (0, 0, 0), [], []), (13, .goto 4, 3, (17, 0, 0), [], []), (16, .iconst 0, 1, (0, 0, 0), [], []), (17, .ireturn, 1, (0, 0, 0), [], [])]
def mX3_isRank : pM := (yX3_isRank, cX3_isRank, 2, (some .boolean), 454, tX3_isRank)
def tX3_size : List pI := [(0, .aload_n 0, 1, (0, 0, 0), [], []), (1, .getfield 33, 3, (2, 7, 0), [179], []), (4, .ireturn, 1, (0, 0, 0), [], [])]
def mX3_size : pM := (yX3_size, cX3_size, 1, (some .int), 553, tX3_size)
def tX3_rankOf : List pI := [(0, .iload_n 1, 1, (0, 0, 0), [], []), (1, .ifCond .lt 18, 3, (19, 0, 0), [], []), (4, .iload_n 1, 1, (0, 0, 0), [], []), (5, .bipush 24, 2, (0, 0, 0), [], []), (7, .if_icmp .ge 12, 3, (19, 0, 0), [], []), (10, .aload_n 0, 1, (0, 0, 0), [], []), (11, .getfield 9, 3, (2, 0, 0), [172], []), (14, .iload_n 1, 1, (0, 0, 0), [], []), (15, .iaload, 1, (0, 0, 0), [], []), (16, .goto 4, 3, (20, 0, 0), [], []), (19, .iconst (-1), 1, (0, 0, 0), [], []), (20, .ireturn, 1, (0, 0, 0), [], [])]
def mX3_rankOf : pM := (yX3_rankOf, cX3_rankOf, 2, (some .int), 561, tX3_rankOf)
def tX3_nodeAt : List pI := [(0, .aload_n 0, 1, (0, 0, 0), [], []), (1, .iload_n 1, 1, (0, 0, 0), [], []), (2, .invokevirtual 68, 3, (22, 1, 2), [451, 453, 8, 67], []), (5, .ifCond .eq 12, 3, (17, 0, 0), [], []), (8, .aload_n 0, 1, (0, 0, 0), [], []), (9, .getfield 15, 3, (2, 1, 0), [173], []), (12, .iload_n 1, 1, (0, 0, 0), [], []), (13, .iaload, 1, (0, 0, 0), [], []), (14, .goto 4, 3, (18, 0, 0), [], []), (17, .iconst (-1), 1, (0, 0, 0), [], []), (18, .ireturn, 1, (0, 0, 0), [], [])]
def mX3_nodeAt : pM := (yX3_nodeAt, cX3_nodeAt, 2, (some .int), 462, tX3_nodeAt)
def tX3_parentAt : List pI := [(0, .aload_n 0, 1, (0, 0, 0), [], []), (1, .iload_n 1, 1, (0, 0, 0), [], []), (2, .invokevirtual 68, 3, (22, 1, 2), [451, 453, 8, 67], []), (5, .ifCond .eq 12, 3, (17, 0, 0), [], []), (8, .aload_n 0, 1, (0, 0, 0), [], []), (9, .getfield 18, 3, (2, 2, 0), [174], []), (12, .iload_n 1, 1, (0, 0, 0), [], []), (13, .iaload, 1, (0, 0, 0), [], []), (14, .goto 4, 3, (18, 0, 0), [], []), (17, .iconst (-1), 1, (0, 0, 0), [], []), (18, .ireturn, 1, (0, 0, 0), [], [])]
def mX3_parentAt : pM := (yX3_parentAt, cX3_parentAt, 2, (some .int), 467, tX3_parentAt)
def tX3_elderAt : List pI := [(0, .aload_n 0, 1, (0, 0, 0), [], []), (1, .iload_n 1, 1, (0, 0, 0), [], []), (2, .invokevirtual 68, 3, (22, 1, 2), [451, 453, 8, 67], []), (5, .ifCond .eq 12, 3, (17, 0, 0), [], []), (8, .aload_n 0, 1, (0, 0, 0), [], []), (9, .getfield 21, 3, (2, 3, 0), [175], []), (12, .iload_n 1, 1, (0, 0, 0), [], []), (13, .iaload, 1, (0, 0, 0), [], []), (14, .goto 4, 3, (18, 0, 0), [], []), (17, .iconst (-1), 1, (0, 0, 0), [], []), (18, .ireturn, 1, (0, 0, 0), [], [])]
def mX3_elderAt : pM := (yX3_elderAt, cX3_elderAt, 2, (some .int), 822, tX3_elderAt)
def tX3_levelAt : List pI := [(0, .aload_n 0, 1, (0, 0, 0), [], []), (1, .iload_n 1, 1, (0, 0, 0), [], []), (2, .invokevirtual 68, 3, (22, 1, 2), [451, 453, 8, 67], []), (5, .ifCond .eq 12, 3, (17, 0, 0), [], []), (8, .aload_n 0, 1, (0, 0, 0), [], []), (9, .getfield 24, 3, (2, 4, 0), [176], []), (12, .iload_n 1, 1, (0, 0, 0), [], []), (13, .iaload, 1, (0, 0, 0), [], []), (14, .goto 4, 3, (18, 0, 0), [], []), (17, .iconst 0, 1, (0, 0, 0), [], []), (18, .ireturn, 1, (0, 0, 0), [], [])]
def mX3_levelAt : pM := (yX3_levelAt, cX3_levelAt, 2, (some .int), 450, tX3_levelAt)
def tX3_kidsAt : List pI := [(0, .aload_n 0, 1, (0, 0, 0), [], []), (1, .iload_n 1, 1, (0, 0, 0), [], []), (2, .invokevirtual 68, 3, (22, 1, 2), [451, 453, 8, 67], []), (5, .ifCond .eq 12, 3, (17, 0, 0), [], []), (8, .aload_n 0, 1, (0, 0, 0), [], []), (9, .getfield 27, 3, (2, 5, 0), [177], []), (12, .iload_n 1, 1, (0, 0, 0), [], []), (13, .iaload, 1, (0, 0, 0), [], []), (14, .goto 4, 3, (18, 0, 0), [], []), (17, .iconst 0, 1, (0, 0, 0), [], []), (18, .ireturn, 1, (0, 0, 0), [], [])]
def mX3_kidsAt : pM := (yX3_kidsAt, cX3_kidsAt, 2, (some .int), 573, tX3_kidsAt)
def tX3_belowAt : List pI := [(0, .aload_n 0, 1, (0, 0, 0), [], []), (1, .iload_n 1, 1, (0, 0, 0), [], []), (2, .invokevirtual 68, 3, (22, 1, 2), [451, 453, 8, 67], []), (5, .ifCond .eq 12, 3, (17, 0, 0), [], []), (8, .aload_n 0, 1, (0, 0, 0), [], []), (9, .getfield 30, 3, (2, 6, 0), [178], []), (12, .iload_n 1, 1, (0, 0, 0), [], []), (13, .iaload, 1, (0, 0, 0), [], []), (14, .goto 4, 3, (18, 0, 0), [], []), (17, .iconst 0, 1, (0, 0, 0), [], []), (18, .ireturn, 1, (0, 0, 0), [], [])]
def mX3_belowAt : pM := (yX3_belowAt, cX3_belowAt, 2, (some .int), 578, tX3_belowAt)
def tX3_spans : List pI := [(0, .iload_n 2, 1, (0, 0, 0), [], []), (1, .iload_n 1, 1, (0, 0, 0), [], []), (2, .if_icmp .lt 18, 3, (20, 0, 0), [], []), (5, .iload_n 2, 1, (0, 0, 0), [], []), (6, .iload_n 1, 1, (0, 0, 0), [], []), (7, .aload_n 0, 1, (0, 0, 0), [], []), (8, .iload_n 1, 1, (0, 0, 0), [], []), (9, .invokevirtual 71, 3, (30, 1, 2), [647, 576, 577, 67], []), (12, .iadd, 1, (0, 0, 0), [], []), (13, .if_icmp .gt 7, 3, (20, 0, 0), [], []), (16, .iconst 1, 1, (0, 0, 0), [], []), (17, .goto 4, 3, (21, 0, 0), [], []), (20, .iconst 0, 1, (0, 0, 0), [], []), (21, .ireturn, 1, (0, 0, 0), [], [])]
def mX3_spans : pM := (yX3_spans, cX3_spans, 3, (some .boolean), 698, tX3_spans)
def tX3_bitsFrom : List pI := [(0, .iconst 0, 1, (0, 0, 0), [], []), (1, .istore_n 2, 1, (0, 0, 0), [], []), (2, .iload_n 1, 1, (0, 0, 0), [], []), (3, .istore_n 3, 1, (0, 0, 0), [], []), (4, .iload_n 3, 1, (0, 0, 0), [], [0, 1, 2, 3]), (5, .iload_n 1, 1, (0, 0, 0), [], []), (6, .aload_n 0, 1, (0, 0, 0), [], []), (7, .iload_n 1, 1, (0, 0, 0), [], []), (8, .invokevirtual 71, 3, (30, 1, 2), [647, 576, 577, 67], []), (11, .iadd, 1, (0, 0, 0), [], []), (12, .if_icmp .gt 28, 3, (40, 0, 0), [], []), (15, .aload_n 0, 1, (0, 0, 0), [], []), (16, .iload_n 3, 1, (0, 0, 0), [], []), (17, .invokevirtual 68, 3, (22, 1, 2), [451, 453, 8, 67], []), (20, .ifCond .eq 20, 3, (40, 0, 0), [], []), (23, .iload_n 2, 1, (0, 0, 0), [], []), (24, .iconst 1, 1, (0, 0, 0), [], []), (25, .aload_n 0, 1, (0, 0, 0), [], []), (26, .getfield 15, 3, (2, 1, 0), [173], []), (29, .iload_n 3, 1, (0, 0, 0), [], []), (30, .iaload, 1, (0, 0, 0), [], []), (31, .ishl, 1, (0, 0, 0), [], []), (32, .ior, 1, (0, 0, 0), [], []), (33, .istore_n 2, 1, (0, 0, 0), [], []), (34, .iinc 3 1, 3, (0, 0, 0), [], []), (37, .goto (-33), 3, (4, 0, 0), [], []), (40, .iload_n 2, 1, (0, 0, 0), [], []), (41, .ireturn, 1, (0, 0, 0), [], [])]
def mX3_bitsFrom : pM := (yX3_bitsFrom, cX3_bitsFrom, 4, (some .int), 646, tX3_bitsFrom)
def tX3_mostLevels : List pI := [(0, .iconst 0, 1, (0, 0, 0), [], []), (1, .istore_n 1, 1, (0, 0, 0), [], []), (2, .iconst 0, 1, (0, 0, 0), [], []), (3, .istore_n 2, 1, (0, 0, 0), [], []), (4, .iload_n 2, 1, (0, 0, 0), [], [0, 1, 2]), (5, .aload_n 0, 1, (0, 0, 0), [], []), (6, .getfield 33, 3, (2, 7, 0), [179], []), (9, .if_icmp .ge 26, 3, (35, 0, 0), [], []), (12, .iload_n 2, 1, (0, 0, 0), [], []), (13, .bipush 24, 2, (0, 0, 0), [], []), (15, .if_icmp .ge 20, 3, (35, 0, 0), [], []), (18, .iload_n 1, 1, (0, 0, 0), [], []), (19, .aload_n 0, 1, (0, 0, 0), [], []), (20, .getfield 24, 3, (2, 4, 0), [176], []), (23, .iload_n 2, 1, (0, 0, 0), [], []), (24, .iaload, 1, (0, 0, 0), [], []), (25, .invokestatic 74, 3, (0, 2, 3), [888, 882, 76, 883], []), (28, .istore_n 1, 1, (0, 0, 0), [], []), (29, .iinc 2 1, 3, (0, 0, 0), [], []), (32, .goto (-28), 3, (4, 0, 0), [], []), (35, .iload_n 1, 1, (0, 0, 0), [], []), (36, .ireturn, 1, (0, 0, 0), [], [])]
def mX3_mostLevels : pM := (yX3_mostLevels, cX3_mostLevels, 3, (some .int), 887, tX3_mostLevels)
def tX4_size : List pI := [(0, .aload_n 0, 1, (0, 0, 0), [], []), (1, .getfield 24, 3, (3, 4, 0), [207], []), (4, .ireturn, 1, (0, 0, 0), [], [])]
def mX4_size : pM := (yX4_size, cX4_size, 1, (some .int), 673, tX4_size)
def tX4_clear : List pI := [(0, .aload_n 0, 1, (0, 0, 0), [], []), (1, .iconst 0, 1, (0, 0, 0), [], []), (2, .putfield 24, 3, (3, 4, 0), [207], []), (5, .return_, 1, (0, 0, 0), [], [])]
def mX4_clear : pM := (yX4_clear, cX4_clear, 1, none, 549, tX4_clear)
def tX4_record : List pI := [(0, .aload_n 0, 1, (0, 0, 0), [], []), (1, .getfield 24, 3, (3, 4, 0), [207], []), (4, .bipush 8, 2, (0, 0, 0), [], []), (6, .if_icmp .lt 7, 3, (13, 0, 0), [], []), (9, .aload_n 0, 1, (0, 0, 0), [], []), (10, .invokevirtual 28, 3, (37, 0, 3), [627, 629, 12, 68], []), (13, .aload_n 0, 1, (0, 0, 0), [], []), (14, .getfield 9, 3, (3, 0, 0), [203], []), (17, .aload_n 0, 1, (0, 0, 0), [], []), (18, .getfield 24, 3, (3, 4, 0), [207], []), (21, .aload_n 1, 1, (0, 0, 0), [], []), (22, .invokevirtual 31, 3, (65, 0, 6), [632, 633, 634, 66], []), (25, .iastore, 1, (0, 0, 0), [], []), (26, .aload_n 0, 1, (0, 0, 0), [], []), (27, .getfield 15, 3, (3, 1, 0), [204], []), (30, .aload_n 0, 1, (0, 0, 0), [], []), (31, .getfield 24, 3, (3, 4, 0), [207], []), (34, .aload_n 1, 1, (0, 0, 0), [], []), (35, .invokevirtual 36, 3, (62, 0, 6), [636, 364, 365, 66], []), (38, .iastore, 1, (0, 0, 0), [], []), (39, .aload_n 0, 1, (0, 0, 0), [], []), (40, .getfield 18, 3, (3, 2, 0), [205], []), (43, .aload_n 0, 1, (0, 0, 0), [], []), (44, .getfield 24, 3, (3, 4, 0), [207], []), (47, .iload_n 2, 1, (0, 0, 0), [], []), (48, .iastore, 1, (0, 0, 0), [], []), (49, .aload_n 0, 1, (0, 0, 0), [], []), (50, .getfield 21, 3, (3, 3, 0), [206], []), (53, .aload_n 0, 1, (0, 0, 0), [], []), (54, .getfield 24, 3, (3, 4, 0), [207], []), (57, .aload_n 1, 1, (0, 0, 0), [], []), (58, .iload_n 2, 1, (0, 0, 0), [], []), (59, .invokevirtual 39, 3, (66, 1, 6), [637, 563, 564, 66], []), (62, .iastore, 1, (0, 0, 0), [], []), (63, .aload_n 0, 1, (0, 0, 0), [], []), (64, .dup, 1, (0, 0, 0), [], []), (65, .getfield 24, 3, (3, 4, 0), [207], []), (68, .iconst 1, 1, (0, 0, 0), [], []), (69, .iadd, 1, (0, 0, 0), [], []), (70, .putfield 24, 3, (3, 4, 0), [207], []), (73, .return_, 1, (0, 0, 0), [], [])]
def mX4_record : pM := (yX4_record, cX4_record, 3, none, 626, tX4_record)
def tX4_forgetFirst : List pI := [(0, .aload_n 0, 1, (0, 0, 0), [], []), (1, .bipush 7, 2, (0, 0, 0), [], []), (3, .putfield 24, 3, (3, 4, 0), [207], []), (6, .aload_n 0, 1, (0, 0, 0), [], []), (7, .getfield 9, 3, (3, 0, 0), [203], []), (10, .iconst 1, 1, (0, 0, 0), [], []), (11, .aload_n 0, 1, (0, 0, 0), [], []), (12, .getfield 9, 3, (3, 0, 0), [203], []), (15, .iconst 0, 1, (0, 0, 0), [], []), (16, .aload_n 0, 1, (0, 0, 0), [], []), (17, .getfield 24, 3, (3, 4, 0), [207], []), (20, .invokestatic 43, 3, (0, 5, 2), [631, 541, 540, 78], []), (23, .aload_n 0, 1, (0, 0, 0), [], []), (24, .getfield 15, 3, (3, 1, 0), [204], []), (27, .iconst 1, 1, (0, 0, 0), [], []), (28, .aload_n 0, 1, (0, 0, 0), [], []), (29, .getfield 15, 3, (3, 1, 0), [204], []), (32, .iconst 0, 1, (0, 0, 0), [], []), (33, .aload_n 0, 1, (0, 0, 0), [], []), (34, .getfield 24, 3, (3, 4, 0), [207], []), (37, .invokestatic 43, 3, (0, 5, 2), [631, 541, 540, 78], []), (40, .aload_n 0, 1, (0, 0, 0), [], []), (41, .getfield 18, 3, (3, 2, 0), [205], []), (44, .iconst 1, 1, (0, 0, 0), [], []), (45, .aload_n 0, 1, (0, 0, 0), [], []), (46, .getfield 18, 3, (3, 2, 0), [205], []), (49, .iconst 0, 1, (0, 0, 0), [], []), (50, .aload_n 0, 1, (0, 0, 0), [], []), (51, .getfield 24, 3, (3, 4, 0), [207], []), (54, .invokestatic 43, 3, (0, 5, 2), [631, 541, 540, 78], []), (57, .aload_n 0, 1, (0, 0, 0), [], []), (58, .getfield 21, 3, (3, 3, 0), [206], []), (61, .iconst 1, 1, (0, 0, 0), [], []), (62, .aload_n 0, 1, (0, 0, 0), [], []), (63, .getfield 21, 3, (3, 3, 0), [206], []), (66, .iconst 0, 1, (0, 0, 0), [], []), (67, .aload_n 0, 1, (0, 0, 0), [], []), (68, .getfield 24, 3, (3, 4, 0), [207], []), (71, .invokestatic 43, 3, (0, 5, 2), [631, 541, 540, 78], []), (74, .return_, 1, (0, 0, 0), [], [])]
def mX4_forgetFirst : pM := (yX4_forgetFirst, cX4_forgetFirst, 1, none, 630, tX4_forgetFirst)
def tX4_restore : List pI := [(0, .aload_n 0, 1, (0, 0, 0), [], []), (1, .getfield 24, 3, (3, 4, 0), [207], []), (4, .ifCond .le 57, 3, (61, 0, 0), [], []), (7, .aload_n 0, 1, (0, 0, 0), [], []), (8, .dup, 1, (0, 0, 0), [], []), (9, .getfield 24, 3, (3, 4, 0), [207], []), (12, .iconst 1, 1, (0, 0, 0), [], []), (13, .isub, 1, (0, 0, 0), [], []), (14, .putfield 24, 3, (3, 4, 0), [207], []), (17, .aload_n 1, 1, (0, 0, 0), [], []), (18, .aload_n 0, 1, (0, 0, 0), [], []), (19, .getfield 9, 3, (3, 0, 0), [203], []), (22, .aload_n 0, 1, (0, 0, 0), [], []), (23, .getfield 24, 3, (3, 4, 0), [207], []), (26, .iaload, 1, (0, 0, 0), [], []), (27, .aload_n 0, 1, (0, 0, 0), [], []), (28, .getfield 15, 3, (3, 1, 0), [204], []), (31, .aload_n 0, 1, (0, 0, 0), [], []), (32, .getfield 24, 3, (3, 4, 0), [207], []), (35, .iaload, 1, (0, 0, 0), [], []), (36, .invokevirtual 49, 3, (72, 2, 6), [678, 679, 680, 66], []), (39, .aload_n 1, 1, (0, 0, 0), [], []), (40, .aload_n 0, 1, (0, 0, 0), [], []), (41, .getfield 18, 3, (3, 2, 0), [205], []), (44, .aload_n 0, 1, (0, 0, 0), [], []), (45, .getfield 24, 3, (3, 4, 0), [207], []), (48, .iaload, 1, (0, 0, 0), [], []), (49, .aload_n 0, 1, (0, 0, 0), [], []), (50, .getfield 21, 3, (3, 3, 0), [206], []), (53, .aload_n 0, 1, (0, 0, 0), [], []), (54, .getfield 24, 3, (3, 4, 0), [207], []), (57, .iaload, 1, (0, 0, 0), [], []), (58, .invokevirtual 53, 3, (67, 2, 6), [682, 663, 664, 66], []), (61, .return_, 1, (0, 0, 0), [], [])]
def mX4_restore : pM := (yX4_restore, cX4_restore, 2, none, 677, tX4_restore)
def tX5_clear : List pI := [(0, .aload_n 0, 1, (0, 0, 0), [], []), (1, .iconst 0, 1, (0, 0, 0), [], []), (2, .putfield 21, 3, (4, 3, 0), [228], []), (5, .aload_n 0, 1, (0, 0, 0), [], []), (6, .iconst 0, 1, (0, 0, 0), [], []), (7, .putfield 25, 3, (4, 4, 0), [229], []), (10, .return_, 1, (0, 0, 0), [], [])]
def mX5_clear : pM := (yX5_clear, cX5_clear, 1, none, 545, tX5_clear)
def tX5_copyFrom : List pI := [(0, .aload_n 1, 1, (0, 0, 0), [], []), (1, .getfield 9, 3, (4, 0, 0), [225], []), (4, .iconst 0, 1, (0, 0, 0), [], []), (5, .aload_n 0, 1, (0, 0, 0), [], []), (6, .getfield 9, 3, (4, 0, 0), [225], []), (9, .iconst 0, 1, (0, 0, 0), [], []), (10, .bipush 8, 2, (0, 0, 0), [], []), (12, .invokestatic 28, 3, (0, 5, 2), [750, 541, 540, 78], []), (15, .aload_n 1, 1, (0, 0, 0), [], []), (16, .getfield 15, 3, (4, 1, 0), [226], []), (19, .iconst 0, 1, (0, 0, 0), [], []), (20, .aload_n 0, 1, (0, 0, 0), [], []), (21, .getfield 15, 3, (4, 1, 0), [226], []), (24, .iconst 0, 1, (0, 0, 0), [], []), (25, .bipush 8, 2, (0, 0, 0), [], []), (27, .invokestatic 28, 3, (0, 5, 2), [750, 541, 540, 78], []), (30, .aload_n 1, 1, (0, 0, 0), [], []), (31, .getfield 18, 3, (4, 2, 0), [227], []), (34, .iconst 0, 1, (0, 0, 0), [], []), (35, .aload_n 0, 1, (0, 0, 0), [], []), (36, .getfield 18, 3, (4, 2, 0), [227], []), (39, .iconst 0, 1, (0, 0, 0), [], []), (40, .bipush 8, 2, (0, 0, 0), [], []), (42, .invokestatic 28, 3, (0, 5, 2), [750, 541, 540, 78], []), (45, .aload_n 0, 1, (0, 0, 0), [], []), (46, .aload_n 1, 1, (0, 0, 0), [], []), (47, .getfield 21, 3, (4, 3, 0), [228], []), (50, .putfield 21, 3, (4, 3, 0), [228], []), (53, .aload_n 0, 1, (0, 0, 0), [], []), (54, .aload_n 1, 1, (0, 0, 0), [], []), (55, .getfield 25, 3, (4, 4, 0), [229], []), (58, .putfield 25, 3, (4, 4, 0), [229], []), (61, .return_, 1, (0, 0, 0), [], [])]
def mX5_copyFrom : pM := (yX5_copyFrom, cX5_copyFrom, 2, none, 749, tX5_copyFrom)
def tX5_size : List pI := [(0, .aload_n 0, 1, (0, 0, 0), [], []), (1, .getfield 21, 3, (4, 3, 0), [228], []), (4, .ireturn, 1, (0, 0, 0), [], [])]
def mX5_size : pM := (yX5_size, cX5_size, 1, (some .int), 754, tX5_size)
def tX5_has : List pI := [(0, .iload_n 1, 1, (0, 0, 0), [], []), (1, .ifCond .lt 15, 3, (16, 0, 0), [], []), (4, .iload_n 1, 1, (0, 0, 0), [], []), (5, .aload_n 0, 1, (0, 0, 0), [], []), (6, .getfield 21, 3, (4, 3, 0), [228], []), (9, .if_icmp .ge 7, 3, (16, 0, 0), [], []), (12, .iconst 1, 1, (0, 0, 0), [], []), (13, .goto 4, 3, (17, 0, 0), [], []), (16, .iconst 0, 1, (0, 0, 0), [], []), (17, .ireturn, 1, (0, 0, 0), [], [])]
def mX5_has : pM := (yX5_has, cX5_has, 2, (some .boolean), 762, tX5_has)
def tX5_add : List pI := [(0, .aload_n 0, 1, (0, 0, 0), [], []), (1, .getfield 21, 3, (4, 3, 0), [228], []), (4, .bipush 8, 2, (0, 0, 0), [], []), (6, .if_icmp .lt 5, 3, (11, 0, 0), [], []), (9, .iconst (-1), 1, (0, 0, 0), [], []), (10, .ireturn, 1, (0, 0, 0), [], []), (11, .aload_n 0, 1, (0, 0, 0), [], []), (12, .getfield 9, 3, (4, 0, 0), [225], []), (15, .aload_n 0, 1, (0, 0, 0), [], []), (16, .getfield 21, 3, (4, 3, 0), [228], []), (19, .iload_n 1, 1, (0, 0, 0), [], []), (20, .iastore, 1, (0, 0, 0), [], []), (21, .aload_n 0, 1, (0, 0, 0), [], []), (22, .getfield 15, 3, (4, 1, 0), [226], []), (25, .aload_n 0, 1, (0, 0, 0), [], []), (26, .getfield 21, 3, (4, 3, 0), [228], []), (29, .iload_n 2, 1, (0, 0, 0), [], []), (30, .iastore, 1, (0, 0, 0), [], []), (31, .aload_n 0, 1, (0, 0, 0), [], []), (32, .getfield 18, 3, (4, 2, 0), [227], []), (35, .aload_n 0, 1, (0, 0, 0), [], []), (36, .getfield 21, 3, (4, 3, 0), [228], []), (39, .iload_n 3, 1, (0, 0, 0), [], []), (40, .iastore, 1, (0, 0, 0), [], []), (41, .aload_n 0, 1, (0, 0, 0), [], []), (42, .dup, 1, (0, 0, 0), [], []), (43, .getfield 21, 3, (4, 3, 0), [228], []), (46, .iconst 1, 1, (0, 0, 0), [], []), (47, .iadd, 1, (0, 0, 0), [], []), (48, .putfield 21, 3, (4, 3, 0), [228], []), (51, .aload_n 0, 1, (0, 0, 0), [], []), (52, .getfield 21, 3, (4, 3, 0), [228], []), (55, .iconst 1, 1, (0, 0, 0), [], []), (56, .isub, 1, (0, 0, 0), [], []), (57, .ireturn, 1, (0, 0, 0), [], [])]
def mX5_add : pM := (yX5_add, cX5_add, 4, (some .int), 726, tX5_add)
def tX5_setLastOutermost : List pI := [(0, .aload_n 0, 1, (0, 0, 0), [], []), (1, .iload_n 1, 1, (0, 0, 0), [], []), (2, .putfield 25, 3, (4, 4, 0), [229], []), (5, .return_, 1, (0, 0, 0), [], [])]
def mX5_setLastOutermost : pM := (yX5_setLastOutermost, cX5_setLastOutermost, 2, none, 730, tX5_setLastOutermost)
def tX5_lastOutermost : List pI := [(0, .aload_n 0, 1, (0, 0, 0), [], []), (1, .getfield 25, 3, (4, 4, 0), [229], []), (4, .ireturn, 1, (0, 0, 0), [], [])]
def mX5_lastOutermost : pM := (yX5_lastOutermost, cX5_lastOutermost, 1, (some .int), 859, tX5_lastOutermost)
def tX5_tagOf : List pI := [(0, .aload_n 0, 1, (0, 0, 0), [], []), (1, .iload_n 1, 1, (0, 0, 0), [], []), (2, .invokevirtual 34, 3, (42, 1, 4), [767, 760, 761, 69], []), (5, .ifCond .eq 12, 3, (17, 0, 0), [], []), (8, .aload_n 0, 1, (0, 0, 0), [], []), (9, .getfield 9, 3, (4, 0, 0), [225], []), (12, .iload_n 1, 1, (0, 0, 0), [], []), (13, .iaload, 1, (0, 0, 0), [], []), (14, .goto 4, 3, (18, 0, 0), [], []), (17, .iconst (-1), 1, (0, 0, 0), [], []), (18, .ireturn, 1, (0, 0, 0), [], [])]
def mX5_tagOf : pM := (yX5_tagOf, cX5_tagOf, 2, (some .int), 766, tX5_tagOf)
def tX5_hangOf : List pI := [(0, .aload_n 0, 1, (0, 0, 0), [], []), (1, .iload_n 1, 1, (0, 0, 0), [], []), (2, .invokevirtual 34, 3, (42, 1, 4), [767, 760, 761, 69], []), (5, .ifCond .eq 12, 3, (17, 0, 0), [], []), (8, .aload_n 0, 1, (0, 0, 0), [], []), (9, .getfield 15, 3, (4, 1, 0), [226], []), (12, .iload_n 1, 1, (0, 0, 0), [], []), (13, .iaload, 1, (0, 0, 0), [], []), (14, .goto 4, 3, (18, 0, 0), [], []), (17, .iconst (-1), 1, (0, 0, 0), [], []), (18, .ireturn, 1, (0, 0, 0), [], [])]
def mX5_hangOf : pM := (yX5_hangOf, cX5_hangOf, 2, (some .int), 771, tX5_hangOf)
def tX5_axisOf : List pI := [(0, .aload_n 0, 1, (0, 0, 0), [], []), (1, .iload_n 1, 1, (0, 0, 0), [], []), (2, .invokevirtual 34, 3, (42, 1, 4), [767, 760, 761, 69], []), (5, .ifCond .eq 12, 3, (17, 0, 0), [], []), (8, .aload_n 0, 1, (0, 0, 0), [], []), (9, .getfield 18, 3, (4, 2, 0), [227], []), (12, .iload_n 1, 1, (0, 0, 0), [], []), (13, .iaload, 1, (0, 0, 0), [], []), (14, .goto 4, 3, (18, 0, 0), [], []), (17, .iconst (-1), 1, (0, 0, 0), [], []), (18, .ireturn, 1, (0, 0, 0), [], [])]
def mX5_axisOf : pM := (yX5_axisOf, cX5_axisOf, 2, (some .int), 775, tX5_axisOf)
def tX5_fits : List pI := [(0, .aload_n 0, 1, (0, 0, 0), [], []), (1, .iload_n 1, 1, (0, 0, 0), [], []), (2, .invokevirtual 34, 3, (42, 1, 4), [767, 760, 761, 69], []), (5, .ifCond .eq 28, 3, (33, 0, 0), [], []), (8, .aload_n 0, 1, (0, 0, 0), [], []), (9, .getfield 9, 3, (4, 0, 0), [225], []), (12, .iload_n 1, 1, (0, 0, 0), [], []), (13, .iaload, 1, (0, 0, 0), [], []), (14, .bipush 6, 2, (0, 0, 0), [], []), (16, .if_icmp .eq 13, 3, (29, 0, 0), [], []), (19, .aload_n 0, 1, (0, 0, 0), [], []), (20, .getfield 9, 3, (4, 0, 0), [225], []), (23, .iload_n 1, 1, (0, 0, 0), [], []), (24, .iaload, 1, (0, 0, 0), [], []), (25, .iload_n 2, 1, (0, 0, 0), [], []), (26, .if_icmp .ne 7, 3, (33, 0, 0), [], []), (29, .iconst 1, 1, (0, 0, 0), [], []), (30, .goto 4, 3, (34, 0, 0), [], []), (33, .iconst 0, 1, (0, 0, 0), [], []), (34, .ireturn, 1, (0, 0, 0), [], [])]
def mX5_fits : pM := (yX5_fits, cX5_fits, 3, (some .boolean), 804, tX5_fits)
def tX6_read : List pI := [(0, .aload_n 2, 1, (0, 0, 0), [], []), (1, .invokevirtual 15, 3, (39, 0, 4), [711, 543, 544, 69], []), (4, .aload_n 0, 1, (0, 0, 0), [], []), (5, .iconst 0, 1, (0, 0, 0), [], []), (6, .putfield 20, 3, (5, 1, 0), [126], []), (9, .aload_n 0, 1, (0, 0, 0), [], []), (10, .iconst 0, 1, (0, 0, 0), [], []), (11, .putfield 24, 3, (5, 2, 0), [127], []), (14, .aload_n 0, 1, (0, 0, 0), [], []), (15, .iconst (-1), 1, (0, 0, 0), [], []), (16, .putfield 27, 3, (5, 3, 0), [128], []), (19, .aload_n 0, 1, (0, 0, 0), [], []), (20, .iconst (-1), 1, (0, 0, 0), [], []), (21, .putfield 30, 3, (5, 4, 0), [129], []), (24, .iconst 0, 1, (0, 0, 0), [], []), (25, .istore_n 3, 1, (0, 0, 0), [], []), (26, .iload_n 3, 1, (0, 0, 0), [], [0, 1, 2, 3]), (27, .aload_n 1, 1, (0, 0, 0), [], []), (28, .invokevirtual 33, 3, (4, 0, 0), [712, 334, 335, 63], []), (31, .if_icmp .ge 24, 3, (55, 0, 0), [], []), (34, .aload_n 0, 1, (0, 0, 0), [], []), (35, .aload_n 1, 1, (0, 0, 0), [], []), (36, .iload_n 3, 1, (0, 0, 0), [], []), (37, .invokevirtual 39, 3, (8, 1, 0), [713, 338, 339, 63], []), (40, .aload_n 2, 1, (0, 0, 0), [], []), (41, .invokevirtual 43, 3, (51, 2, 5), [714, 716, 13, 65], []), (44, .ifCond .ne 5, 3, (49, 0, 0), [], []), (47, .iload_n 3, 1, (0, 0, 0), [], []), (48, .ireturn, 1, (0, 0, 0), [], []), (49, .iinc 3 1, 3, (0, 0, 0), [], []), (52, .goto (-26), 3, (26, 0, 0), [], []), (55, .aload_n 0, 1, (0, 0, 0), [], []), (56, .getfield 24, 3, (5, 2, 0), [127], []), (59, .iconst 2, 1, (0, 0, 0), [], []), (60, .if_icmp .ne 14, 3, (74, 0, 0), [], []), (63, .aload_n 0, 1, (0, 0, 0), [], []), (64, .getfield 20, 3, (5, 1, 0), [126], []), (67, .ifCond .ne 7, 3, (74, 0, 0), [], []), (70, .iconst (-1), 1, (0, 0, 0), [], []), (71, .goto 7, 3, (78, 0, 0), [], []), (74, .aload_n 1, 1, (0, 0, 0), [], []), (75, .invokevirtual 33, 3, (4, 0, 0), [712, 334, 335, 63], []), (78, .ireturn, 1, (0, 0, 0), [], [])]
def mX6_read : pM := (yX6_read, cX6_read, 4, (some .int), 710, tX6_read)
def tX6_takes : List pI := [(0, .aload_n 0, 1, (0, 0, 0), [], []), (1, .getfield 24, 3, (5, 2, 0), [127], []), (4, .ifCond .ne 10, 3, (14, 0, 0), [], []), (7, .aload_n 0, 1, (0, 0, 0), [], []), (8, .iload_n 1, 1, (0, 0, 0), [], []), (9, .aload_n 2, 1, (0, 0, 0), [], []), (10, .invokevirtual 47, 3, (52, 2, 5), [718, 720, 14, 65], []), (13, .ireturn, 1, (0, 0, 0), [], []), (14, .aload_n 0, 1, (0, 0, 0), [], []), (15, .getfield 24, 3, (5, 2, 0), [127], []), (18, .iconst 2, 1, (0, 0, 0), [], []), (19, .if_icmp .ne 14, 3, (33, 0, 0), [], []), (22, .iload_n 1, 1, (0, 0, 0), [], []), (23, .bipush 91, 2, (0, 0, 0), [], []), (25, .if_icmp .ne 8, 3, (33, 0, 0), [], []), (28, .aload_n 0, 1, (0, 0, 0), [], []), (29, .invokevirtual 50, 3, (55, 0, 5), [731, 733, 15, 65], []), (32, .ireturn, 1, (0, 0, 0), [], []), (33, .aload_n 0, 1, (0, 0, 0), [], []), (34, .getfield 24, 3, (5, 2, 0), [127], []), (37, .iconst 2, 1, (0, 0, 0), [], []), (38, .if_icmp .ne 14, 3, (52, 0, 0), [], []), (41, .iload_n 1, 1, (0, 0, 0), [], []), (42, .bipush 93, 2, (0, 0, 0), [], []), (44, .if_icmp .ne 8, 3, (52, 0, 0), [], []), (47, .aload_n 0, 1, (0, 0, 0), [], []), (48, .invokevirtual 54, 3, (56, 0, 5), [735, 737, 16, 65], []), (51, .ireturn, 1, (0, 0, 0), [], []), (52, .aload_n 0, 1, (0, 0, 0), [], []), (53, .iload_n 1, 1, (0, 0, 0), [], []), (54, .invokevirtual 57, 3, (53, 1, 5), [739, 741, 17, 65], []), (57, .ireturn, 1, (0, 0, 0), [], [])]
def mX6_takes : pM := (yX6_takes, cX6_takes, 3, (some .boolean), 717, tX6_takes)
def tX6_takesTag : List pI := [(0, .iload_n 1, 1, (0, 0, 0), [], []), (1, .bipush 42, 2, (0, 0, 0), [], []), (3, .if_icmp .ne 8, 3, (11, 0, 0), [], []), (6, .bipush 6, 2, (0, 0, 0), [], []), (8, .goto 7, 3, (15, 0, 0), [], []), (11, .iload_n 1, 1, (0, 0, 0), [], []), (12, .bipush 97, 2, (0, 0, 0), [], []), (14, .isub, 1, (0, 0, 0), [], []), (15, .istore_n 3, 1, (0, 0, 0), [], []), (16, .iload_n 1, 1, (0, 0, 0), [], []), (17, .bipush 42, 2, (0, 0, 0), [], []), (19, .if_icmp .eq 12, 3, (31, 0, 0), [], []), (22, .iload_n 3, 1, (0, 0, 0), [], []), (23, .invokestatic 61, 3, (115, 1, 1), [722, 376, 62], []), (26, .ifCond .ne 5, 3, (31, 0, 0), [], []), (29, .iconst 0, 1, (0, 0, 0), [], []), (30, .ireturn, 1, (0, 0, 0), [], []), (31, .aload_n 2, 1, (0, 0, 0), [], []), (32, .iload_n 3, 1, (0, 0, 0), [], []), (33, .aload_n 0, 1, (0, 0, 0), [], []), (34, .getfield 27, 3, (5, 3, 0), [128], []), (37, .aload_n 0, 1, (0, 0, 0), [], []), (38, .getfield 30, 3, (5, 4, 0), [129], []), (41, .invokevirtual 64, 3, (43, 3, 4), [723, 724, 725, 69], []), (44, .istore 4, 2, (0, 0, 0), [], []), (46, .iload 4, 2, (0, 0, 0), [], []), (48, .ifCond .ge 5, 3, (53, 0, 0), [], []), (51, .iconst 0, 1, (0, 0, 0), [], []), (52, .ireturn, 1, (0, 0, 0), [], []), (53, .aload_n 0, 1, (0, 0, 0), [], []), (54, .getfield 20, 3, (5, 1, 0), [126], []), (57, .ifCond .ne 9, 3, (66, 0, 0), [], []), (60, .aload_n 2, 1, (0, 0, 0), [], []), (61, .iload 4, 2, (0, 0, 0), [], []), (63, .invokevirtual 68, 3, (44, 1, 4), [727, 728, 729, 69], []), (66, .aload_n 0, 1, (0, 0, 0), [], []), (67, .iload 4, 2, (0, 0, 0), [], []), (69, .putfield 27, 3, (5, 3, 0), [128], []), (72, .aload_n 0, 1, (0, 0, 0), [], []), (73, .iconst 2, 1, (0, 0, 0), [], []), (74, .putfield 24, 3, (5, 2, 0), [127], []), (77, .iconst 1, 1, (0, 0, 0), [], []), (78, .ireturn, 1, (0, 0, 0), [], [])]
def mX6_takesTag : pM := (yX6_takesTag, cX6_takesTag, 5, (some .boolean), 721, tX6_takesTag)
def tX6_takesAxis : List pI := [(0, .iload_n 1, 1, (0, 0, 0), [], []), (1, .invokestatic 72, 3, (54, 1, 0), [743, 744, 65], []), (4, .istore_n 2, 1, (0, 0, 0), [], []), (5, .iload_n 2, 1, (0, 0, 0), [], []), (6, .ifCond .ge 5, 3, (11, 0, 0), [], []), (9, .iconst 0, 1, (0, 0, 0), [], []), (10, .ireturn, 1, (0, 0, 0), [], []), (11, .aload_n 0, 1, (0, 0, 0), [], []), (12, .iload_n 2, 1, (0, 0, 0), [], []), (13, .putfield 30, 3, (5, 4, 0), [129], []), (16, .aload_n 0, 1, (0, 0, 0), [], []), (17, .iconst 0, 1, (0, 0, 0), [], []), (18, .putfield 24, 3, (5, 2, 0), [127], []), (21, .iconst 1, 1, (0, 0, 0), [], []), (22, .ireturn, 1, (0, 0, 0), [], [])]
def mX6_takesAxis : pM := (yX6_takesAxis, cX6_takesAxis, 3, (some .boolean), 742, tX6_takesAxis)
def tX6_axisFor : List pI := [(0, .iload_n 0, 1, (0, 0, 0), [], []), (1, .lookupswitch 51 #[(43, 47), (47, 43), (58, 45), (126, 49)], 43, (0, 0, 0), [], []), (44, .iconst 0, 1, (0, 0, 0), [], []), (45, .ireturn, 1, (0, 0, 0), [], []), (46, .iconst 1, 1, (0, 0, 0), [], []), (47, .ireturn, 1, (0, 0, 0), [], []), (48, .iconst 2, 1, (0, 0, 0), [], []), (49, .ireturn, 1, (0, 0, 0), [], []), (50, .iconst 3, 1, (0, 0, 0), [], []), (51, .ireturn, 1, (0, 0, 0), [], []), (52, .iconst (-1), 1, (0, 0, 0), [], []), (53, .ireturn, 1, (0, 0, 0), [], [])]
def mX6_axisFor : pM := (yX6_axisFor, cX6_axisFor, 1, (some .int), 745, tX6_axisFor)
def tX6_opens : List pI := [(0, .aload_n 0, 1, (0, 0, 0), [], []), (1, .getfield 20, 3, (5, 1, 0), [126], []), (4, .bipush 8, 2, (0, 0, 0), [], []), (6, .if_icmp .lt 5, 3, (11, 0, 0), [], []), (9, .iconst 0, 1, (0, 0, 0), [], []), (10, .ireturn, 1, (0, 0, 0), [], []), (11, .aload_n 0, 1, (0, 0, 0), [], []), (12, .getfield 9, 3, (5, 0, 0), [125], []), (15, .aload_n 0, 1, (0, 0, 0), [], []), (16, .getfield 20, 3, (5, 1, 0), [126], []), (19, .aload_n 0, 1, (0, 0, 0), [], []), (20, .getfield 27, 3, (5, 3, 0), [128], []), (23, .iastore, 1, (0, 0, 0), [], []), (24, .aload_n 0, 1, (0, 0, 0), [], []), (25, .dup, 1, (0, 0, 0), [], []), (26, .getfield 20, 3, (5, 1, 0), [126], []), (29, .iconst 1, 1, (0, 0, 0), [], []), (30, .iadd, 1, (0, 0, 0), [], []), (31, .putfield 20, 3, (5, 1, 0), [126], []), (34, .aload_n 0, 1, (0, 0, 0), [], []), (35, .iconst 1, 1, (0, 0, 0), [], []), (36, .putfield 24, 3, (5, 2, 0), [127], []), (39, .iconst 1, 1, (0, 0, 0), [], []), (40, .ireturn, 1, (0, 0, 0), [], [])]
def mX6_opens : pM := (yX6_opens, cX6_opens, 1, (some .boolean), 734, tX6_opens)
def tX6_closes : List pI := [(0, .aload_n 0, 1, (0, 0, 0), [], []), (1, .getfield 20, 3, (5, 1, 0), [126], []), (4, .ifCond .gt 5, 3, (9, 0, 0), [], []), (7, .iconst 0, 1, (0, 0, 0), [], []), (8, .ireturn, 1, (0, 0, 0), [], []), (9, .aload_n 0, 1, (0, 0, 0), [], []), (10, .dup, 1, (0, 0, 0), [], []), (11, .getfield 20, 3, (5, 1, 0), [126], []), (14, .iconst 1, 1, (0, 0, 0), [], []), (15, .isub, 1, (0, 0, 0), [], []), (16, .putfield 20, 3, (5, 1, 0), [126], []), (19, .aload_n 0, 1, (0, 0, 0), [], []), (20, .aload_n 0, 1, (0, 0, 0), [], []), (21, .getfield 9, 3, (5, 0, 0), [125], []), (24, .aload_n 0, 1, (0, 0, 0), [], []), (25, .getfield 20, 3, (5, 1, 0), [126], []), (28, .iaload, 1, (0, 0, 0), [], []), (29, .putfield 27, 3, (5, 3, 0), [128], []), (32, .iconst 1, 1, (0, 0, 0), [], []), (33, .ireturn, 1, (0, 0, 0), [], [])]
def mX6_closes : pM := (yX6_closes, cX6_closes, 1, (some .boolean), 738, tX6_closes)
def tX7_clear : List pI := [(0, .aload_n 0, 1, (0, 0, 0), [], []), (1, .iconst 0, 1, (0, 0, 0), [], []), (2, .putfield 21, 3, (6, 3, 0), [150], []), (5, .aload_n 0, 1, (0, 0, 0), [], []), (6, .iconst 0, 1, (0, 0, 0), [], []), (7, .putfield 25, 3, (6, 4, 0), [151], []), (10, .aload_n 0, 1, (0, 0, 0), [], []), (11, .iconst 0, 1, (0, 0, 0), [], []), (12, .putfield 28, 3, (6, 5, 0), [152], []), (15, .return_, 1, (0, 0, 0), [], [])]
def mX7_clear : pM := (yX7_clear, cX7_clear, 1, none, 332, tX7_clear)
def tX7_copyFrom : List pI := [(0, .aload_n 1, 1, (0, 0, 0), [], []), (1, .getfield 9, 3, (6, 0, 0), [147], []), (4, .iconst 0, 1, (0, 0, 0), [], []), (5, .aload_n 0, 1, (0, 0, 0), [], []), (6, .getfield 9, 3, (6, 0, 0), [147], []), (9, .iconst 0, 1, (0, 0, 0), [], []), (10, .bipush 24, 2, (0, 0, 0), [], []), (12, .invokestatic 31, 3, (0, 5, 2), [539, 541, 540, 78], []), (15, .aload_n 1, 1, (0, 0, 0), [], []), (16, .getfield 15, 3, (6, 1, 0), [148], []), (19, .iconst 0, 1, (0, 0, 0), [], []), (20, .aload_n 0, 1, (0, 0, 0), [], []), (21, .getfield 15, 3, (6, 1, 0), [148], []), (24, .iconst 0, 1, (0, 0, 0), [], []), (25, .bipush 24, 2, (0, 0, 0), [], []), (27, .invokestatic 31, 3, (0, 5, 2), [539, 541, 540, 78], []), (30, .aload_n 1, 1, (0, 0, 0), [], []), (31, .getfield 18, 3, (6, 2, 0), [149], []), (34, .iconst 0, 1, (0, 0, 0), [], []), (35, .aload_n 0, 1, (0, 0, 0), [], []), (36, .getfield 18, 3, (6, 2, 0), [149], []), (39, .iconst 0, 1, (0, 0, 0), [], []), (40, .bipush 24, 2, (0, 0, 0), [], []), (42, .invokestatic 31, 3, (0, 5, 2), [539, 541, 540, 78], []), (45, .aload_n 0, 1, (0, 0, 0), [], []), (46, .aload_n 1, 1, (0, 0, 0), [], []), (47, .getfield 21, 3, (6, 3, 0), [150], []), (50, .putfield 21, 3, (6, 3, 0), [150], []), (53, .aload_n 0, 1, (0, 0, 0), [], []), (54, .aload_n 1, 1, (0, 0, 0), [], []), (55, .getfield 25, 3, (6, 4, 0), [151], []), (58, .putfield 25, 3, (6, 4, 0), [151], []), (61, .aload_n 0, 1, (0, 0, 0), [], []), (62, .aload_n 1, 1, (0, 0, 0), [], []), (63, .getfield 28, 3, (6, 5, 0), [152], []), (66, .putfield 28, 3, (6, 5, 0), [152], []), (69, .return_, 1, (0, 0, 0), [], [])]
def mX7_copyFrom : pM := (yX7_copyFrom, cX7_copyFrom, 2, none, 538, tX7_copyFrom)
def tX7_isNumber : List pI := [(0, .iload_n 0, 1, (0, 0, 0), [], []), (1, .ifCond .lt 13, 3, (14, 0, 0), [], []), (4, .iload_n 0, 1, (0, 0, 0), [], []), (5, .bipush 24, 2, (0, 0, 0), [], []), (7, .if_icmp .ge 7, 3, (14, 0, 0), [], []), (10, .iconst 1, 1, (0, 0, 0), [], []), (11, .goto 4, 3, (15, 0, 0), [], []), (14, .iconst 0, 1, (0, 0, 0), [], []), (15, .ireturn, 1, (0, 0, 0), [], [])]
def mX7_isNumber : pM := (yX7_isNumber, cX7_isNumber, 1, (some .boolean), 397, tX7_isNumber)
def tX7_isThere : List pI := [(0, .iload_n 1, 1, (0, 0, 0), [], []), (1, .invokestatic 37, 3, (59, 1, 0), [395, 396, 66], []), (4, .ifCond .eq 19, 3, (23, 0, 0), [], []), (7, .aload_n 0, 1, (0, 0, 0), [], []), (8, .getfield 21, 3, (6, 3, 0), [150], []), (11, .iload_n 1, 1, (0, 0, 0), [], []), (12, .ishr, 1, (0, 0, 0), [], []), (13, .iconst 1, 1, (0, 0, 0), [], []), (14, .iand, 1, (0, 0, 0), [], []), (15, .iconst 1, 1, (0, 0, 0), [], []), (16, .if_icmp .ne 7, 3, (23, 0, 0), [], []), (19, .iconst 1, 1, (0, 0, 0), [], []), (20, .goto 4, 3, (24, 0, 0), [], []), (23, .iconst 0, 1, (0, 0, 0), [], []), (24, .ireturn, 1, (0, 0, 0), [], [])]
def mX7_isThere : pM := (yX7_isThere, cX7_isThere, 2, (some .boolean), 394, tX7_isThere)
def tX7_isFull : List pI := [(0, .aload_n 0, 1, (0, 0, 0), [], []), (1, .getfield 25, 3, (6, 4, 0), [151], []), (4, .bipush 24, 2, (0, 0, 0), [], []), (6, .if_icmp .lt 7, 3, (13, 0, 0), [], []), (9, .iconst 1, 1, (0, 0, 0), [], []), (10, .goto 4, 3, (14, 0, 0), [], []), (13, .iconst 0, 1, (0, 0, 0), [], []), (14, .ireturn, 1, (0, 0, 0), [], [])]
def mX7_isFull : pM := (yX7_isFull, cX7_isFull, 1, (some .boolean), 385, tX7_isFull)
def tX7_came : List pI := [(0, .aload_n 0, 1, (0, 0, 0), [], []), (1, .getfield 25, 3, (6, 4, 0), [151], []), (4, .ireturn, 1, (0, 0, 0), [], [])]
def mX7_came : pM := (yX7_came, cX7_came, 1, (some .int), 366, tX7_came)
def tX7_kind : List pI := [(0, .aload_n 0, 1, (0, 0, 0), [], []), (1, .getfield 28, 3, (6, 5, 0), [152], []), (4, .ireturn, 1, (0, 0, 0), [], [])]
def mX7_kind : pM := (yX7_kind, cX7_kind, 1, (some .int), 892, tX7_kind)
def tX7_setKind : List pI := [(0, .aload_n 0, 1, (0, 0, 0), [], []), (1, .iload_n 1, 1, (0, 0, 0), [], []), (2, .putfield 28, 3, (6, 5, 0), [152], []), (5, .return_, 1, (0, 0, 0), [], [])]
def mX7_setKind : pM := (yX7_setKind, cX7_setKind, 2, none, 370, tX7_setKind)
def tX7_bits : List pI := [(0, .aload_n 0, 1, (0, 0, 0), [], []), (1, .getfield 21, 3, (6, 3, 0), [150], []), (4, .ireturn, 1, (0, 0, 0), [], [])]
def mX7_bits : pM := (yX7_bits, cX7_bits, 1, (some .int), 635, tX7_bits)
def tX7_tagOf : List pI := [(0, .iload_n 1, 1, (0, 0, 0), [], []), (1, .invokestatic 37, 3, (59, 1, 0), [395, 396, 66], []), (4, .ifCond .eq 12, 3, (16, 0, 0), [], []), (7, .aload_n 0, 1, (0, 0, 0), [], []), (8, .getfield 9, 3, (6, 0, 0), [147], []), (11, .iload_n 1, 1, (0, 0, 0), [], []), (12, .iaload, 1, (0, 0, 0), [], []), (13, .goto 4, 3, (17, 0, 0), [], []), (16, .iconst (-1), 1, (0, 0, 0), [], []), (17, .ireturn, 1, (0, 0, 0), [], [])]
def mX7_tagOf : pM := (yX7_tagOf, cX7_tagOf, 2, (some .int), 565, tX7_tagOf)
def tX7_setTag : List pI := [(0, .iload_n 1, 1, (0, 0, 0), [], []), (1, .invokestatic 37, 3, (59, 1, 0), [395, 396, 66], []), (4, .ifCond .eq 10, 3, (14, 0, 0), [], []), (7, .aload_n 0, 1, (0, 0, 0), [], []), (8, .getfield 9, 3, (6, 0, 0), [147], []), (11, .iload_n 1, 1, (0, 0, 0), [], []), (12, .iload_n 2, 1, (0, 0, 0), [], []), (13, .iastore, 1, (0, 0, 0), [], []), (14, .return_, 1, (0, 0, 0), [], [])]
def mX7_setTag : pM := (yX7_setTag, cX7_setTag, 3, none, 665, tX7_setTag)
def tX7_parentOf : List pI := [(0, .iload_n 1, 1, (0, 0, 0), [], []), (1, .invokestatic 37, 3, (59, 1, 0), [395, 396, 66], []), (4, .ifCond .eq 12, 3, (16, 0, 0), [], []), (7, .aload_n 0, 1, (0, 0, 0), [], []), (8, .getfield 15, 3, (6, 1, 0), [148], []), (11, .iload_n 1, 1, (0, 0, 0), [], []), (12, .iaload, 1, (0, 0, 0), [], []), (13, .goto 4, 3, (17, 0, 0), [], []), (16, .iconst (-1), 1, (0, 0, 0), [], []), (17, .ireturn, 1, (0, 0, 0), [], [])]
def mX7_parentOf : pM := (yX7_parentOf, cX7_parentOf, 2, (some .int), 569, tX7_parentOf)
def tX7_spotOf : List pI := [(0, .iload_n 1, 1, (0, 0, 0), [], []), (1, .invokestatic 37, 3, (59, 1, 0), [395, 396, 66], []), (4, .ifCond .eq 12, 3, (16, 0, 0), [], []), (7, .aload_n 0, 1, (0, 0, 0), [], []), (8, .getfield 18, 3, (6, 2, 0), [149], []), (11, .iload_n 1, 1, (0, 0, 0), [], []), (12, .iaload, 1, (0, 0, 0), [], []), (13, .goto 4, 3, (17, 0, 0), [], []), (16, .iconst 0, 1, (0, 0, 0), [], []), (17, .ireturn, 1, (0, 0, 0), [], [])]
def mX7_spotOf : pM := (yX7_spotOf, cX7_spotOf, 2, (some .int), 419, tX7_spotOf)
def tX7_add : List pI := [(0, .aload_n 0, 1, (0, 0, 0), [], []), (1, .invokevirtual 43, 3, (61, 0, 6), [382, 383, 384, 66], []), (4, .ifCond .eq 5, 3, (9, 0, 0), [], []), (7, .iconst (-1), 1, (0, 0, 0), [], []), (8, .ireturn, 1, (0, 0, 0), [], []), (9, .aload_n 0, 1, (0, 0, 0), [], []), (10, .getfield 25, 3, (6, 4, 0), [151], []), (13, .istore 4, 2, (0, 0, 0), [], []), (15, .aload_n 0, 1, (0, 0, 0), [], []), (16, .getfield 9, 3, (6, 0, 0), [147], []), (19, .iload 4, 2, (0, 0, 0), [], []), (21, .iload_n 3, 1, (0, 0, 0), [], []), (22, .iastore, 1, (0, 0, 0), [], []), (23, .aload_n 0, 1, (0, 0, 0), [], []), (24, .getfield 15, 3, (6, 1, 0), [148], []), (27, .iload 4, 2, (0, 0, 0), [], []), (29, .iload_n 1, 1, (0, 0, 0), [], []), (30, .iastore, 1, (0, 0, 0), [], []), (31, .aload_n 0, 1, (0, 0, 0), [], []), (32, .getfield 18, 3, (6, 2, 0), [149], []), (35, .iload 4, 2, (0, 0, 0), [], []), (37, .iload_n 2, 1, (0, 0, 0), [], []), (38, .iastore, 1, (0, 0, 0), [], []), (39, .aload_n 0, 1, (0, 0, 0), [], []), (40, .dup, 1, (0, 0, 0), [], []), (41, .getfield 21, 3, (6, 3, 0), [150], []), (44, .iconst 1, 1, (0, 0, 0), [], []), (45, .iload 4, 2, (0, 0, 0), [], []), (47, .ishl, 1, (0, 0, 0), [], []), (48, .ior, 1, (0, 0, 0), [], []), (49, .putfield 21, 3, (6, 3, 0), [150], []), (52, .aload_n 0, 1, (0, 0, 0), [], []), (53, .dup, 1, (0, 0, 0), [], []), (54, .getfield 25, 3, (6, 4, 0), [151], []), (57, .iconst 1, 1, (0, 0, 0), [], []), (58, .iadd, 1, (0, 0, 0), [], []), (59, .putfield 25, 3, (6, 4, 0), [151], []), (62, .iload 4, 2, (0, 0, 0), [], []), (64, .ireturn, 1, (0, 0, 0), [], [])]
def mX7_add : pM := (yX7_add, cX7_add, 5, (some .int), 381, tX7_add)
def tX7_remove : List pI := [(0, .aload_n 0, 1, (0, 0, 0), [], []), (1, .dup, 1, (0, 0, 0), [], []), (2, .getfield 21, 3, (6, 3, 0), [150], []), (5, .iload_n 1, 1, (0, 0, 0), [], []), (6, .iconst (-1), 1, (0, 0, 0), [], []), (7, .ixor, 1, (0, 0, 0), [], []), (8, .iand, 1, (0, 0, 0), [], []), (9, .putfield 21, 3, (6, 3, 0), [150], []), (12, .return_, 1, (0, 0, 0), [], [])]
def mX7_remove : pM := (yX7_remove, cX7_remove, 2, none, 651, tX7_remove)
def tX7_rewind : List pI := [(0, .aload_n 0, 1, (0, 0, 0), [], []), (1, .iload_n 1, 1, (0, 0, 0), [], []), (2, .putfield 21, 3, (6, 3, 0), [150], []), (5, .aload_n 0, 1, (0, 0, 0), [], []), (6, .iload_n 2, 1, (0, 0, 0), [], []), (7, .putfield 25, 3, (6, 4, 0), [151], []), (10, .return_, 1, (0, 0, 0), [], [])]
def mX7_rewind : pM := (yX7_rewind, cX7_rewind, 3, none, 681, tX7_rewind)
def tX7_kidsOf : List pI := [(0, .iconst 0, 1, (0, 0, 0), [], []), (1, .istore_n 2, 1, (0, 0, 0), [], []), (2, .iconst 1, 1, (0, 0, 0), [], []), (3, .istore_n 3, 1, (0, 0, 0), [], []), (4, .iload_n 3, 1, (0, 0, 0), [], [0, 1, 2, 3]), (5, .bipush 24, 2, (0, 0, 0), [], []), (7, .if_icmp .ge 30, 3, (37, 0, 0), [], []), (10, .aload_n 0, 1, (0, 0, 0), [], []), (11, .iload_n 3, 1, (0, 0, 0), [], []), (12, .invokevirtual 47, 3, (60, 1, 6), [402, 392, 393, 66], []), (15, .ifCond .eq 16, 3, (31, 0, 0), [], []), (18, .aload_n 0, 1, (0, 0, 0), [], []), (19, .getfield 15, 3, (6, 1, 0), [148], []), (22, .iload_n 3, 1, (0, 0, 0), [], []), (23, .iaload, 1, (0, 0, 0), [], []), (24, .iload_n 1, 1, (0, 0, 0), [], []), (25, .if_icmp .ne 6, 3, (31, 0, 0), [], []), (28, .iinc 2 1, 3, (0, 0, 0), [], []), (31, .iinc 3 1, 3, (0, 0, 0), [], []), (34, .goto (-30), 3, (4, 0, 0), [], []), (37, .iload_n 2, 1, (0, 0, 0), [], []), (38, .ireturn, 1, (0, 0, 0), [], [])]
def mX7_kidsOf : pM := (yX7_kidsOf, cX7_kidsOf, 4, (some .int), 401, tX7_kidsOf)
def tX7_nextKid : List pI := [(0, .iconst (-1), 1, (0, 0, 0), [], []), (1, .istore_n 3, 1, (0, 0, 0), [], []), (2, .ldc 50, 2, (1000000000, 0, 0), [415], []), (4, .istore 4, 2, (0, 0, 0), [], []), (6, .iconst 1, 1, (0, 0, 0), [], []), (7, .istore 5, 2, (0, 0, 0), [], []), (9, .iload 5, 2, (0, 0, 0), [], [0, 1, 2, 3, 4, 5]), (11, .bipush 24, 2, (0, 0, 0), [], []), (13, .if_icmp .ge 68, 3, (81, 0, 0), [], []), (16, .aload_n 0, 1, (0, 0, 0), [], []), (17, .getfield 21, 3, (6, 3, 0), [150], []), (20, .iload 5, 2, (0, 0, 0), [], []), (22, .ishr, 1, (0, 0, 0), [], []), (23, .iconst 1, 1, (0, 0, 0), [], []), (24, .iand, 1, (0, 0, 0), [], []), (25, .iconst 1, 1, (0, 0, 0), [], []), (26, .if_icmp .ne 49, 3, (75, 0, 0), [], []), (29, .aload_n 0, 1, (0, 0, 0), [], []), (30, .getfield 15, 3, (6, 1, 0), [148], []), (33, .iload 5, 2, (0, 0, 0), [], []), (35, .iaload, 1, (0, 0, 0), [], []), (36, .iload_n 1, 1, (0, 0, 0), [], []), (37, .if_icmp .ne 38, 3, (75, 0, 0), [], []), (40, .aload_n 0, 1, (0, 0, 0), [], []), (41, .getfield 18, 3, (6, 2, 0), [149], []), (44, .iload 5, 2, (0, 0, 0), [], []), (46, .iaload, 1, (0, 0, 0), [], []), (47, .iload_n 2, 1, (0, 0, 0), [], []), (48, .if_icmp .le 27, 3, (75, 0, 0), [], []), (51, .aload_n 0, 1, (0, 0, 0), [], []), (52, .getfield 18, 3, (6, 2, 0), [149], []), (55, .iload 5, 2, (0, 0, 0), [], []), (57, .iaload, 1, (0, 0, 0), [], []), (58, .iload 4, 2, (0, 0, 0), [], []), (60, .if_icmp .ge 15, 3, (75, 0, 0), [], []), (63, .iload 5, 2, (0, 0, 0), [], []), (65, .istore_n 3, 1, (0, 0, 0), [], []), (66, .aload_n 0, 1, (0, 0, 0), [], []), (67, .getfield 18, 3, (6, 2, 0), [149], []), (70, .iload 5, 2, (0, 0, 0), [], []), (72, .iaload, 1, (0, 0, 0), [], []), (73, .istore 4, 2, (0, 0, 0), [], []), (75, .iinc 5 1, 3, (0, 0, 0), [], []), (78, .goto (-69), 3, (9, 0, 0), [], []), (81, .iload_n 3, 1, (0, 0, 0), [], []), (82, .ireturn, 1, (0, 0, 0), [], [])]
def mX7_nextKid : pM := (yX7_nextKid, cX7_nextKid, 6, (some .int), 414, tX7_nextKid)
def tX7_childAt : List pI := [(0, .aload_n 0, 1, (0, 0, 0), [], []), (1, .iload_n 1, 1, (0, 0, 0), [], []), (2, .iconst 0, 1, (0, 0, 0), [], []), (3, .invokevirtual 51, 3, (74, 2, 6), [411, 412, 413, 66], []), (6, .istore_n 3, 1, (0, 0, 0), [], []), (7, .iconst 0, 1, (0, 0, 0), [], []), (8, .istore 4, 2, (0, 0, 0), [], []), (10, .iload 4, 2, (0, 0, 0), [], [0, 1, 2, 3, 4]), (12, .iload_n 2, 1, (0, 0, 0), [], []), (13, .if_icmp .ge 24, 3, (37, 0, 0), [], []), (16, .iload_n 3, 1, (0, 0, 0), [], []), (17, .ifCond .lt 20, 3, (37, 0, 0), [], []), (20, .aload_n 0, 1, (0, 0, 0), [], []), (21, .iload_n 1, 1, (0, 0, 0), [], []), (22, .aload_n 0, 1, (0, 0, 0), [], []), (23, .iload_n 3, 1, (0, 0, 0), [], []), (24, .invokevirtual 55, 3, (69, 1, 6), [416, 417, 418, 66], []), (27, .invokevirtual 51, 3, (74, 2, 6), [411, 412, 413, 66], []), (30, .istore_n 3, 1, (0, 0, 0), [], []), (31, .iinc 4 1, 3, (0, 0, 0), [], []), (34, .goto (-24), 3, (10, 0, 0), [], []), (37, .iload_n 3, 1, (0, 0, 0), [], []), (38, .ireturn, 1, (0, 0, 0), [], [])]
def mX7_childAt : pM := (yX7_childAt, cX7_childAt, 5, (some .int), 410, tX7_childAt)
def tX7_spotFor : List pI := [(0, .iload_n 2, 1, (0, 0, 0), [], []), (1, .ifCond .le 18, 3, (19, 0, 0), [], []), (4, .aload_n 0, 1, (0, 0, 0), [], []), (5, .aload_n 0, 1, (0, 0, 0), [], []), (6, .iload_n 1, 1, (0, 0, 0), [], []), (7, .iload_n 2, 1, (0, 0, 0), [], []), (8, .iconst 1, 1, (0, 0, 0), [], []), (9, .isub, 1, (0, 0, 0), [], []), (10, .invokevirtual 59, 3, (75, 2, 6), [407, 408, 409, 66], []), (13, .invokevirtual 55, 3, (69, 1, 6), [416, 417, 418, 66], []), (16, .goto 4, 3, (20, 0, 0), [], []), (19, .iconst 0, 1, (0, 0, 0), [], []), (20, .istore_n 3, 1, (0, 0, 0), [], []), (21, .aload_n 0, 1, (0, 0, 0), [], []), (22, .iload_n 1, 1, (0, 0, 0), [], []), (23, .iload_n 3, 1, (0, 0, 0), [], []), (24, .invokevirtual 51, 3, (74, 2, 6), [411, 412, 413, 66], []), (27, .istore 4, 2, (0, 0, 0), [], []), (29, .aload_n 0, 1, (0, 0, 0), [], []), (30, .getfield 28, 3, (6, 5, 0), [152], []), (33, .iload_n 3, 1, (0, 0, 0), [], []), (34, .iload 4, 2, (0, 0, 0), [], []), (36, .ifCond .ge 8, 3, (44, 0, 0), [], []), (39, .ldc 50, 2, (1000000000, 0, 0), [415], []), (41, .goto 9, 3, (50, 0, 0), [], []), (44, .aload_n 0, 1, (0, 0, 0), [], []), (45, .iload 4, 2, (0, 0, 0), [], []), (47, .invokevirtual 55, 3, (69, 1, 6), [416, 417, 418, 66], []), (50, .invokestatic 62, 3, (0, 3, 0), [420, 421, 75], []), (53, .ireturn, 1, (0, 0, 0), [], [])]
def mX7_spotFor : pM := (yX7_spotFor, cX7_spotFor, 5, (some .int), 406, tX7_spotFor)
def tX8_read : List pI := [(0, .aload_n 2, 1, (0, 0, 0), [], []), (1, .invokevirtual 15, 3, (57, 0, 6), [329, 330, 331, 66], []), (4, .aload_n 0, 1, (0, 0, 0), [], []), (5, .iconst 0, 1, (0, 0, 0), [], []), (6, .putfield 20, 3, (7, 1, 0), [110], []), (9, .aload_n 0, 1, (0, 0, 0), [], []), (10, .iconst 0, 1, (0, 0, 0), [], []), (11, .putfield 24, 3, (7, 2, 0), [111], []), (14, .aload_n 0, 1, (0, 0, 0), [], [0, 1, 2]), (15, .getfield 20, 3, (7, 1, 0), [110], []), (18, .aload_n 1, 1, (0, 0, 0), [], []), (19, .invokevirtual 28, 3, (4, 0, 0), [333, 334, 335, 63], []), (22, .if_icmp .ge 56, 3, (78, 0, 0), [], []), (25, .aload_n 0, 1, (0, 0, 0), [], []), (26, .getfield 20, 3, (7, 1, 0), [110], []), (29, .istore_n 3, 1, (0, 0, 0), [], []), (30, .aload_n 1, 1, (0, 0, 0), [], []), (31, .aload_n 0, 1, (0, 0, 0), [], []), (32, .getfield 20, 3, (7, 1, 0), [110], []), (35, .invokevirtual 34, 3, (8, 1, 0), [337, 338, 339, 63], []), (38, .istore 4, 2, (0, 0, 0), [], []), (40, .aload_n 0, 1, (0, 0, 0), [], []), (41, .dup, 1, (0, 0, 0), [], []), (42, .getfield 20, 3, (7, 1, 0), [110], []), (45, .iconst 1, 1, (0, 0, 0), [], []), (46, .iadd, 1, (0, 0, 0), [], []), (47, .putfield 20, 3, (7, 1, 0), [110], []), (50, .aload_n 0, 1, (0, 0, 0), [], []), (51, .aload_n 1, 1, (0, 0, 0), [], []), (52, .iload 4, 2, (0, 0, 0), [], []), (54, .invokestatic 38, 3, (78, 1, 0), [341, 342, 64], []), (57, .invokevirtual 41, 3, (79, 2, 7), [344, 346, 0, 64], []), (60, .ifCond .eq 13, 3, (73, 0, 0), [], []), (63, .aload_n 0, 1, (0, 0, 0), [], []), (64, .iload 4, 2, (0, 0, 0), [], []), (66, .aload_n 2, 1, (0, 0, 0), [], []), (67, .invokevirtual 45, 3, (82, 2, 7), [355, 357, 2, 64], []), (70, .ifCond .ne 5, 3, (75, 0, 0), [], []), (73, .iload_n 3, 1, (0, 0, 0), [], []), (74, .ireturn, 1, (0, 0, 0), [], []), (75, .goto (-61), 3, (14, 0, 0), [], []), (78, .iconst (-1), 1, (0, 0, 0), [], []), (79, .ireturn, 1, (0, 0, 0), [], [])]
def mX8_read : pM := (yX8_read, cX8_read, 5, (some .int), 328, tX8_read)
def tX8_numbersBehind : List pI := [(0, .iload_n 0, 1, (0, 0, 0), [], []), (1, .bipush 107, 2, (0, 0, 0), [], []), (3, .if_icmp .eq 9, 3, (12, 0, 0), [], []), (6, .iload_n 0, 1, (0, 0, 0), [], []), (7, .bipush 114, 2, (0, 0, 0), [], []), (9, .if_icmp .ne 5, 3, (14, 0, 0), [], []), (12, .iconst 1, 1, (0, 0, 0), [], []), (13, .ireturn, 1, (0, 0, 0), [], []), (14, .iload_n 0, 1, (0, 0, 0), [], []), (15, .bipush 103, 2, (0, 0, 0), [], []), (17, .if_icmp .ne 7, 3, (24, 0, 0), [], []), (20, .iconst 3, 1, (0, 0, 0), [], []), (21, .goto 4, 3, (25, 0, 0), [], []), (24, .iconst 0, 1, (0, 0, 0), [], []), (25, .ireturn, 1, (0, 0, 0), [], [])]
def mX8_numbersBehind : pM := (yX8_numbersBehind, cX8_numbersBehind, 1, (some .int), 343, tX8_numbersBehind)
def tX8_readNumbers : List pI := [(0, .iconst 0, 1, (0, 0, 0), [], []), (1, .istore_n 3, 1, (0, 0, 0), [], []), (2, .iload_n 3, 1, (0, 0, 0), [], [0, 1, 2, 3]), (3, .iload_n 2, 1, (0, 0, 0), [], []), (4, .if_icmp .ge 79, 3, (83, 0, 0), [], []), (7, .iload_n 3, 1, (0, 0, 0), [], []), (8, .aload_n 0, 1, (0, 0, 0), [], []), (9, .getfield 9, 3, (7, 0, 0), [109], []), (12, .arraylength, 1, (0, 0, 0), [], []), (13, .if_icmp .ge 70, 3, (83, 0, 0), [], []), (16, .aload_n 0, 1, (0, 0, 0), [], []), (17, .getfield 9, 3, (7, 0, 0), [109], []), (20, .iload_n 3, 1, (0, 0, 0), [], []), (21, .aload_n 0, 1, (0, 0, 0), [], []), (22, .aload_n 1, 1, (0, 0, 0), [], []), (23, .invokevirtual 49, 3, (80, 1, 7), [348, 350, 1, 64], []), (26, .iastore, 1, (0, 0, 0), [], []), (27, .iload_n 3, 1, (0, 0, 0), [], []), (28, .iload_n 2, 1, (0, 0, 0), [], []), (29, .iconst 1, 1, (0, 0, 0), [], []), (30, .isub, 1, (0, 0, 0), [], []), (31, .if_icmp .ne 8, 3, (39, 0, 0), [], []), (34, .bipush 59, 2, (0, 0, 0), [], []), (36, .goto 5, 3, (41, 0, 0), [], []), (39, .bipush 44, 2, (0, 0, 0), [], []), (41, .istore 4, 2, (0, 0, 0), [], []), (43, .aload_n 0, 1, (0, 0, 0), [], []), (44, .getfield 9, 3, (7, 0, 0), [109], []), (47, .iload_n 3, 1, (0, 0, 0), [], []), (48, .iaload, 1, (0, 0, 0), [], []), (49, .ifCond .lt 16, 3, (65, 0, 0), [], []), (52, .aload_n 1, 1, (0, 0, 0), [], []), (53, .aload_n 0, 1, (0, 0, 0), [], []), (54, .getfield 20, 3, (7, 1, 0), [110], []), (57, .invokevirtual 34, 3, (8, 1, 0), [337, 338, 339, 63], []), (60, .iload 4, 2, (0, 0, 0), [], []), (62, .if_icmp .eq 5, 3, (67, 0, 0), [], []), (65, .iconst 0, 1, (0, 0, 0), [], []), (66, .ireturn, 1, (0, 0, 0), [], []), (67, .aload_n 0, 1, (0, 0, 0), [], []), (68, .dup, 1, (0, 0, 0), [], []), (69, .getfield 20, 3, (7, 1, 0), [110], []), (72, .iconst 1, 1, (0, 0, 0), [], []), (73, .iadd, 1, (0, 0, 0), [], []), (74, .putfield 20, 3, (7, 1, 0), [110], []), (77, .iinc 3 1, 3, (0, 0, 0), [], []), (80, .goto (-78), 3, (2, 0, 0), [], []), (83, .iload_n 2, 1, (0, 0, 0), [], []), (84, .ifCond .le 7, 3, (91, 0, 0), [], []), (87, .iconst 1, 1, (0, 0, 0), [], []), (88, .goto 4, 3, (92, 0, 0), [], []), (91, .iconst 0, 1, (0, 0, 0), [], []), (92, .ireturn, 1, (0, 0, 0), [], [])]
def mX8_readNumbers : pM := (yX8_readNumbers, cX8_readNumbers, 5, (some .boolean), 347, tX8_readNumbers)
def tX8_readNumber : List pI := [(0, .aload_n 1, 1, (0, 0, 0), [], []), (1, .aload_n 0, 1, (0, 0, 0), [], []), (2, .getfield 20, 3, (7, 1, 0), [110], []), (5, .invokestatic 53, 3, (81, 2, 0), [352, 353, 64], []), (8, .istore_n 2, 1, (0, 0, 0), [], []), (9, .iload_n 2, 1, (0, 0, 0), [], []), (10, .ifCond .ge 5, 3, (15, 0, 0), [], []), (13, .iconst (-1), 1, (0, 0, 0), [], []), (14, .ireturn, 1, (0, 0, 0), [], []), (15, .aload_n 0, 1, (0, 0, 0), [], []), (16, .dup, 1, (0, 0, 0), [], []), (17, .getfield 20, 3, (7, 1, 0), [110], []), (20, .iconst 1, 1, (0, 0, 0), [], []), (21, .iadd, 1, (0, 0, 0), [], []), (22, .putfield 20, 3, (7, 1, 0), [110], []), (25, .aload_n 1, 1, (0, 0, 0), [], []), (26, .aload_n 0, 1, (0, 0, 0), [], []), (27, .getfield 20, 3, (7, 1, 0), [110], []), (30, .invokestatic 53, 3, (81, 2, 0), [352, 353, 64], []), (33, .istore_n 3, 1, (0, 0, 0), [], []), (34, .iload_n 3, 1, (0, 0, 0), [], []), (35, .ifCond .ge 5, 3, (40, 0, 0), [], []), (38, .iload_n 2, 1, (0, 0, 0), [], []), (39, .ireturn, 1, (0, 0, 0), [], []), (40, .aload_n 0, 1, (0, 0, 0), [], []), (41, .dup, 1, (0, 0, 0), [], []), (42, .getfield 20, 3, (7, 1, 0), [110], []), (45, .iconst 1, 1, (0, 0, 0), [], []), (46, .iadd, 1, (0, 0, 0), [], []), (47, .putfield 20, 3, (7, 1, 0), [110], []), (50, .iload_n 2, 1, (0, 0, 0), [], []), (51, .bipush 10, 2, (0, 0, 0), [], []), (53, .imul, 1, (0, 0, 0), [], []), (54, .iload_n 3, 1, (0, 0, 0), [], []), (55, .iadd, 1, (0, 0, 0), [], []), (56, .ireturn, 1, (0, 0, 0), [], [])]
def mX8_readNumber : pM := (yX8_readNumber, cX8_readNumber, 4, (some .int), 351, tX8_readNumber)
def tX8_figureAt : List pI := [(0, .aload_n 0, 1, (0, 0, 0), [], []), (1, .iload_n 1, 1, (0, 0, 0), [], []), (2, .invokevirtual 34, 3, (8, 1, 0), [337, 338, 339, 63], []), (5, .istore_n 2, 1, (0, 0, 0), [], []), (6, .iload_n 2, 1, (0, 0, 0), [], []), (7, .bipush 48, 2, (0, 0, 0), [], []), (9, .if_icmp .lt 16, 3, (25, 0, 0), [], []), (12, .iload_n 2, 1, (0, 0, 0), [], []), (13, .bipush 57, 2, (0, 0, 0), [], []), (15, .if_icmp .gt 10, 3, (25, 0, 0), [], []), (18, .iload_n 2, 1, (0, 0, 0), [], []), (19, .bipush 48, 2, (0, 0, 0), [], []), (21, .isub, 1, (0, 0, 0), [], []), (22, .goto 4, 3, (26, 0, 0), [], []), (25, .iconst (-1), 1, (0, 0, 0), [], []), (26, .ireturn, 1, (0, 0, 0), [], [])]
def mX8_figureAt : pM := (yX8_figureAt, cX8_figureAt, 3, (some .int), 354, tX8_figureAt)
def tX8_apply : List pI := [(0, .iload_n 1, 1, (0, 0, 0), [], []), (1, .bipush 107, 2, (0, 0, 0), [], []), (3, .if_icmp .ne 9, 3, (12, 0, 0), [], []), (6, .aload_n 0, 1, (0, 0, 0), [], []), (7, .aload_n 2, 1, (0, 0, 0), [], []), (8, .invokevirtual 57, 3, (83, 1, 7), [359, 361, 3, 64], []), (11, .ireturn, 1, (0, 0, 0), [], []), (12, .iload_n 1, 1, (0, 0, 0), [], []), (13, .bipush 114, 2, (0, 0, 0), [], []), (15, .if_icmp .ne 11, 3, (26, 0, 0), [], []), (18, .aload_n 0, 1, (0, 0, 0), [], []), (19, .aload_n 2, 1, (0, 0, 0), [], []), (20, .invokevirtual 61, 3, (84, 1, 7), [371, 373, 4, 64], []), (23, .goto 8, 3, (31, 0, 0), [], []), (26, .aload_n 0, 1, (0, 0, 0), [], []), (27, .aload_n 2, 1, (0, 0, 0), [], []), (28, .invokevirtual 64, 3, (85, 1, 7), [386, 388, 5, 64], []), (31, .ireturn, 1, (0, 0, 0), [], [])]
def mX8_apply : pM := (yX8_apply, cX8_apply, 3, (some .boolean), 358, tX8_apply)
def tX8_applyKind : List pI := [(0, .aload_n 0, 1, (0, 0, 0), [], []), (1, .getfield 24, 3, (7, 2, 0), [111], []), (4, .ifCond .ne 20, 3, (24, 0, 0), [], []), (7, .aload_n 1, 1, (0, 0, 0), [], []), (8, .invokevirtual 67, 3, (62, 0, 6), [363, 364, 365, 66], []), (11, .ifCond .gt 13, 3, (24, 0, 0), [], []), (14, .aload_n 0, 1, (0, 0, 0), [], []), (15, .getfield 9, 3, (7, 0, 0), [109], []), (18, .iconst 0, 1, (0, 0, 0), [], []), (19, .iaload, 1, (0, 0, 0), [], []), (20, .iconst 4, 1, (0, 0, 0), [], []), (21, .if_icmp .lt 5, 3, (26, 0, 0), [], []), (24, .iconst 0, 1, (0, 0, 0), [], []), (25, .ireturn, 1, (0, 0, 0), [], []), (26, .aload_n 0, 1, (0, 0, 0), [], []), (27, .iconst 1, 1, (0, 0, 0), [], []), (28, .putfield 24, 3, (7, 2, 0), [111], []), (31, .aload_n 1, 1, (0, 0, 0), [], []), (32, .aload_n 0, 1, (0, 0, 0), [], []), (33, .getfield 9, 3, (7, 0, 0), [109], []), (36, .iconst 0, 1, (0, 0, 0), [], []), (37, .iaload, 1, (0, 0, 0), [], []), (38, .invokevirtual 70, 3, (64, 1, 6), [367, 368, 369, 66], []), (41, .iconst 1, 1, (0, 0, 0), [], []), (42, .ireturn, 1, (0, 0, 0), [], [])]
def mX8_applyKind : pM := (yX8_applyKind, cX8_applyKind, 2, (some .boolean), 362, tX8_applyKind)
def tX8_applyRoot : List pI := [(0, .aload_n 1, 1, (0, 0, 0), [], []), (1, .invokevirtual 67, 3, (62, 0, 6), [363, 364, 365, 66], []), (4, .ifCond .gt 15, 3, (19, 0, 0), [], []), (7, .aload_n 0, 1, (0, 0, 0), [], []), (8, .getfield 9, 3, (7, 0, 0), [109], []), (11, .iconst 0, 1, (0, 0, 0), [], []), (12, .iaload, 1, (0, 0, 0), [], []), (13, .invokestatic 74, 3, (115, 1, 1), [375, 376, 62], []), (16, .ifCond .ne 5, 3, (21, 0, 0), [], []), (19, .iconst 0, 1, (0, 0, 0), [], []), (20, .ireturn, 1, (0, 0, 0), [], []), (21, .aload_n 1, 1, (0, 0, 0), [], []), (22, .iconst (-1), 1, (0, 0, 0), [], []), (23, .iconst 0, 1, (0, 0, 0), [], []), (24, .aload_n 0, 1, (0, 0, 0), [], []), (25, .getfield 9, 3, (7, 0, 0), [109], []), (28, .iconst 0, 1, (0, 0, 0), [], []), (29, .iaload, 1, (0, 0, 0), [], []), (30, .invokevirtual 80, 3, (70, 3, 6), [378, 379, 380, 66], []), (33, .pop, 1, (0, 0, 0), [], []), (34, .iconst 1, 1, (0, 0, 0), [], []), (35, .ireturn, 1, (0, 0, 0), [], [])]
def mX8_applyRoot : pM := (yX8_applyRoot, cX8_applyRoot, 2, (some .boolean), 374, tX8_applyRoot)
def tX8_applyNode : List pI := [(0, .aload_n 0, 1, (0, 0, 0), [], []), (1, .getfield 9, 3, (7, 0, 0), [109], []), (4, .iconst 0, 1, (0, 0, 0), [], []), (5, .iaload, 1, (0, 0, 0), [], []), (6, .istore_n 2, 1, (0, 0, 0), [], []), (7, .aload_n 1, 1, (0, 0, 0), [], []), (8, .invokevirtual 84, 3, (61, 0, 6), [390, 383, 384, 66], []), (11, .ifCond .ne 37, 3, (48, 0, 0), [], []), (14, .aload_n 1, 1, (0, 0, 0), [], []), (15, .iload_n 2, 1, (0, 0, 0), [], []), (16, .invokevirtual 88, 3, (60, 1, 6), [391, 392, 393, 66], []), (19, .ifCond .eq 29, 3, (48, 0, 0), [], []), (22, .aload_n 0, 1, (0, 0, 0), [], []), (23, .getfield 9, 3, (7, 0, 0), [109], []), (26, .iconst 1, 1, (0, 0, 0), [], []), (27, .iaload, 1, (0, 0, 0), [], []), (28, .aload_n 1, 1, (0, 0, 0), [], []), (29, .iload_n 2, 1, (0, 0, 0), [], []), (30, .invokevirtual 91, 3, (73, 1, 6), [398, 399, 400, 66], []), (33, .if_icmp .gt 15, 3, (48, 0, 0), [], []), (36, .aload_n 0, 1, (0, 0, 0), [], []), (37, .getfield 9, 3, (7, 0, 0), [109], []), (40, .iconst 2, 1, (0, 0, 0), [], []), (41, .iaload, 1, (0, 0, 0), [], []), (42, .invokestatic 74, 3, (115, 1, 1), [375, 376, 62], []), (45, .ifCond .ne 5, 3, (50, 0, 0), [], []), (48, .iconst 0, 1, (0, 0, 0), [], []), (49, .ireturn, 1, (0, 0, 0), [], []), (50, .aload_n 1, 1, (0, 0, 0), [], []), (51, .iload_n 2, 1, (0, 0, 0), [], []), (52, .aload_n 0, 1, (0, 0, 0), [], []), (53, .getfield 9, 3, (7, 0, 0), [109], []), (56, .iconst 1, 1, (0, 0, 0), [], []), (57, .iaload, 1, (0, 0, 0), [], []), (58, .invokevirtual 94, 3, (76, 2, 6), [403, 404, 405, 66], []), (61, .istore_n 3, 1, (0, 0, 0), [], []), (62, .iload_n 3, 1, (0, 0, 0), [], []), (63, .ifCond .ne 5, 3, (68, 0, 0), [], []), (66, .iconst 0, 1, (0, 0, 0), [], []), (67, .ireturn, 1, (0, 0, 0), [], []), (68, .aload_n 1, 1, (0, 0, 0), [], []), (69, .iload_n 2, 1, (0, 0, 0), [], []), (70, .iload_n 3, 1, (0, 0, 0), [], []), (71, .aload_n 0, 1, (0, 0, 0), [], []), (72, .getfield 9, 3, (7, 0, 0), [109], []), (75, .iconst 2, 1, (0, 0, 0), [], []), (76, .iaload, 1, (0, 0, 0), [], []), (77, .invokevirtual 80, 3, (70, 3, 6), [378, 379, 380, 66], []), (80, .pop, 1, (0, 0, 0), [], []), (81, .iconst 1, 1, (0, 0, 0), [], []), (82, .ireturn, 1, (0, 0, 0), [], [])]
def mX8_applyNode : pM := (yX8_applyNode, cX8_applyNode, 4, (some .boolean), 389, tX8_applyNode)
def tX9_write : List pI := [(0, .iload_n 1, 1, (0, 0, 0), [], []), (1, .bipush 32, 2, (0, 0, 0), [], []), (3, .if_icmp .lt 9, 3, (12, 0, 0), [], []), (6, .iload_n 1, 1, (0, 0, 0), [], []), (7, .bipush 126, 2, (0, 0, 0), [], []), (9, .if_icmp .le 5, 3, (14, 0, 0), [], []), (12, .iconst (-1), 1, (0, 0, 0), [], []), (13, .ireturn, 1, (0, 0, 0), [], []), (14, .aload_n 0, 1, (0, 0, 0), [], []), (15, .getfield 10, 3, (8, 0, 0), [469], []), (18, .invokevirtual 105, 3, (5, 0, 0), [517, 518, 519, 63], []), (21, .ifCond .eq 6, 3, (27, 0, 0), [], []), (24, .bipush (-3), 2, (0, 0, 0), [], []), (26, .ireturn, 1, (0, 0, 0), [], []), (27, .aload_n 0, 1, (0, 0, 0), [], []), (28, .getfield 10, 3, (8, 0, 0), [469], []), (31, .iload_n 1, 1, (0, 0, 0), [], []), (32, .invokevirtual 91, 3, (6, 1, 0), [321, 322, 323, 63], []), (35, .aload_n 0, 1, (0, 0, 0), [], []), (36, .getfield 10, 3, (8, 0, 0), [469], []), (39, .invokevirtual 109, 3, (4, 0, 0), [521, 334, 335, 63], []), (42, .ireturn, 1, (0, 0, 0), [], [])]
def mX9_write : pM := (yX9_write, cX9_write, 2, (some .int), 516, tX9_write)
def tX9_wipe : List pI := [(0, .aload_n 0, 1, (0, 0, 0), [], []), (1, .getfield 10, 3, (8, 0, 0), [469], []), (4, .invokevirtual 109, 3, (4, 0, 0), [521, 334, 335, 63], []), (7, .istore_n 1, 1, (0, 0, 0), [], []), (8, .aload_n 0, 1, (0, 0, 0), [], []), (9, .getfield 10, 3, (8, 0, 0), [469], []), (12, .invokevirtual 99, 3, (7, 0, 0), [430, 431, 432, 63], []), (15, .iload_n 1, 1, (0, 0, 0), [], []), (16, .ireturn, 1, (0, 0, 0), [], [])]
def mX9_wipe : pM := (yX9_wipe, cX9_wipe, 2, (some .int), 525, tX9_wipe)
def tX9_fault : List pI := [(0, .aload_n 0, 1, (0, 0, 0), [], []), (1, .getfield 19, 3, (8, 1, 0), [470], []), (4, .aload_n 0, 1, (0, 0, 0), [], []), (5, .getfield 10, 3, (8, 0, 0), [469], []), (8, .aload_n 0, 1, (0, 0, 0), [], []), (9, .getfield 37, 3, (8, 4, 0), [473], []), (12, .invokevirtual 95, 3, (77, 2, 7), [325, 326, 327, 64], []), (15, .istore_n 1, 1, (0, 0, 0), [], []), (16, .iload_n 1, 1, (0, 0, 0), [], []), (17, .ifCond .ge 8, 3, (25, 0, 0), [], []), (20, .bipush (-4), 2, (0, 0, 0), [], []), (22, .goto 4, 3, (26, 0, 0), [], []), (25, .iload_n 1, 1, (0, 0, 0), [], []), (26, .ireturn, 1, (0, 0, 0), [], [])]
def mX9_fault : pM := (yX9_fault, cX9_fault, 2, (some .int), 529, tX9_fault)
def tX9_lay : List pI := [(0, .aload_n 0, 1, (0, 0, 0), [], []), (1, .getfield 19, 3, (8, 1, 0), [470], []), (4, .aload_n 0, 1, (0, 0, 0), [], []), (5, .getfield 10, 3, (8, 0, 0), [469], []), (8, .aload_n 0, 1, (0, 0, 0), [], []), (9, .getfield 37, 3, (8, 4, 0), [473], []), (12, .invokevirtual 95, 3, (77, 2, 7), [325, 326, 327, 64], []), (15, .istore_n 1, 1, (0, 0, 0), [], []), (16, .iload_n 1, 1, (0, 0, 0), [], []), (17, .ifCond .ge 14, 3, (31, 0, 0), [], []), (20, .aload_n 0, 1, (0, 0, 0), [], []), (21, .getfield 37, 3, (8, 4, 0), [473], []), (24, .iconst 0, 1, (0, 0, 0), [], []), (25, .invokevirtual 112, 3, (60, 1, 6), [534, 392, 393, 66], []), (28, .ifCond .ne 6, 3, (34, 0, 0), [], []), (31, .bipush (-2), 2, (0, 0, 0), [], []), (33, .ireturn, 1, (0, 0, 0), [], []), (34, .aload_n 0, 1, (0, 0, 0), [], []), (35, .getfield 33, 3, (8, 3, 0), [472], []), (38, .aload_n 0, 1, (0, 0, 0), [], []), (39, .getfield 37, 3, (8, 4, 0), [473], []), (42, .invokevirtual 116, 3, (58, 1, 6), [535, 536, 537, 66], []), (45, .aload_n 0, 1, (0, 0, 0), [], []), (46, .getfield 63, 3, (8, 10, 0), [479], []), (49, .invokevirtual 120, 3, (39, 0, 4), [542, 543, 544, 69], []), (52, .aload_n 0, 1, (0, 0, 0), [], []), (53, .getfield 50, 3, (8, 6, 0), [475], []), (56, .invokevirtual 121, 3, (35, 0, 3), [546, 547, 548, 68], []), (59, .aload_n 0, 1, (0, 0, 0), [], []), (60, .iconst 0, 1, (0, 0, 0), [], []), (61, .putfield 122, 3, (8, 9, 0), [478], []), (64, .aload_n 0, 1, (0, 0, 0), [], []), (65, .invokevirtual 102, 3, (111, 0, 8), [434, 436, 6, 62], []), (68, .aload_n 0, 1, (0, 0, 0), [], []), (69, .getfield 43, 3, (8, 5, 0), [474], []), (72, .invokevirtual 126, 3, (23, 0, 2), [550, 551, 552, 67], []), (75, .ireturn, 1, (0, 0, 0), [], [])]
def mX9_lay : pM := (yX9_lay, cX9_lay, 2, (some .int), 533, tX9_lay)
def tX9_node : List pI := [(0, .aload_n 0, 1, (0, 0, 0), [], []), (1, .getfield 33, 3, (8, 3, 0), [472], []), (4, .iload_n 1, 1, (0, 0, 0), [], []), (5, .invokevirtual 112, 3, (60, 1, 6), [534, 392, 393, 66], []), (8, .ifCond .ne 5, 3, (13, 0, 0), [], []), (11, .iconst (-1), 1, (0, 0, 0), [], []), (12, .ireturn, 1, (0, 0, 0), [], []), (13, .aload_n 0, 1, (0, 0, 0), [], []), (14, .getfield 43, 3, (8, 5, 0), [474], []), (17, .iload_n 1, 1, (0, 0, 0), [], []), (18, .invokevirtual 127, 3, (24, 1, 2), [558, 559, 560, 67], []), (21, .istore_n 3, 1, (0, 0, 0), [], []), (22, .iload_n 2, 1, (0, 0, 0), [], []), (23, .tableswitch 93 0 5 #[37, 46, 64, 73, 82, 84], 37, (0, 0, 0), [], []), (60, .aload_n 0, 1, (0, 0, 0), [], []), (61, .getfield 33, 3, (8, 3, 0), [472], []), (64, .iload_n 1, 1, (0, 0, 0), [], []), (65, .invokevirtual 131, 3, (66, 1, 6), [562, 563, 564, 66], []), (68, .ireturn, 1, (0, 0, 0), [], []), (69, .iload_n 1, 1, (0, 0, 0), [], []), (70, .ifCond .ne 8, 3, (78, 0, 0), [], []), (73, .bipush (-4), 2, (0, 0, 0), [], []), (75, .goto 11, 3, (86, 0, 0), [], []), (78, .aload_n 0, 1, (0, 0, 0), [], []), (79, .getfield 33, 3, (8, 3, 0), [472], []), (82, .iload_n 1, 1, (0, 0, 0), [], []), (83, .invokevirtual 134, 3, (68, 1, 6), [566, 567, 568, 66], []), (86, .ireturn, 1, (0, 0, 0), [], []), (87, .aload_n 0, 1, (0, 0, 0), [], []), (88, .getfield 43, 3, (8, 5, 0), [474], []), (91, .iload_n 3, 1, (0, 0, 0), [], []), (92, .invokevirtual 137, 3, (29, 1, 2), [570, 571, 572, 67], []), (95, .ireturn, 1, (0, 0, 0), [], []), (96, .aload_n 0, 1, (0, 0, 0), [], []), (97, .getfield 43, 3, (8, 5, 0), [474], []), (100, .iload_n 3, 1, (0, 0, 0), [], []), (101, .invokevirtual 140, 3, (28, 1, 2), [574, 448, 449, 67], []), (104, .ireturn, 1, (0, 0, 0), [], []), (105, .iload_n 3, 1, (0, 0, 0), [], []), (106, .ireturn, 1, (0, 0, 0), [], []), (107, .aload_n 0, 1, (0, 0, 0), [], []), (108, .getfield 43, 3, (8, 5, 0), [474], []), (111, .iload_n 3, 1, (0, 0, 0), [], []), (112, .invokevirtual 143, 3, (30, 1, 2), [575, 576, 577, 67], []), (115, .ireturn, 1, (0, 0, 0), [], []), (116, .iconst (-1), 1, (0, 0, 0), [], []), (117, .ireturn, 1, (0, 0, 0), [], [])]
def mX9_node : pM := (yX9_node, cX9_node, 4, (some .int), 557, tX9_node)
def tX9_child : List pI := [(0, .aload_n 0, 1, (0, 0, 0), [], []), (1, .getfield 33, 3, (8, 3, 0), [472], []), (4, .iload_n 1, 1, (0, 0, 0), [], []), (5, .invokevirtual 112, 3, (60, 1, 6), [534, 392, 393, 66], []), (8, .ifCond .eq 7, 3, (15, 0, 0), [], []), (11, .iload_n 2, 1, (0, 0, 0), [], []), (12, .ifCond .ge 5, 3, (17, 0, 0), [], []), (15, .iconst (-1), 1, (0, 0, 0), [], []), (16, .ireturn, 1, (0, 0, 0), [], []), (17, .aload_n 0, 1, (0, 0, 0), [], []), (18, .getfield 33, 3, (8, 3, 0), [472], []), (21, .iload_n 1, 1, (0, 0, 0), [], []), (22, .iload_n 2, 1, (0, 0, 0), [], []), (23, .invokevirtual 146, 3, (75, 2, 6), [583, 408, 409, 66], []), (26, .istore_n 3, 1, (0, 0, 0), [], []), (27, .iload_n 3, 1, (0, 0, 0), [], []), (28, .ifCond .ge 8, 3, (36, 0, 0), [], []), (31, .bipush (-4), 2, (0, 0, 0), [], []), (33, .goto 4, 3, (37, 0, 0), [], []), (36, .iload_n 3, 1, (0, 0, 0), [], []), (37, .ireturn, 1, (0, 0, 0), [], [])]
def mX9_child : pM := (yX9_child, cX9_child, 4, (some .int), 582, tX9_child)
def tX9_key : List pI := [(0, .aload_n 0, 1, (0, 0, 0), [], []), (1, .getfield 33, 3, (8, 3, 0), [472], []), (4, .iload_n 1, 1, (0, 0, 0), [], []), (5, .invokevirtual 112, 3, (60, 1, 6), [534, 392, 393, 66], []), (8, .ifCond .eq 14, 3, (22, 0, 0), [], []), (11, .iload_n 2, 1, (0, 0, 0), [], []), (12, .ifCond .lt 10, 3, (22, 0, 0), [], []), (15, .iload_n 3, 1, (0, 0, 0), [], []), (16, .invokestatic 150, 3, (116, 1, 0), [588, 589, 62], []), (19, .ifCond .ne 5, 3, (24, 0, 0), [], []), (22, .iconst (-1), 1, (0, 0, 0), [], []), (23, .ireturn, 1, (0, 0, 0), [], []), (24, .aload_n 0, 1, (0, 0, 0), [], []), (25, .getfield 43, 3, (8, 5, 0), [474], []), (28, .aload_n 0, 1, (0, 0, 0), [], []), (29, .getfield 43, 3, (8, 5, 0), [474], []), (32, .iload_n 1, 1, (0, 0, 0), [], []), (33, .invokevirtual 127, 3, (24, 1, 2), [558, 559, 560, 67], []), (36, .invokevirtual 140, 3, (28, 1, 2), [574, 448, 449, 67], []), (39, .istore 4, 2, (0, 0, 0), [], []), (41, .iload_n 2, 1, (0, 0, 0), [], []), (42, .iload 4, 2, (0, 0, 0), [], []), (44, .if_icmp .lt 6, 3, (50, 0, 0), [], []), (47, .bipush (-4), 2, (0, 0, 0), [], []), (49, .ireturn, 1, (0, 0, 0), [], []), (50, .aload_n 0, 1, (0, 0, 0), [], []), (51, .getfield 33, 3, (8, 3, 0), [472], []), (54, .aload_n 0, 1, (0, 0, 0), [], []), (55, .iload_n 1, 1, (0, 0, 0), [], []), (56, .iload 4, 2, (0, 0, 0), [], []), (58, .iconst 1, 1, (0, 0, 0), [], []), (59, .isub, 1, (0, 0, 0), [], []), (60, .iload_n 2, 1, (0, 0, 0), [], []), (61, .isub, 1, (0, 0, 0), [], []), (62, .invokevirtual 153, 3, (118, 2, 8), [591, 593, 10, 62], []), (65, .invokevirtual 156, 3, (69, 1, 6), [595, 417, 418, 66], []), (68, .iload_n 3, 1, (0, 0, 0), [], []), (69, .invokestatic 159, 3, (117, 2, 0), [596, 597, 62], []), (72, .ireturn, 1, (0, 0, 0), [], [])]
def mX9_key : pM := (yX9_key, cX9_key, 5, (some .int), 587, tX9_key)
def tX9_at : List pI := [(0, .iload_n 1, 1, (0, 0, 0), [], []), (1, .ifCond .ge 5, 3, (6, 0, 0), [], []), (4, .iconst (-1), 1, (0, 0, 0), [], []), (5, .ireturn, 1, (0, 0, 0), [], []), (6, .iload_n 1, 1, (0, 0, 0), [], []), (7, .aload_n 0, 1, (0, 0, 0), [], []), (8, .getfield 43, 3, (8, 5, 0), [474], []), (11, .invokevirtual 126, 3, (23, 0, 2), [550, 551, 552, 67], []), (14, .if_icmp .ge 14, 3, (28, 0, 0), [], []), (17, .aload_n 0, 1, (0, 0, 0), [], []), (18, .getfield 43, 3, (8, 5, 0), [474], []), (21, .iload_n 1, 1, (0, 0, 0), [], []), (22, .invokevirtual 162, 3, (25, 1, 2), [610, 460, 461, 67], []), (25, .goto 5, 3, (30, 0, 0), [], []), (28, .bipush (-4), 2, (0, 0, 0), [], []), (30, .ireturn, 1, (0, 0, 0), [], [])]
def mX9_at : pM := (yX9_at, cX9_at, 2, (some .int), 609, tX9_at)
def tX9_grow : List pI := [(0, .aload_n 0, 1, (0, 0, 0), [], []), (1, .iload_n 1, 1, (0, 0, 0), [], []), (2, .iload_n 2, 1, (0, 0, 0), [], []), (3, .invokevirtual 165, 3, (114, 2, 8), [615, 617, 11, 62], []), (6, .ifCond .eq 10, 3, (16, 0, 0), [], []), (9, .iload_n 3, 1, (0, 0, 0), [], []), (10, .invokestatic 169, 3, (115, 1, 0), [620, 376, 62], []), (13, .ifCond .ne 5, 3, (18, 0, 0), [], []), (16, .iconst (-1), 1, (0, 0, 0), [], []), (17, .ireturn, 1, (0, 0, 0), [], []), (18, .aload_n 0, 1, (0, 0, 0), [], []), (19, .getfield 33, 3, (8, 3, 0), [472], []), (22, .invokevirtual 172, 3, (61, 0, 6), [621, 383, 384, 66], []), (25, .ifCond .eq 6, 3, (31, 0, 0), [], []), (28, .bipush (-3), 2, (0, 0, 0), [], []), (30, .ireturn, 1, (0, 0, 0), [], []), (31, .aload_n 0, 1, (0, 0, 0), [], []), (32, .getfield 33, 3, (8, 3, 0), [472], []), (35, .iload_n 1, 1, (0, 0, 0), [], []), (36, .iload_n 2, 1, (0, 0, 0), [], []), (37, .invokevirtual 173, 3, (76, 2, 6), [622, 404, 405, 66], []), (40, .istore 4, 2, (0, 0, 0), [], []), (42, .iload 4, 2, (0, 0, 0), [], []), (44, .ifCond .ne 6, 3, (50, 0, 0), [], []), (47, .bipush (-2), 2, (0, 0, 0), [], []), (49, .ireturn, 1, (0, 0, 0), [], []), (50, .aload_n 0, 1, (0, 0, 0), [], []), (51, .getfield 50, 3, (8, 6, 0), [475], []), (54, .aload_n 0, 1, (0, 0, 0), [], []), (55, .getfield 33, 3, (8, 3, 0), [472], []), (58, .iconst (-1), 1, (0, 0, 0), [], []), (59, .invokevirtual 176, 3, (36, 2, 3), [623, 624, 625, 68], []), (62, .aload_n 0, 1, (0, 0, 0), [], []), (63, .getfield 33, 3, (8, 3, 0), [472], []), (66, .iload_n 1, 1, (0, 0, 0), [], []), (67, .iload 4, 2, (0, 0, 0), [], []), (69, .iload_n 3, 1, (0, 0, 0), [], []), (70, .invokevirtual 180, 3, (70, 3, 6), [638, 379, 380, 66], []), (73, .istore 5, 2, (0, 0, 0), [], []), (75, .aload_n 0, 1, (0, 0, 0), [], []), (76, .invokevirtual 102, 3, (111, 0, 8), [434, 436, 6, 62], []), (79, .iload 5, 2, (0, 0, 0), [], []), (81, .ireturn, 1, (0, 0, 0), [], [])]
def mX9_grow : pM := (yX9_grow, cX9_grow, 6, (some .int), 614, tX9_grow)
def tX9_cut : List pI := [(0, .aload_n 0, 1, (0, 0, 0), [], []), (1, .getfield 33, 3, (8, 3, 0), [472], []), (4, .iload_n 1, 1, (0, 0, 0), [], []), (5, .invokevirtual 112, 3, (60, 1, 6), [534, 392, 393, 66], []), (8, .ifCond .ne 5, 3, (13, 0, 0), [], []), (11, .iconst (-1), 1, (0, 0, 0), [], []), (12, .ireturn, 1, (0, 0, 0), [], []), (13, .iload_n 1, 1, (0, 0, 0), [], []), (14, .ifCond .ne 6, 3, (20, 0, 0), [], []), (17, .bipush (-2), 2, (0, 0, 0), [], []), (19, .ireturn, 1, (0, 0, 0), [], []), (20, .aload_n 0, 1, (0, 0, 0), [], []), (21, .getfield 50, 3, (8, 6, 0), [475], []), (24, .aload_n 0, 1, (0, 0, 0), [], []), (25, .getfield 33, 3, (8, 3, 0), [472], []), (28, .iconst (-1), 1, (0, 0, 0), [], []), (29, .invokevirtual 176, 3, (36, 2, 3), [623, 624, 625, 68], []), (32, .aload_n 0, 1, (0, 0, 0), [], []), (33, .getfield 43, 3, (8, 5, 0), [474], []), (36, .aload_n 0, 1, (0, 0, 0), [], []), (37, .getfield 43, 3, (8, 5, 0), [474], []), (40, .iload_n 1, 1, (0, 0, 0), [], []), (41, .invokevirtual 127, 3, (24, 1, 2), [558, 559, 560, 67], []), (44, .invokevirtual 183, 3, (32, 1, 2), [643, 644, 645, 67], []), (47, .istore_n 2, 1, (0, 0, 0), [], []), (48, .aload_n 0, 1, (0, 0, 0), [], []), (49, .getfield 33, 3, (8, 3, 0), [472], []), (52, .iload_n 2, 1, (0, 0, 0), [], []), (53, .invokevirtual 186, 3, (71, 1, 6), [648, 649, 650, 66], []), (56, .aload_n 0, 1, (0, 0, 0), [], []), (57, .invokevirtual 102, 3, (111, 0, 8), [434, 436, 6, 62], []), (60, .iload_n 2, 1, (0, 0, 0), [], []), (61, .invokestatic 189, 3, (186, 1, 0), [652, 653, 79], []), (64, .ireturn, 1, (0, 0, 0), [], [])]
def mX9_cut : pM := (yX9_cut, cX9_cut, 3, (some .int), 642, tX9_cut)
def tX9_tag : List pI := [(0, .aload_n 0, 1, (0, 0, 0), [], []), (1, .getfield 33, 3, (8, 3, 0), [472], []), (4, .iload_n 1, 1, (0, 0, 0), [], []), (5, .invokevirtual 112, 3, (60, 1, 6), [534, 392, 393, 66], []), (8, .ifCond .eq 10, 3, (18, 0, 0), [], []), (11, .iload_n 2, 1, (0, 0, 0), [], []), (12, .invokestatic 169, 3, (115, 1, 0), [620, 376, 62], []), (15, .ifCond .ne 5, 3, (20, 0, 0), [], []), (18, .iconst (-1), 1, (0, 0, 0), [], []), (19, .ireturn, 1, (0, 0, 0), [], []), (20, .aload_n 0, 1, (0, 0, 0), [], []), (21, .getfield 33, 3, (8, 3, 0), [472], []), (24, .iload_n 1, 1, (0, 0, 0), [], []), (25, .invokevirtual 131, 3, (66, 1, 6), [562, 563, 564, 66], []), (28, .istore_n 3, 1, (0, 0, 0), [], []), (29, .iload_n 3, 1, (0, 0, 0), [], []), (30, .iload_n 2, 1, (0, 0, 0), [], []), (31, .if_icmp .ne 6, 3, (37, 0, 0), [], []), (34, .bipush (-2), 2, (0, 0, 0), [], []), (36, .ireturn, 1, (0, 0, 0), [], []), (37, .aload_n 0, 1, (0, 0, 0), [], []), (38, .getfield 50, 3, (8, 6, 0), [475], []), (41, .aload_n 0, 1, (0, 0, 0), [], []), (42, .getfield 33, 3, (8, 3, 0), [472], []), (45, .iload_n 1, 1, (0, 0, 0), [], []), (46, .invokevirtual 176, 3, (36, 2, 3), [623, 624, 625, 68], []), (49, .aload_n 0, 1, (0, 0, 0), [], []), (50, .getfield 33, 3, (8, 3, 0), [472], []), (53, .iload_n 1, 1, (0, 0, 0), [], []), (54, .iload_n 2, 1, (0, 0, 0), [], []), (55, .invokevirtual 194, 3, (67, 2, 6), [662, 663, 664, 66], []), (58, .aload_n 0, 1, (0, 0, 0), [], []), (59, .invokevirtual 102, 3, (111, 0, 8), [434, 436, 6, 62], []), (62, .iload_n 3, 1, (0, 0, 0), [], []), (63, .ireturn, 1, (0, 0, 0), [], [])]
def mX9_tag : pM := (yX9_tag, cX9_tag, 4, (some .int), 661, tX9_tag)
def tX9_undo : List pI := [(0, .aload_n 0, 1, (0, 0, 0), [], []), (1, .getfield 50, 3, (8, 6, 0), [475], []), (4, .invokevirtual 198, 3, (34, 0, 3), [670, 671, 672, 68], []), (7, .ifCond .ne 6, 3, (13, 0, 0), [], []), (10, .bipush (-2), 2, (0, 0, 0), [], []), (12, .ireturn, 1, (0, 0, 0), [], []), (13, .aload_n 0, 1, (0, 0, 0), [], []), (14, .getfield 50, 3, (8, 6, 0), [475], []), (17, .aload_n 0, 1, (0, 0, 0), [], []), (18, .getfield 33, 3, (8, 3, 0), [472], []), (21, .invokevirtual 199, 3, (38, 1, 3), [674, 675, 676, 68], []), (24, .aload_n 0, 1, (0, 0, 0), [], []), (25, .invokevirtual 102, 3, (111, 0, 8), [434, 436, 6, 62], []), (28, .aload_n 0, 1, (0, 0, 0), [], []), (29, .getfield 50, 3, (8, 6, 0), [475], []), (32, .invokevirtual 198, 3, (34, 0, 3), [670, 671, 672, 68], []), (35, .ireturn, 1, (0, 0, 0), [], [])]
def mX9_undo : pM := (yX9_undo, cX9_undo, 1, (some .int), 669, tX9_undo)
def tX9_between : List pI := [(0, .aload_n 0, 1, (0, 0, 0), [], []), (1, .iload_n 1, 1, (0, 0, 0), [], []), (2, .iload_n 2, 1, (0, 0, 0), [], []), (3, .invokevirtual 165, 3, (114, 2, 8), [615, 617, 11, 62], []), (6, .ifCond .eq 10, 3, (16, 0, 0), [], []), (9, .iload_n 3, 1, (0, 0, 0), [], []), (10, .invokestatic 150, 3, (116, 1, 0), [588, 589, 62], []), (13, .ifCond .ne 5, 3, (18, 0, 0), [], []), (16, .iconst (-1), 1, (0, 0, 0), [], []), (17, .ireturn, 1, (0, 0, 0), [], []), (18, .aload_n 0, 1, (0, 0, 0), [], []), (19, .getfield 33, 3, (8, 3, 0), [472], []), (22, .iload_n 1, 1, (0, 0, 0), [], []), (23, .iload_n 2, 1, (0, 0, 0), [], []), (24, .invokevirtual 173, 3, (76, 2, 6), [622, 404, 405, 66], []), (27, .istore 4, 2, (0, 0, 0), [], []), (29, .iload 4, 2, (0, 0, 0), [], []), (31, .ifCond .ne 8, 3, (39, 0, 0), [], []), (34, .bipush (-4), 2, (0, 0, 0), [], []), (36, .goto 9, 3, (45, 0, 0), [], []), (39, .iload 4, 2, (0, 0, 0), [], []), (41, .iload_n 3, 1, (0, 0, 0), [], []), (42, .invokestatic 159, 3, (117, 2, 0), [596, 597, 62], []), (45, .ireturn, 1, (0, 0, 0), [], [])]
def mX9_between : pM := (yX9_between, cX9_between, 5, (some .int), 686, tX9_between)
def tX9_ahead : List pI := [(0, .aload_n 0, 1, (0, 0, 0), [], []), (1, .getfield 33, 3, (8, 3, 0), [472], []), (4, .iload_n 1, 1, (0, 0, 0), [], []), (5, .invokevirtual 112, 3, (60, 1, 6), [534, 392, 393, 66], []), (8, .ifCond .eq 14, 3, (22, 0, 0), [], []), (11, .aload_n 0, 1, (0, 0, 0), [], []), (12, .getfield 33, 3, (8, 3, 0), [472], []), (15, .iload_n 2, 1, (0, 0, 0), [], []), (16, .invokevirtual 112, 3, (60, 1, 6), [534, 392, 393, 66], []), (19, .ifCond .ne 5, 3, (24, 0, 0), [], []), (22, .iconst (-1), 1, (0, 0, 0), [], []), (23, .ireturn, 1, (0, 0, 0), [], []), (24, .aload_n 0, 1, (0, 0, 0), [], []), (25, .getfield 43, 3, (8, 5, 0), [474], []), (28, .iload_n 1, 1, (0, 0, 0), [], []), (29, .invokevirtual 127, 3, (24, 1, 2), [558, 559, 560, 67], []), (32, .aload_n 0, 1, (0, 0, 0), [], []), (33, .getfield 43, 3, (8, 5, 0), [474], []), (36, .iload_n 2, 1, (0, 0, 0), [], []), (37, .invokevirtual 127, 3, (24, 1, 2), [558, 559, 560, 67], []), (40, .if_icmp .ge 7, 3, (47, 0, 0), [], []), (43, .iconst 1, 1, (0, 0, 0), [], []), (44, .goto 4, 3, (48, 0, 0), [], []), (47, .iconst 0, 1, (0, 0, 0), [], []), (48, .ireturn, 1, (0, 0, 0), [], [])]
def mX9_ahead : pM := (yX9_ahead, cX9_ahead, 3, (some .int), 690, tX9_ahead)
def tX9_above : List pI := [(0, .aload_n 0, 1, (0, 0, 0), [], []), (1, .getfield 33, 3, (8, 3, 0), [472], []), (4, .iload_n 1, 1, (0, 0, 0), [], []), (5, .invokevirtual 112, 3, (60, 1, 6), [534, 392, 393, 66], []), (8, .ifCond .eq 14, 3, (22, 0, 0), [], []), (11, .aload_n 0, 1, (0, 0, 0), [], []), (12, .getfield 33, 3, (8, 3, 0), [472], []), (15, .iload_n 2, 1, (0, 0, 0), [], []), (16, .invokevirtual 112, 3, (60, 1, 6), [534, 392, 393, 66], []), (19, .ifCond .ne 5, 3, (24, 0, 0), [], []), (22, .iconst (-1), 1, (0, 0, 0), [], []), (23, .ireturn, 1, (0, 0, 0), [], []), (24, .iload_n 1, 1, (0, 0, 0), [], []), (25, .iload_n 2, 1, (0, 0, 0), [], []), (26, .if_icmp .eq 33, 3, (59, 0, 0), [], []), (29, .aload_n 0, 1, (0, 0, 0), [], []), (30, .getfield 43, 3, (8, 5, 0), [474], []), (33, .aload_n 0, 1, (0, 0, 0), [], []), (34, .getfield 43, 3, (8, 5, 0), [474], []), (37, .iload_n 1, 1, (0, 0, 0), [], []), (38, .invokevirtual 127, 3, (24, 1, 2), [558, 559, 560, 67], []), (41, .aload_n 0, 1, (0, 0, 0), [], []), (42, .getfield 43, 3, (8, 5, 0), [474], []), (45, .iload_n 2, 1, (0, 0, 0), [], []), (46, .invokevirtual 127, 3, (24, 1, 2), [558, 559, 560, 67], []), (49, .invokevirtual 202, 3, (31, 2, 2), [695, 696, 697, 67], []), (52, .ifCond .eq 7, 3, (59, 0, 0), [], []), (55, .iconst 1, 1, (0, 0, 0), [], []), (56, .goto 4, 3, (60, 0, 0), [], []), (59, .iconst 0, 1, (0, 0, 0), [], []), (60, .ireturn, 1, (0, 0, 0), [], [])]
def mX9_above : pM := (yX9_above, cX9_above, 3, (some .int), 694, tX9_above)
def tX9_meet : List pI := [(0, .aload_n 0, 1, (0, 0, 0), [], []), (1, .getfield 33, 3, (8, 3, 0), [472], []), (4, .iload_n 1, 1, (0, 0, 0), [], []), (5, .invokevirtual 112, 3, (60, 1, 6), [534, 392, 393, 66], []), (8, .ifCond .eq 14, 3, (22, 0, 0), [], []), (11, .aload_n 0, 1, (0, 0, 0), [], []), (12, .getfield 33, 3, (8, 3, 0), [472], []), (15, .iload_n 2, 1, (0, 0, 0), [], []), (16, .invokevirtual 112, 3, (60, 1, 6), [534, 392, 393, 66], []), (19, .ifCond .ne 5, 3, (24, 0, 0), [], []), (22, .iconst (-1), 1, (0, 0, 0), [], []), (23, .ireturn, 1, (0, 0, 0), [], []), (24, .aload_n 0, 1, (0, 0, 0), [], []), (25, .getfield 43, 3, (8, 5, 0), [474], []), (28, .iload_n 2, 1, (0, 0, 0), [], []), (29, .invokevirtual 127, 3, (24, 1, 2), [558, 559, 560, 67], []), (32, .istore_n 3, 1, (0, 0, 0), [], []), (33, .iload_n 1, 1, (0, 0, 0), [], []), (34, .istore 4, 2, (0, 0, 0), [], []), (36, .iconst 0, 1, (0, 0, 0), [], []), (37, .istore 5, 2, (0, 0, 0), [], []), (39, .iload 5, 2, (0, 0, 0), [], [0, 3, 4, 5]), (41, .bipush 24, 2, (0, 0, 0), [], []), (43, .if_icmp .ge 45, 3, (88, 0, 0), [], []), (46, .iload 4, 2, (0, 0, 0), [], []), (48, .ifCond .le 40, 3, (88, 0, 0), [], []), (51, .aload_n 0, 1, (0, 0, 0), [], []), (52, .getfield 43, 3, (8, 5, 0), [474], []), (55, .aload_n 0, 1, (0, 0, 0), [], []), (56, .getfield 43, 3, (8, 5, 0), [474], []), (59, .iload 4, 2, (0, 0, 0), [], []), (61, .invokevirtual 127, 3, (24, 1, 2), [558, 559, 560, 67], []), (64, .iload_n 3, 1, (0, 0, 0), [], []), (65, .invokevirtual 202, 3, (31, 2, 2), [695, 696, 697, 67], []), (68, .ifCond .ne 20, 3, (88, 0, 0), [], []), (71, .aload_n 0, 1, (0, 0, 0), [], []), (72, .getfield 33, 3, (8, 3, 0), [472], []), (75, .iload 4, 2, (0, 0, 0), [], []), (77, .invokevirtual 134, 3, (68, 1, 6), [566, 567, 568, 66], []), (80, .istore 4, 2, (0, 0, 0), [], []), (82, .iinc 5 1, 3, (0, 0, 0), [], []), (85, .goto (-46), 3, (39, 0, 0), [], []), (88, .iload 4, 2, (0, 0, 0), [], []), (90, .ireturn, 1, (0, 0, 0), [], [])]
def mX9_meet : pM := (yX9_meet, cX9_meet, 6, (some .int), 702, tX9_meet)
def tX9_pattern : List pI := [(0, .aload_n 0, 1, (0, 0, 0), [], []), (1, .getfield 26, 3, (8, 2, 0), [471], []), (4, .aload_n 0, 1, (0, 0, 0), [], []), (5, .getfield 10, 3, (8, 0, 0), [469], []), (8, .aload_n 0, 1, (0, 0, 0), [], []), (9, .getfield 67, 3, (8, 11, 0), [480], []), (12, .invokevirtual 205, 3, (50, 2, 5), [707, 708, 709, 65], []), (15, .istore_n 1, 1, (0, 0, 0), [], []), (16, .iload_n 1, 1, (0, 0, 0), [], []), (17, .ifCond .lt 8, 3, (25, 0, 0), [], []), (20, .bipush (-10), 2, (0, 0, 0), [], []), (22, .iload_n 1, 1, (0, 0, 0), [], []), (23, .isub, 1, (0, 0, 0), [], []), (24, .ireturn, 1, (0, 0, 0), [], []), (25, .aload_n 0, 1, (0, 0, 0), [], []), (26, .getfield 63, 3, (8, 10, 0), [479], []), (29, .aload_n 0, 1, (0, 0, 0), [], []), (30, .getfield 67, 3, (8, 11, 0), [480], []), (33, .invokevirtual 208, 3, (40, 1, 4), [746, 747, 748, 69], []), (36, .aload_n 0, 1, (0, 0, 0), [], []), (37, .iconst 0, 1, (0, 0, 0), [], []), (38, .putfield 211, 3, (8, 13, 0), [482], []), (41, .aload_n 0, 1, (0, 0, 0), [], []), (42, .getfield 63, 3, (8, 10, 0), [479], []), (45, .invokevirtual 215, 3, (41, 0, 4), [751, 752, 753, 69], []), (48, .ireturn, 1, (0, 0, 0), [], [])]
def mX9_pattern : pM := (yX9_pattern, cX9_pattern, 2, (some .int), 706, tX9_pattern)
def tX9_step : List pI := [(0, .aload_n 0, 1, (0, 0, 0), [], []), (1, .getfield 63, 3, (8, 10, 0), [479], []), (4, .iload_n 1, 1, (0, 0, 0), [], []), (5, .invokevirtual 216, 3, (42, 1, 4), [759, 760, 761, 69], []), (8, .ifCond .ne 5, 3, (13, 0, 0), [], []), (11, .iconst (-1), 1, (0, 0, 0), [], []), (12, .ireturn, 1, (0, 0, 0), [], []), (13, .iload_n 2, 1, (0, 0, 0), [], []), (14, .tableswitch 71 0 2 #[26, 35, 53], 26, (0, 0, 0), [], []), (40, .aload_n 0, 1, (0, 0, 0), [], []), (41, .getfield 63, 3, (8, 10, 0), [479], []), (44, .iload_n 1, 1, (0, 0, 0), [], []), (45, .invokevirtual 219, 3, (46, 1, 4), [763, 764, 765, 69], []), (48, .ireturn, 1, (0, 0, 0), [], []), (49, .iload_n 1, 1, (0, 0, 0), [], []), (50, .ifCond .ne 8, 3, (58, 0, 0), [], []), (53, .bipush (-4), 2, (0, 0, 0), [], []), (55, .goto 11, 3, (66, 0, 0), [], []), (58, .aload_n 0, 1, (0, 0, 0), [], []), (59, .getfield 63, 3, (8, 10, 0), [479], []), (62, .iload_n 1, 1, (0, 0, 0), [], []), (63, .invokevirtual 220, 3, (47, 1, 4), [768, 769, 770, 69], []), (66, .ireturn, 1, (0, 0, 0), [], []), (67, .iload_n 1, 1, (0, 0, 0), [], []), (68, .ifCond .ne 8, 3, (76, 0, 0), [], []), (71, .bipush (-4), 2, (0, 0, 0), [], []), (73, .goto 11, 3, (84, 0, 0), [], []), (76, .aload_n 0, 1, (0, 0, 0), [], []), (77, .getfield 63, 3, (8, 10, 0), [479], []), (80, .iload_n 1, 1, (0, 0, 0), [], []), (81, .invokevirtual 223, 3, (48, 1, 4), [772, 773, 774, 69], []), (84, .ireturn, 1, (0, 0, 0), [], []), (85, .iconst (-1), 1, (0, 0, 0), [], []), (86, .ireturn, 1, (0, 0, 0), [], [])]
def mX9_step : pM := (yX9_step, cX9_step, 3, (some .int), 758, tX9_step)
def tX9_matches : List pI := [(0, .aload_n 0, 1, (0, 0, 0), [], []), (1, .getfield 63, 3, (8, 10, 0), [479], []), (4, .invokevirtual 215, 3, (41, 0, 4), [751, 752, 753, 69], []), (7, .ifCond .ne 7, 3, (14, 0, 0), [], []), (10, .ldc2_w 226, 3, (2, 1, 0), [780], []), (13, .lreturn, 1, (0, 0, 0), [], []), (14, .aload_n 0, 1, (0, 0, 0), [], []), (15, .invokevirtual 228, 3, (112, 0, 8), [781, 783, 18, 62], []), (18, .aload_n 0, 1, (0, 0, 0), [], []), (19, .getfield 75, 3, (8, 12, 0), [481], []), (22, .invokevirtual 231, 3, (10, 0, 1), [835, 836, 837, 70], []), (25, .lreturn, 1, (0, 0, 0), [], [])]
def mX9_matches : pM := (yX9_matches, cX9_matches, 1, (some .long), 779, tX9_matches)
def tX9_puts : List pI := [(0, .aload_n 0, 1, (0, 0, 0), [], []), (1, .getfield 63, 3, (8, 10, 0), [479], []), (4, .iload_n 1, 1, (0, 0, 0), [], []), (5, .invokevirtual 216, 3, (42, 1, 4), [759, 760, 761, 69], []), (8, .ifCond .eq 14, 3, (22, 0, 0), [], []), (11, .aload_n 0, 1, (0, 0, 0), [], []), (12, .getfield 33, 3, (8, 3, 0), [472], []), (15, .iload_n 2, 1, (0, 0, 0), [], []), (16, .invokevirtual 112, 3, (60, 1, 6), [534, 392, 393, 66], []), (19, .ifCond .ne 7, 3, (26, 0, 0), [], []), (22, .ldc2_w 235, 3, (1, 1, 0), [843], []), (25, .lreturn, 1, (0, 0, 0), [], []), (26, .aload_n 0, 1, (0, 0, 0), [], []), (27, .invokevirtual 228, 3, (112, 0, 8), [781, 783, 18, 62], []), (30, .aload_n 0, 1, (0, 0, 0), [], []), (31, .getfield 75, 3, (8, 12, 0), [481], []), (34, .iload_n 1, 1, (0, 0, 0), [], []), (35, .aload_n 0, 1, (0, 0, 0), [], []), (36, .getfield 43, 3, (8, 5, 0), [474], []), (39, .iload_n 2, 1, (0, 0, 0), [], []), (40, .invokevirtual 127, 3, (24, 1, 2), [558, 559, 560, 67], []), (43, .invokevirtual 237, 3, (11, 2, 1), [844, 845, 846, 70], []), (46, .lreturn, 1, (0, 0, 0), [], [])]
def mX9_puts : pM := (yX9_puts, cX9_puts, 3, (some .long), 842, tX9_puts)
def tX9_useful : List pI := [(0, .aload_n 0, 1, (0, 0, 0), [], []), (1, .getfield 63, 3, (8, 10, 0), [479], []), (4, .iload_n 1, 1, (0, 0, 0), [], []), (5, .invokevirtual 216, 3, (42, 1, 4), [759, 760, 761, 69], []), (8, .ifCond .ne 5, 3, (13, 0, 0), [], []), (11, .iconst (-1), 1, (0, 0, 0), [], []), (12, .ireturn, 1, (0, 0, 0), [], []), (13, .aload_n 0, 1, (0, 0, 0), [], []), (14, .invokevirtual 228, 3, (112, 0, 8), [781, 783, 18, 62], []), (17, .iconst 0, 1, (0, 0, 0), [], []), (18, .istore_n 2, 1, (0, 0, 0), [], []), (19, .iconst 0, 1, (0, 0, 0), [], []), (20, .istore_n 3, 1, (0, 0, 0), [], []), (21, .iload_n 3, 1, (0, 0, 0), [], [0, 1, 2, 3]), (22, .aload_n 0, 1, (0, 0, 0), [], []), (23, .getfield 43, 3, (8, 5, 0), [474], []), (26, .invokevirtual 126, 3, (23, 0, 2), [550, 551, 552, 67], []), (29, .if_icmp .ge 36, 3, (65, 0, 0), [], []), (32, .aload_n 0, 1, (0, 0, 0), [], []), (33, .getfield 75, 3, (8, 12, 0), [481], []), (36, .iload_n 1, 1, (0, 0, 0), [], []), (37, .iload_n 3, 1, (0, 0, 0), [], []), (38, .invokevirtual 237, 3, (11, 2, 1), [844, 845, 846, 70], []), (41, .lconst 0, 1, (0, 0, 0), [], []), (42, .lcmp, 1, (0, 0, 0), [], []), (43, .ifCond .le 16, 3, (59, 0, 0), [], []), (46, .iload_n 2, 1, (0, 0, 0), [], []), (47, .iconst 1, 1, (0, 0, 0), [], []), (48, .aload_n 0, 1, (0, 0, 0), [], []), (49, .getfield 43, 3, (8, 5, 0), [474], []), (52, .iload_n 3, 1, (0, 0, 0), [], []), (53, .invokevirtual 162, 3, (25, 1, 2), [610, 460, 461, 67], []), (56, .ishl, 1, (0, 0, 0), [], []), (57, .ior, 1, (0, 0, 0), [], []), (58, .istore_n 2, 1, (0, 0, 0), [], []), (59, .iinc 3 1, 3, (0, 0, 0), [], []), (62, .goto (-41), 3, (21, 0, 0), [], []), (65, .iload_n 2, 1, (0, 0, 0), [], []), (66, .ireturn, 1, (0, 0, 0), [], [])]
def mX9_useful : pM := (yX9_useful, cX9_useful, 4, (some .int), 851, tX9_useful)
def tX9_end : List pI := [(0, .iload_n 1, 1, (0, 0, 0), [], []), (1, .iconst (-1), 1, (0, 0, 0), [], []), (2, .if_icmp .ge 5, 3, (7, 0, 0), [], []), (5, .iconst (-1), 1, (0, 0, 0), [], []), (6, .ireturn, 1, (0, 0, 0), [], []), (7, .aload_n 0, 1, (0, 0, 0), [], []), (8, .getfield 63, 3, (8, 10, 0), [479], []), (11, .invokevirtual 215, 3, (41, 0, 4), [751, 752, 753, 69], []), (14, .ifCond .ne 6, 3, (20, 0, 0), [], []), (17, .bipush (-2), 2, (0, 0, 0), [], []), (19, .ireturn, 1, (0, 0, 0), [], []), (20, .aload_n 0, 1, (0, 0, 0), [], []), (21, .invokevirtual 228, 3, (112, 0, 8), [781, 783, 18, 62], []), (24, .iconst 0, 1, (0, 0, 0), [], []), (25, .istore_n 2, 1, (0, 0, 0), [], []), (26, .iconst 0, 1, (0, 0, 0), [], []), (27, .istore_n 3, 1, (0, 0, 0), [], []), (28, .iload_n 3, 1, (0, 0, 0), [], [0, 1, 2, 3]), (29, .aload_n 0, 1, (0, 0, 0), [], []), (30, .getfield 43, 3, (8, 5, 0), [474], []), (33, .invokevirtual 126, 3, (23, 0, 2), [550, 551, 552, 67], []), (36, .if_icmp .ge 46, 3, (82, 0, 0), [], []), (39, .aload_n 0, 1, (0, 0, 0), [], []), (40, .getfield 75, 3, (8, 12, 0), [481], []), (43, .aload_n 0, 1, (0, 0, 0), [], []), (44, .getfield 63, 3, (8, 10, 0), [479], []), (47, .invokevirtual 241, 3, (45, 0, 4), [856, 857, 858, 69], []), (50, .iload_n 3, 1, (0, 0, 0), [], []), (51, .invokevirtual 237, 3, (11, 2, 1), [844, 845, 846, 70], []), (54, .lconst 0, 1, (0, 0, 0), [], []), (55, .lcmp, 1, (0, 0, 0), [], []), (56, .ifCond .le 20, 3, (76, 0, 0), [], []), (59, .iload_n 2, 1, (0, 0, 0), [], []), (60, .iload_n 1, 1, (0, 0, 0), [], []), (61, .if_icmp .ne 12, 3, (73, 0, 0), [], []), (64, .aload_n 0, 1, (0, 0, 0), [], []), (65, .getfield 43, 3, (8, 5, 0), [474], []), (68, .iload_n 3, 1, (0, 0, 0), [], []), (69, .invokevirtual 162, 3, (25, 1, 2), [610, 460, 461, 67], []), (72, .ireturn, 1, (0, 0, 0), [], []), (73, .iinc 2 1, 3, (0, 0, 0), [], []), (76, .iinc 3 1, 3, (0, 0, 0), [], []), (79, .goto (-51), 3, (28, 0, 0), [], []), (82, .iload_n 1, 1, (0, 0, 0), [], []), (83, .iconst (-1), 1, (0, 0, 0), [], []), (84, .if_icmp .ne 7, 3, (91, 0, 0), [], []), (87, .iload_n 2, 1, (0, 0, 0), [], []), (88, .goto 5, 3, (93, 0, 0), [], []), (91, .bipush (-4), 2, (0, 0, 0), [], []), (93, .ireturn, 1, (0, 0, 0), [], [])]
def mX9_end : pM := (yX9_end, cX9_end, 4, (some .int), 855, tX9_end)
def tX9_keep : List pI := [(0, .aload_n 0, 1, (0, 0, 0), [], []), (1, .getfield 122, 3, (8, 9, 0), [478], []), (4, .iconst 2, 1, (0, 0, 0), [], []), (5, .if_icmp .lt 6, 3, (11, 0, 0), [], []), (8, .bipush (-3), 2, (0, 0, 0), [], []), (10, .ireturn, 1, (0, 0, 0), [], []), (11, .aload_n 0, 1, (0, 0, 0), [], []), (12, .aload_n 0, 1, (0, 0, 0), [], []), (13, .getfield 122, 3, (8, 9, 0), [478], []), (16, .invokevirtual 244, 3, (113, 1, 8), [864, 866, 26, 62], []), (19, .aload_n 0, 1, (0, 0, 0), [], []), (20, .getfield 33, 3, (8, 3, 0), [472], []), (23, .invokevirtual 116, 3, (58, 1, 6), [535, 536, 537, 66], []), (26, .aload_n 0, 1, (0, 0, 0), [], []), (27, .dup, 1, (0, 0, 0), [], []), (28, .getfield 122, 3, (8, 9, 0), [478], []), (31, .iconst 1, 1, (0, 0, 0), [], []), (32, .iadd, 1, (0, 0, 0), [], []), (33, .putfield 122, 3, (8, 9, 0), [478], []), (36, .aload_n 0, 1, (0, 0, 0), [], []), (37, .getfield 122, 3, (8, 9, 0), [478], []), (40, .ireturn, 1, (0, 0, 0), [], [])]
def mX9_keep : pM := (yX9_keep, cX9_keep, 1, (some .int), 863, tX9_keep)
def tX9_back : List pI := [(0, .aload_n 0, 1, (0, 0, 0), [], []), (1, .getfield 122, 3, (8, 9, 0), [478], []), (4, .ifCond .gt 6, 3, (10, 0, 0), [], []), (7, .bipush (-2), 2, (0, 0, 0), [], []), (9, .ireturn, 1, (0, 0, 0), [], []), (10, .aload_n 0, 1, (0, 0, 0), [], []), (11, .dup, 1, (0, 0, 0), [], []), (12, .getfield 122, 3, (8, 9, 0), [478], []), (15, .iconst 1, 1, (0, 0, 0), [], []), (16, .isub, 1, (0, 0, 0), [], []), (17, .putfield 122, 3, (8, 9, 0), [478], []), (20, .aload_n 0, 1, (0, 0, 0), [], []), (21, .getfield 33, 3, (8, 3, 0), [472], []), (24, .aload_n 0, 1, (0, 0, 0), [], []), (25, .aload_n 0, 1, (0, 0, 0), [], []), (26, .getfield 122, 3, (8, 9, 0), [478], []), (29, .invokevirtual 244, 3, (113, 1, 8), [864, 866, 26, 62], []), (32, .invokevirtual 116, 3, (58, 1, 6), [535, 536, 537, 66], []), (35, .aload_n 0, 1, (0, 0, 0), [], []), (36, .getfield 50, 3, (8, 6, 0), [475], []), (39, .invokevirtual 121, 3, (35, 0, 3), [546, 547, 548, 68], []), (42, .aload_n 0, 1, (0, 0, 0), [], []), (43, .invokevirtual 102, 3, (111, 0, 8), [434, 436, 6, 62], []), (46, .aload_n 0, 1, (0, 0, 0), [], []), (47, .getfield 122, 3, (8, 9, 0), [478], []), (50, .ireturn, 1, (0, 0, 0), [], [])]
def mX9_back : pM := (yX9_back, cX9_back, 1, (some .int), 871, tX9_back)
def tX9_count : List pI := [(0, .iload_n 1, 1, (0, 0, 0), [], []), (1, .tableswitch 117 0 8 #[51, 59, 67, 75, 80, 88, 96, 104, 109], 51, (0, 0, 0), [], []), (52, .aload_n 0, 1, (0, 0, 0), [], []), (53, .getfield 43, 3, (8, 5, 0), [474], []), (56, .invokevirtual 126, 3, (23, 0, 2), [550, 551, 552, 67], []), (59, .ireturn, 1, (0, 0, 0), [], []), (60, .aload_n 0, 1, (0, 0, 0), [], []), (61, .getfield 33, 3, (8, 3, 0), [472], []), (64, .invokevirtual 248, 3, (62, 0, 6), [876, 364, 365, 66], []), (67, .ireturn, 1, (0, 0, 0), [], []), (68, .aload_n 0, 1, (0, 0, 0), [], []), (69, .getfield 63, 3, (8, 10, 0), [479], []), (72, .invokevirtual 215, 3, (41, 0, 4), [751, 752, 753, 69], []), (75, .ireturn, 1, (0, 0, 0), [], []), (76, .aload_n 0, 1, (0, 0, 0), [], []), (77, .invokevirtual 251, 3, (119, 0, 8), [877, 879, 27, 62], []), (80, .ireturn, 1, (0, 0, 0), [], []), (81, .aload_n 0, 1, (0, 0, 0), [], []), (82, .getfield 43, 3, (8, 5, 0), [474], []), (85, .invokevirtual 254, 3, (33, 0, 2), [884, 885, 886, 67], []), (88, .ireturn, 1, (0, 0, 0), [], []), (89, .aload_n 0, 1, (0, 0, 0), [], []), (90, .getfield 33, 3, (8, 3, 0), [472], []), (93, .invokevirtual 257, 3, (63, 0, 6), [889, 890, 891, 66], []), (96, .ireturn, 1, (0, 0, 0), [], []), (97, .aload_n 0, 1, (0, 0, 0), [], []), (98, .getfield 50, 3, (8, 6, 0), [475], []), (101, .invokevirtual 198, 3, (34, 0, 3), [670, 671, 672, 68], []), (104, .ireturn, 1, (0, 0, 0), [], []), (105, .aload_n 0, 1, (0, 0, 0), [], []), (106, .getfield 122, 3, (8, 9, 0), [478], []), (109, .ireturn, 1, (0, 0, 0), [], []), (110, .aload_n 0, 1, (0, 0, 0), [], []), (111, .getfield 10, 3, (8, 0, 0), [469], []), (114, .invokevirtual 109, 3, (4, 0, 0), [521, 334, 335, 63], []), (117, .ireturn, 1, (0, 0, 0), [], []), (118, .iconst (-1), 1, (0, 0, 0), [], []), (119, .ireturn, 1, (0, 0, 0), [], [])]
def mX9_count : pM := (yX9_count, cX9_count, 2, (some .int), 875, tX9_count)
def tX9_settle : List pI := [(0, .aload_n 0, 1, (0, 0, 0), [], []), (1, .getfield 43, 3, (8, 5, 0), [474], []), (4, .aload_n 0, 1, (0, 0, 0), [], []), (5, .getfield 33, 3, (8, 3, 0), [472], []), (8, .invokevirtual 260, 3, (19, 1, 2), [438, 439, 440, 67], []), (11, .aload_n 0, 1, (0, 0, 0), [], []), (12, .iconst 0, 1, (0, 0, 0), [], []), (13, .putfield 211, 3, (8, 13, 0), [482], []), (16, .return_, 1, (0, 0, 0), [], [])]
def mX9_settle : pM := (yX9_settle, cX9_settle, 1, none, 437, tX9_settle)
def tX9_matchAll : List pI := [(0, .aload_n 0, 1, (0, 0, 0), [], []), (1, .getfield 211, 3, (8, 13, 0), [482], []), (4, .ifCond .ne 15, 3, (19, 0, 0), [], []), (7, .aload_n 0, 1, (0, 0, 0), [], []), (8, .getfield 75, 3, (8, 12, 0), [481], []), (11, .invokevirtual 262, 3, (9, 0, 1), [785, 786, 787, 70], []), (14, .aload_n 0, 1, (0, 0, 0), [], []), (15, .iconst 1, 1, (0, 0, 0), [], []), (16, .putfield 211, 3, (8, 13, 0), [482], []), (19, .return_, 1, (0, 0, 0), [], [])]
def mX9_matchAll : pM := (yX9_matchAll, cX9_matchAll, 1, none, 784, tX9_matchAll)
def tX9_keptTree : List pI := [(0, .iload_n 1, 1, (0, 0, 0), [], []), (1, .ifCond .ne 10, 3, (11, 0, 0), [], []), (4, .aload_n 0, 1, (0, 0, 0), [], []), (5, .getfield 54, 3, (8, 7, 0), [476], []), (8, .goto 7, 3, (15, 0, 0), [], []), (11, .aload_n 0, 1, (0, 0, 0), [], []), (12, .getfield 57, 3, (8, 8, 0), [477], []), (15, .areturn, 1, (0, 0, 0), [], [])]
def mX9_keptTree : pM := (yX9_keptTree, cX9_keptTree, 2, (some (.object "LabelTree$Tree")), 867, tX9_keptTree)
def tX9_isPlace : List pI := [(0, .aload_n 0, 1, (0, 0, 0), [], []), (1, .getfield 33, 3, (8, 3, 0), [472], []), (4, .iload_n 1, 1, (0, 0, 0), [], []), (5, .invokevirtual 112, 3, (60, 1, 6), [534, 392, 393, 66], []), (8, .ifCond .eq 23, 3, (31, 0, 0), [], []), (11, .iload_n 2, 1, (0, 0, 0), [], []), (12, .ifCond .lt 19, 3, (31, 0, 0), [], []), (15, .iload_n 2, 1, (0, 0, 0), [], []), (16, .aload_n 0, 1, (0, 0, 0), [], []), (17, .getfield 33, 3, (8, 3, 0), [472], []), (20, .iload_n 1, 1, (0, 0, 0), [], []), (21, .invokevirtual 265, 3, (73, 1, 6), [619, 399, 400, 66], []), (24, .if_icmp .gt 7, 3, (31, 0, 0), [], []), (27, .iconst 1, 1, (0, 0, 0), [], []), (28, .goto 4, 3, (32, 0, 0), [], []), (31, .iconst 0, 1, (0, 0, 0), [], []), (32, .ireturn, 1, (0, 0, 0), [], [])]
def mX9_isPlace : pM := (yX9_isPlace, cX9_isPlace, 3, (some .boolean), 618, tX9_isPlace)
def tX9_isTag : List pI := [(0, .iload_n 0, 1, (0, 0, 0), [], []), (1, .ifCond .lt 13, 3, (14, 0, 0), [], []), (4, .iload_n 0, 1, (0, 0, 0), [], []), (5, .bipush 6, 2, (0, 0, 0), [], []), (7, .if_icmp .ge 7, 3, (14, 0, 0), [], []), (10, .iconst 1, 1, (0, 0, 0), [], []), (11, .goto 4, 3, (15, 0, 0), [], []), (14, .iconst 0, 1, (0, 0, 0), [], []), (15, .ireturn, 1, (0, 0, 0), [], [])]
def mX9_isTag : pM := (yX9_isTag, cX9_isTag, 1, (some .boolean), 377, tX9_isTag)
def tX9_isKeyPart : List pI := [(0, .iload_n 0, 1, (0, 0, 0), [], []), (1, .ifCond .eq 8, 3, (9, 0, 0), [], []), (4, .iload_n 0, 1, (0, 0, 0), [], []), (5, .iconst 1, 1, (0, 0, 0), [], []), (6, .if_icmp .ne 7, 3, (13, 0, 0), [], []), (9, .iconst 1, 1, (0, 0, 0), [], []), (10, .goto 4, 3, (14, 0, 0), [], []), (13, .iconst 0, 1, (0, 0, 0), [], []), (14, .ireturn, 1, (0, 0, 0), [], [])]
def mX9_isKeyPart : pM := (yX9_isKeyPart, cX9_isKeyPart, 1, (some .boolean), 590, tX9_isKeyPart)
def tX9_keyPart : List pI := [(0, .iload_n 1, 1, (0, 0, 0), [], []), (1, .ifCond .ne 10, 3, (11, 0, 0), [], []), (4, .iload_n 0, 1, (0, 0, 0), [], []), (5, .invokestatic 268, 3, (3, 1, 0), [599, 600, 75], []), (8, .goto 7, 3, (15, 0, 0), [], []), (11, .iload_n 0, 1, (0, 0, 0), [], []), (12, .invokestatic 273, 3, (2, 1, 0), [605, 603, 75], []), (15, .ireturn, 1, (0, 0, 0), [], [])]
def mX9_keyPart : pM := (yX9_keyPart, cX9_keyPart, 2, (some .int), 598, tX9_keyPart)
def tX9_climb : List pI := [(0, .iload_n 1, 1, (0, 0, 0), [], []), (1, .istore_n 3, 1, (0, 0, 0), [], []), (2, .iconst 0, 1, (0, 0, 0), [], []), (3, .istore 4, 2, (0, 0, 0), [], []), (5, .iload 4, 2, (0, 0, 0), [], [0, 2, 3, 4]), (7, .iload_n 2, 1, (0, 0, 0), [], []), (8, .if_icmp .ge 25, 3, (33, 0, 0), [], []), (11, .iload 4, 2, (0, 0, 0), [], []), (13, .bipush 24, 2, (0, 0, 0), [], []), (15, .if_icmp .ge 18, 3, (33, 0, 0), [], []), (18, .aload_n 0, 1, (0, 0, 0), [], []), (19, .getfield 33, 3, (8, 3, 0), [472], []), (22, .iload_n 3, 1, (0, 0, 0), [], []), (23, .invokevirtual 134, 3, (68, 1, 6), [566, 567, 568, 66], []), (26, .istore_n 3, 1, (0, 0, 0), [], []), (27, .iinc 4 1, 3, (0, 0, 0), [], []), (30, .goto (-25), 3, (5, 0, 0), [], []), (33, .iload_n 3, 1, (0, 0, 0), [], []), (34, .ireturn, 1, (0, 0, 0), [], [])]
def mX9_climb : pM := (yX9_climb, cX9_climb, 5, (some .int), 594, tX9_climb)
def tX9_mostFigures : List pI := [(0, .iconst 0, 1, (0, 0, 0), [], []), (1, .istore_n 1, 1, (0, 0, 0), [], []), (2, .iconst 1, 1, (0, 0, 0), [], []), (3, .istore_n 2, 1, (0, 0, 0), [], []), (4, .iload_n 2, 1, (0, 0, 0), [], [0, 1, 2]), (5, .aload_n 0, 1, (0, 0, 0), [], []), (6, .getfield 43, 3, (8, 5, 0), [474], []), (9, .invokevirtual 126, 3, (23, 0, 2), [550, 551, 552, 67], []), (12, .if_icmp .ge 32, 3, (44, 0, 0), [], []), (15, .iload_n 1, 1, (0, 0, 0), [], []), (16, .aload_n 0, 1, (0, 0, 0), [], []), (17, .getfield 33, 3, (8, 3, 0), [472], []), (20, .aload_n 0, 1, (0, 0, 0), [], []), (21, .getfield 43, 3, (8, 5, 0), [474], []), (24, .iload_n 2, 1, (0, 0, 0), [], []), (25, .invokevirtual 162, 3, (25, 1, 2), [610, 460, 461, 67], []), (28, .invokevirtual 156, 3, (69, 1, 6), [595, 417, 418, 66], []), (31, .invokestatic 273, 3, (2, 1, 0), [605, 603, 75], []), (34, .invokestatic 275, 3, (0, 2, 3), [881, 882, 76, 883], []), (37, .istore_n 1, 1, (0, 0, 0), [], []), (38, .iinc 2 1, 3, (0, 0, 0), [], []), (41, .goto (-37), 3, (4, 0, 0), [], []), (44, .iload_n 1, 1, (0, 0, 0), [], []), (45, .ireturn, 1, (0, 0, 0), [], [])]
def mX9_mostFigures : pM := (yX9_mostFigures, cX9_mostFigures, 3, (some .int), 880, tX9_mostFigures)
def tX10_in : List pI := [(0, .iload_n 0, 1, (0, 0, 0), [], []), (1, .iload_n 1, 1, (0, 0, 0), [], []), (2, .if_icmp .lt 12, 3, (14, 0, 0), [], []), (5, .iload_n 0, 1, (0, 0, 0), [], []), (6, .iload_n 2, 1, (0, 0, 0), [], []), (7, .if_icmp .gt 7, 3, (14, 0, 0), [], []), (10, .iconst 1, 1, (0, 0, 0), [], []), (11, .goto 4, 3, (15, 0, 0), [], []), (14, .iconst 0, 1, (0, 0, 0), [], []), (15, .ireturn, 1, (0, 0, 0), [], [])]
def mX10_in : pM := (yX10_in, cX10_in, 3, (some .boolean), 1023, tX10_in)
def tX10_has : List pI := [(0, .iload_n 0, 1, (0, 0, 0), [], []), (1, .iload_n 1, 1, (0, 0, 0), [], []), (2, .ishr, 1, (0, 0, 0), [], []), (3, .iconst 1, 1, (0, 0, 0), [], []), (4, .iand, 1, (0, 0, 0), [], []), (5, .iconst 1, 1, (0, 0, 0), [], []), (6, .if_icmp .ne 7, 3, (13, 0, 0), [], []), (9, .iconst 1, 1, (0, 0, 0), [], []), (10, .goto 4, 3, (14, 0, 0), [], []), (13, .iconst 0, 1, (0, 0, 0), [], []), (14, .ireturn, 1, (0, 0, 0), [], [])]
def mX10_has : pM := (yX10_has, cX10_has, 2, (some .boolean), 921, tX10_has)
def tX10_isNode : List pI := [(0, .iload_n 1, 1, (0, 0, 0), [], []), (1, .iconst 0, 1, (0, 0, 0), [], []), (2, .bipush 23, 2, (0, 0, 0), [], []), (4, .invokestatic 64, 3, (120, 3, 0), [1021, 1022, 77], []), (7, .ifCond .eq 18, 3, (25, 0, 0), [], []), (10, .aload_n 0, 1, (0, 0, 0), [], []), (11, .getfield 68, 3, (9, 0, 0), [931], []), (14, .iload_n 1, 1, (0, 0, 0), [], []), (15, .invokestatic 72, 3, (121, 2, 0), [919, 920, 77], []), (18, .ifCond .eq 7, 3, (25, 0, 0), [], []), (21, .iconst 1, 1, (0, 0, 0), [], []), (22, .goto 4, 3, (26, 0, 0), [], []), (25, .iconst 0, 1, (0, 0, 0), [], []), (26, .ireturn, 1, (0, 0, 0), [], [])]
def mX10_isNode : pM := (yX10_isNode, cX10_isNode, 2, (some .boolean), 1020, tX10_isNode)
def tX10_isTag : List pI := [(0, .iload_n 0, 1, (0, 0, 0), [], []), (1, .iconst 0, 1, (0, 0, 0), [], []), (2, .iconst 5, 1, (0, 0, 0), [], []), (3, .invokestatic 64, 3, (120, 3, 0), [1021, 1022, 77], []), (6, .ireturn, 1, (0, 0, 0), [], [])]
def mX10_isTag : pM := (yX10_isTag, cX10_isTag, 1, (some .boolean), 1071, tX10_isTag)
def tX10_root : List pI := [(0, .aload_n 0, 1, (0, 0, 0), [], []), (1, .iconst 1, 1, (0, 0, 0), [], []), (2, .putfield 68, 3, (9, 0, 0), [931], []), (5, .aload_n 0, 1, (0, 0, 0), [], []), (6, .iconst 1, 1, (0, 0, 0), [], []), (7, .putfield 76, 3, (9, 1, 0), [932], []), (10, .aload_n 0, 1, (0, 0, 0), [], []), (11, .getfield 7, 3, (9, 3, 0), [934], []), (14, .iconst 0, 1, (0, 0, 0), [], []), (15, .iload_n 1, 1, (0, 0, 0), [], []), (16, .iastore, 1, (0, 0, 0), [], []), (17, .aload_n 0, 1, (0, 0, 0), [], []), (18, .getfield 13, 3, (9, 4, 0), [935], []), (21, .iconst 0, 1, (0, 0, 0), [], []), (22, .bipush (-4), 2, (0, 0, 0), [], []), (24, .iastore, 1, (0, 0, 0), [], []), (25, .aload_n 0, 1, (0, 0, 0), [], []), (26, .getfield 16, 3, (9, 5, 0), [936], []), (29, .iconst 0, 1, (0, 0, 0), [], []), (30, .iconst 0, 1, (0, 0, 0), [], []), (31, .iastore, 1, (0, 0, 0), [], []), (32, .return_, 1, (0, 0, 0), [], [])]
def mX10_root : pM := (yX10_root, cX10_root, 2, none, 902, tX10_root)
def tX10_childMany : List pI := [(0, .iconst 0, 1, (0, 0, 0), [], []), (1, .istore_n 2, 1, (0, 0, 0), [], []), (2, .iconst 0, 1, (0, 0, 0), [], []), (3, .istore_n 3, 1, (0, 0, 0), [], []), (4, .iload_n 3, 1, (0, 0, 0), [], [0, 1, 2, 3]), (5, .bipush 24, 2, (0, 0, 0), [], []), (7, .if_icmp .ge 38, 3, (45, 0, 0), [], []), (10, .iload_n 2, 1, (0, 0, 0), [], []), (11, .aload_n 0, 1, (0, 0, 0), [], []), (12, .getfield 68, 3, (9, 0, 0), [931], []), (15, .iload_n 3, 1, (0, 0, 0), [], []), (16, .invokestatic 72, 3, (121, 2, 0), [919, 920, 77], []), (19, .ifCond .eq 17, 3, (36, 0, 0), [], []), (22, .aload_n 0, 1, (0, 0, 0), [], []), (23, .getfield 13, 3, (9, 4, 0), [935], []), (26, .iload_n 3, 1, (0, 0, 0), [], []), (27, .iaload, 1, (0, 0, 0), [], []), (28, .iload_n 1, 1, (0, 0, 0), [], []), (29, .if_icmp .ne 7, 3, (36, 0, 0), [], []), (32, .iconst 1, 1, (0, 0, 0), [], []), (33, .goto 4, 3, (37, 0, 0), [], []), (36, .iconst 0, 1, (0, 0, 0), [], []), (37, .iadd, 1, (0, 0, 0), [], []), (38, .istore_n 2, 1, (0, 0, 0), [], []), (39, .iinc 3 1, 3, (0, 0, 0), [], []), (42, .goto (-38), 3, (4, 0, 0), [], []), (45, .iload_n 2, 1, (0, 0, 0), [], []), (46, .ireturn, 1, (0, 0, 0), [], [])]
def mX10_childMany : pM := (yX10_childMany, cX10_childMany, 4, (some .int), 925, tX10_childMany)
def tX10_childBehind : List pI := [(0, .bipush (-4), 2, (0, 0, 0), [], []), (2, .istore_n 3, 1, (0, 0, 0), [], []), (3, .iconst 0, 1, (0, 0, 0), [], []), (4, .istore 4, 2, (0, 0, 0), [], []), (6, .iload 4, 2, (0, 0, 0), [], [0, 1, 2, 3, 4]), (8, .bipush 24, 2, (0, 0, 0), [], []), (10, .if_icmp .ge 84, 3, (94, 0, 0), [], []), (13, .aload_n 0, 1, (0, 0, 0), [], []), (14, .getfield 68, 3, (9, 0, 0), [931], []), (17, .iload 4, 2, (0, 0, 0), [], []), (19, .invokestatic 72, 3, (121, 2, 0), [919, 920, 77], []), (22, .ifCond .eq 29, 3, (51, 0, 0), [], []), (25, .aload_n 0, 1, (0, 0, 0), [], []), (26, .getfield 13, 3, (9, 4, 0), [935], []), (29, .iload 4, 2, (0, 0, 0), [], []), (31, .iaload, 1, (0, 0, 0), [], []), (32, .iload_n 1, 1, (0, 0, 0), [], []), (33, .if_icmp .ne 18, 3, (51, 0, 0), [], []), (36, .aload_n 0, 1, (0, 0, 0), [], []), (37, .getfield 16, 3, (9, 5, 0), [936], []), (40, .iload 4, 2, (0, 0, 0), [], []), (42, .iaload, 1, (0, 0, 0), [], []), (43, .iload_n 2, 1, (0, 0, 0), [], []), (44, .if_icmp .le 7, 3, (51, 0, 0), [], []), (47, .iconst 1, 1, (0, 0, 0), [], []), (48, .goto 4, 3, (52, 0, 0), [], []), (51, .iconst 0, 1, (0, 0, 0), [], []), (52, .istore 5, 2, (0, 0, 0), [], []), (54, .iload 5, 2, (0, 0, 0), [], []), (56, .ifCond .eq 30, 3, (86, 0, 0), [], []), (59, .iload_n 3, 1, (0, 0, 0), [], []), (60, .bipush (-4), 2, (0, 0, 0), [], []), (62, .if_icmp .eq 19, 3, (81, 0, 0), [], []), (65, .aload_n 0, 1, (0, 0, 0), [], []), (66, .getfield 16, 3, (9, 5, 0), [936], []), (69, .iload 4, 2, (0, 0, 0), [], []), (71, .iaload, 1, (0, 0, 0), [], []), (72, .aload_n 0, 1, (0, 0, 0), [], []), (73, .getfield 16, 3, (9, 5, 0), [936], []), (76, .iload_n 3, 1, (0, 0, 0), [], []), (77, .iaload, 1, (0, 0, 0), [], []), (78, .if_icmp .ge 8, 3, (86, 0, 0), [], []), (81, .iload 4, 2, (0, 0, 0), [], []), (83, .goto 4, 3, (87, 0, 0), [], []), (86, .iload_n 3, 1, (0, 0, 0), [], []), (87, .istore_n 3, 1, (0, 0, 0), [], []), (88, .iinc 4 1, 3, (0, 0, 0), [], []), (91, .goto (-85), 3, (6, 0, 0), [], []), (94, .iload_n 3, 1, (0, 0, 0), [], []), (95, .ireturn, 1, (0, 0, 0), [], [])]
def mX10_childBehind : pM := (yX10_childBehind, cX10_childBehind, 6, (some .int), 918, tX10_childBehind)
def tX10_childAt : List pI := [(0, .aload_n 0, 1, (0, 0, 0), [], []), (1, .iload_n 1, 1, (0, 0, 0), [], []), (2, .iconst 0, 1, (0, 0, 0), [], []), (3, .invokevirtual 79, 3, (126, 2, 9), [915, 917, 32, 77], []), (6, .istore_n 3, 1, (0, 0, 0), [], []), (7, .iconst 0, 1, (0, 0, 0), [], []), (8, .istore 4, 2, (0, 0, 0), [], []), (10, .iload 4, 2, (0, 0, 0), [], [0, 1, 2, 3, 4]), (12, .iload_n 2, 1, (0, 0, 0), [], []), (13, .if_icmp .ge 27, 3, (40, 0, 0), [], []), (16, .iload_n 3, 1, (0, 0, 0), [], []), (17, .bipush (-4), 2, (0, 0, 0), [], []), (19, .if_icmp .eq 21, 3, (40, 0, 0), [], []), (22, .aload_n 0, 1, (0, 0, 0), [], []), (23, .iload_n 1, 1, (0, 0, 0), [], []), (24, .aload_n 0, 1, (0, 0, 0), [], []), (25, .getfield 16, 3, (9, 5, 0), [936], []), (28, .iload_n 3, 1, (0, 0, 0), [], []), (29, .iaload, 1, (0, 0, 0), [], []), (30, .invokevirtual 79, 3, (126, 2, 9), [915, 917, 32, 77], []), (33, .istore_n 3, 1, (0, 0, 0), [], []), (34, .iinc 4 1, 3, (0, 0, 0), [], []), (37, .goto (-27), 3, (10, 0, 0), [], []), (40, .iload_n 3, 1, (0, 0, 0), [], []), (41, .ireturn, 1, (0, 0, 0), [], [])]
def mX10_childAt : pM := (yX10_childAt, cX10_childAt, 5, (some .int), 914, tX10_childAt)
def tX10_keyBetween : List pI := [(0, .ldc 83, 2, (1000000000, 0, 0), [926], []), (2, .istore_n 3, 1, (0, 0, 0), [], []), (3, .iconst 1, 1, (0, 0, 0), [], []), (4, .istore 4, 2, (0, 0, 0), [], []), (6, .iload 4, 2, (0, 0, 0), [], [0, 1, 2, 3, 4]), (8, .bipush 9, 2, (0, 0, 0), [], []), (10, .if_icmp .gt 105, 3, (115, 0, 0), [], []), (13, .iload_n 3, 1, (0, 0, 0), [], []), (14, .bipush 10, 2, (0, 0, 0), [], []), (16, .idiv, 1, (0, 0, 0), [], []), (17, .istore_n 3, 1, (0, 0, 0), [], []), (18, .iload_n 1, 1, (0, 0, 0), [], []), (19, .iload_n 3, 1, (0, 0, 0), [], []), (20, .idiv, 1, (0, 0, 0), [], []), (21, .iconst 1, 1, (0, 0, 0), [], []), (22, .iadd, 1, (0, 0, 0), [], []), (23, .istore 5, 2, (0, 0, 0), [], []), (25, .iload_n 2, 1, (0, 0, 0), [], []), (26, .iconst 1, 1, (0, 0, 0), [], []), (27, .isub, 1, (0, 0, 0), [], []), (28, .iload_n 3, 1, (0, 0, 0), [], []), (29, .idiv, 1, (0, 0, 0), [], []), (30, .istore 6, 2, (0, 0, 0), [], []), (32, .iload 5, 2, (0, 0, 0), [], []), (34, .iload 6, 2, (0, 0, 0), [], []), (36, .if_icmp .gt 73, 3, (109, 0, 0), [], []), (39, .aload_n 0, 1, (0, 0, 0), [], []), (40, .getfield 84, 3, (9, 2, 0), [933], []), (43, .iconst 1, 1, (0, 0, 0), [], []), (44, .if_icmp .ne 8, 3, (52, 0, 0), [], []), (47, .iload 5, 2, (0, 0, 0), [], []), (49, .goto 53, 3, (102, 0, 0), [], []), (52, .aload_n 0, 1, (0, 0, 0), [], []), (53, .getfield 84, 3, (9, 2, 0), [933], []), (56, .iconst 2, 1, (0, 0, 0), [], []), (57, .if_icmp .ne 8, 3, (65, 0, 0), [], []), (60, .iload 6, 2, (0, 0, 0), [], []), (62, .goto 40, 3, (102, 0, 0), [], []), (65, .aload_n 0, 1, (0, 0, 0), [], []), (66, .getfield 84, 3, (9, 2, 0), [933], []), (69, .iconst 3, 1, (0, 0, 0), [], []), (70, .if_icmp .ne 22, 3, (92, 0, 0), [], []), (73, .iload 5, 2, (0, 0, 0), [], []), (75, .iload 6, 2, (0, 0, 0), [], []), (77, .if_icmp .ge 10, 3, (87, 0, 0), [], []), (80, .iload 5, 2, (0, 0, 0), [], []), (82, .iconst 1, 1, (0, 0, 0), [], []), (83, .iadd, 1, (0, 0, 0), [], []), (84, .goto 18, 3, (102, 0, 0), [], []), (87, .iload 5, 2, (0, 0, 0), [], []), (89, .goto 13, 3, (102, 0, 0), [], []), (92, .iload 5, 2, (0, 0, 0), [], []), (94, .iload 6, 2, (0, 0, 0), [], []), (96, .iload 5, 2, (0, 0, 0), [], []), (98, .isub, 1, (0, 0, 0), [], []), (99, .iconst 2, 1, (0, 0, 0), [], []), (100, .idiv, 1, (0, 0, 0), [], []), (101, .iadd, 1, (0, 0, 0), [], []), (102, .istore 7, 2, (0, 0, 0), [], []), (104, .iload 7, 2, (0, 0, 0), [], []), (106, .iload_n 3, 1, (0, 0, 0), [], []), (107, .imul, 1, (0, 0, 0), [], []), (108, .ireturn, 1, (0, 0, 0), [], []), (109, .iinc 4 1, 3, (0, 0, 0), [], []), (112, .goto (-106), 3, (6, 0, 0), [], []), (115, .iconst 0, 1, (0, 0, 0), [], []), (116, .ireturn, 1, (0, 0, 0), [], [])]
def mX10_keyBetween : pM := (yX10_keyBetween, cX10_keyBetween, 8, (some .int), 930, tX10_keyBetween)
def tX10_keyFor : List pI := [(0, .iload_n 2, 1, (0, 0, 0), [], []), (1, .ifCond .ne 7, 3, (8, 0, 0), [], []), (4, .iconst 0, 1, (0, 0, 0), [], []), (5, .goto 16, 3, (21, 0, 0), [], []), (8, .aload_n 0, 1, (0, 0, 0), [], []), (9, .getfield 16, 3, (9, 5, 0), [936], []), (12, .aload_n 0, 1, (0, 0, 0), [], []), (13, .iload_n 1, 1, (0, 0, 0), [], []), (14, .iload_n 2, 1, (0, 0, 0), [], []), (15, .iconst 1, 1, (0, 0, 0), [], []), (16, .isub, 1, (0, 0, 0), [], []), (17, .invokevirtual 87, 3, (127, 2, 9), [911, 913, 31, 77], []), (20, .iaload, 1, (0, 0, 0), [], []), (21, .istore_n 3, 1, (0, 0, 0), [], []), (22, .iload_n 2, 1, (0, 0, 0), [], []), (23, .aload_n 0, 1, (0, 0, 0), [], []), (24, .iload_n 1, 1, (0, 0, 0), [], []), (25, .invokevirtual 90, 3, (125, 1, 9), [922, 924, 33, 77], []), (28, .if_icmp .ne 8, 3, (36, 0, 0), [], []), (31, .ldc 83, 2, (1000000000, 0, 0), [926], []), (33, .goto 14, 3, (47, 0, 0), [], []), (36, .aload_n 0, 1, (0, 0, 0), [], []), (37, .getfield 16, 3, (9, 5, 0), [936], []), (40, .aload_n 0, 1, (0, 0, 0), [], []), (41, .iload_n 1, 1, (0, 0, 0), [], []), (42, .iload_n 2, 1, (0, 0, 0), [], []), (43, .invokevirtual 87, 3, (127, 2, 9), [911, 913, 31, 77], []), (46, .iaload, 1, (0, 0, 0), [], []), (47, .istore 4, 2, (0, 0, 0), [], []), (49, .aload_n 0, 1, (0, 0, 0), [], []), (50, .iload_n 3, 1, (0, 0, 0), [], []), (51, .iload 4, 2, (0, 0, 0), [], []), (53, .invokevirtual 94, 3, (128, 2, 9), [927, 929, 34, 77], []), (56, .ireturn, 1, (0, 0, 0), [], [])]
def mX10_keyFor : pM := (yX10_keyFor, cX10_keyFor, 5, (some .int), 910, tX10_keyFor)
def tX10_figuresOf : List pI := [(0, .bipush 9, 2, (0, 0, 0), [], []), (2, .istore_n 1, 1, (0, 0, 0), [], []), (3, .iload_n 0, 1, (0, 0, 0), [], []), (4, .istore_n 2, 1, (0, 0, 0), [], []), (5, .iload_n 2, 1, (0, 0, 0), [], [1, 2]), (6, .bipush 10, 2, (0, 0, 0), [], []), (8, .irem, 1, (0, 0, 0), [], []), (9, .ifCond .ne 18, 3, (27, 0, 0), [], []), (12, .iload_n 1, 1, (0, 0, 0), [], []), (13, .ifCond .le 14, 3, (27, 0, 0), [], []), (16, .iload_n 2, 1, (0, 0, 0), [], []), (17, .bipush 10, 2, (0, 0, 0), [], []), (19, .idiv, 1, (0, 0, 0), [], []), (20, .istore_n 2, 1, (0, 0, 0), [], []), (21, .iinc 1 (-1), 3, (0, 0, 0), [], []), (24, .goto (-19), 3, (5, 0, 0), [], []), (27, .iload_n 1, 1, (0, 0, 0), [], []), (28, .ireturn, 1, (0, 0, 0), [], [])]
def mX10_figuresOf : pM := (yX10_figuresOf, cX10_figuresOf, 3, (some .int), 1060, tX10_figuresOf)
def tX10_numberOf : List pI := [(0, .iload_n 0, 1, (0, 0, 0), [], []), (1, .istore_n 1, 1, (0, 0, 0), [], []), (2, .iload_n 1, 1, (0, 0, 0), [], [1]), (3, .bipush 10, 2, (0, 0, 0), [], []), (5, .irem, 1, (0, 0, 0), [], []), (6, .ifCond .ne 11, 3, (17, 0, 0), [], []), (9, .iload_n 1, 1, (0, 0, 0), [], []), (10, .bipush 10, 2, (0, 0, 0), [], []), (12, .idiv, 1, (0, 0, 0), [], []), (13, .istore_n 1, 1, (0, 0, 0), [], []), (14, .goto (-12), 3, (2, 0, 0), [], []), (17, .iload_n 1, 1, (0, 0, 0), [], []), (18, .ireturn, 1, (0, 0, 0), [], [])]
def mX10_numberOf : pM := (yX10_numberOf, cX10_numberOf, 2, (some .int), 1057, tX10_numberOf)
def tX10_comes : List pI := [(0, .aload_n 0, 1, (0, 0, 0), [], []), (1, .iload_n 1, 1, (0, 0, 0), [], []), (2, .iload_n 2, 1, (0, 0, 0), [], []), (3, .invokevirtual 97, 3, (129, 2, 9), [907, 909, 30, 77], []), (6, .istore 4, 2, (0, 0, 0), [], []), (8, .iload 4, 2, (0, 0, 0), [], []), (10, .ifCond .ne 6, 3, (16, 0, 0), [], []), (13, .bipush (-4), 2, (0, 0, 0), [], []), (15, .ireturn, 1, (0, 0, 0), [], []), (16, .aload_n 0, 1, (0, 0, 0), [], []), (17, .getfield 76, 3, (9, 1, 0), [932], []), (20, .istore 5, 2, (0, 0, 0), [], []), (22, .aload_n 0, 1, (0, 0, 0), [], []), (23, .dup, 1, (0, 0, 0), [], []), (24, .getfield 68, 3, (9, 0, 0), [931], []), (27, .iconst 1, 1, (0, 0, 0), [], []), (28, .iload 5, 2, (0, 0, 0), [], []), (30, .ishl, 1, (0, 0, 0), [], []), (31, .ior, 1, (0, 0, 0), [], []), (32, .putfield 68, 3, (9, 0, 0), [931], []), (35, .aload_n 0, 1, (0, 0, 0), [], []), (36, .dup, 1, (0, 0, 0), [], []), (37, .getfield 76, 3, (9, 1, 0), [932], []), (40, .iconst 1, 1, (0, 0, 0), [], []), (41, .iadd, 1, (0, 0, 0), [], []), (42, .putfield 76, 3, (9, 1, 0), [932], []), (45, .aload_n 0, 1, (0, 0, 0), [], []), (46, .getfield 7, 3, (9, 3, 0), [934], []), (49, .iload 5, 2, (0, 0, 0), [], []), (51, .iload_n 3, 1, (0, 0, 0), [], []), (52, .iastore, 1, (0, 0, 0), [], []), (53, .aload_n 0, 1, (0, 0, 0), [], []), (54, .getfield 13, 3, (9, 4, 0), [935], []), (57, .iload 5, 2, (0, 0, 0), [], []), (59, .iload_n 1, 1, (0, 0, 0), [], []), (60, .iastore, 1, (0, 0, 0), [], []), (61, .aload_n 0, 1, (0, 0, 0), [], []), (62, .getfield 16, 3, (9, 5, 0), [936], []), (65, .iload 5, 2, (0, 0, 0), [], []), (67, .iload 4, 2, (0, 0, 0), [], []), (69, .iastore, 1, (0, 0, 0), [], []), (70, .iload 5, 2, (0, 0, 0), [], []), (72, .ireturn, 1, (0, 0, 0), [], [])]
def mX10_comes : pM := (yX10_comes, cX10_comes, 6, (some .int), 906, tX10_comes)
def tX10_isOver : List pI := [(0, .iload_n 2, 1, (0, 0, 0), [], []), (1, .istore_n 3, 1, (0, 0, 0), [], []), (2, .iload_n 3, 1, (0, 0, 0), [], [0, 1, 3]), (3, .bipush (-4), 2, (0, 0, 0), [], []), (5, .if_icmp .eq 18, 3, (23, 0, 0), [], []), (8, .iload_n 3, 1, (0, 0, 0), [], []), (9, .iload_n 1, 1, (0, 0, 0), [], []), (10, .if_icmp .eq 13, 3, (23, 0, 0), [], []), (13, .aload_n 0, 1, (0, 0, 0), [], []), (14, .getfield 13, 3, (9, 4, 0), [935], []), (17, .iload_n 3, 1, (0, 0, 0), [], []), (18, .iaload, 1, (0, 0, 0), [], []), (19, .istore_n 3, 1, (0, 0, 0), [], []), (20, .goto (-18), 3, (2, 0, 0), [], []), (23, .iload_n 3, 1, (0, 0, 0), [], []), (24, .iload_n 1, 1, (0, 0, 0), [], []), (25, .if_icmp .ne 7, 3, (32, 0, 0), [], []), (28, .iconst 1, 1, (0, 0, 0), [], []), (29, .goto 4, 3, (33, 0, 0), [], []), (32, .iconst 0, 1, (0, 0, 0), [], []), (33, .ireturn, 1, (0, 0, 0), [], [])]
def mX10_isOver : pM := (yX10_isOver, cX10_isOver, 4, (some .boolean), 1043, tX10_isOver)
def tX10_belowSet : List pI := [(0, .iconst 0, 1, (0, 0, 0), [], []), (1, .istore_n 2, 1, (0, 0, 0), [], []), (2, .iconst 0, 1, (0, 0, 0), [], []), (3, .istore_n 3, 1, (0, 0, 0), [], []), (4, .iload_n 3, 1, (0, 0, 0), [], [0, 1, 2, 3]), (5, .bipush 24, 2, (0, 0, 0), [], []), (7, .if_icmp .ge 44, 3, (51, 0, 0), [], []), (10, .iload_n 2, 1, (0, 0, 0), [], []), (11, .iload_n 3, 1, (0, 0, 0), [], []), (12, .iload_n 1, 1, (0, 0, 0), [], []), (13, .if_icmp .eq 29, 3, (42, 0, 0), [], []), (16, .aload_n 0, 1, (0, 0, 0), [], []), (17, .getfield 68, 3, (9, 0, 0), [931], []), (20, .iload_n 3, 1, (0, 0, 0), [], []), (21, .invokestatic 72, 3, (121, 2, 0), [919, 920, 77], []), (24, .ifCond .eq 18, 3, (42, 0, 0), [], []), (27, .aload_n 0, 1, (0, 0, 0), [], []), (28, .iload_n 1, 1, (0, 0, 0), [], []), (29, .iload_n 3, 1, (0, 0, 0), [], []), (30, .invokevirtual 100, 3, (133, 2, 9), [1040, 1042, 40, 77], []), (33, .ifCond .eq 9, 3, (42, 0, 0), [], []), (36, .iconst 1, 1, (0, 0, 0), [], []), (37, .iload_n 3, 1, (0, 0, 0), [], []), (38, .ishl, 1, (0, 0, 0), [], []), (39, .goto 4, 3, (43, 0, 0), [], []), (42, .iconst 0, 1, (0, 0, 0), [], []), (43, .ior, 1, (0, 0, 0), [], []), (44, .istore_n 2, 1, (0, 0, 0), [], []), (45, .iinc 3 1, 3, (0, 0, 0), [], []), (48, .goto (-44), 3, (4, 0, 0), [], []), (51, .iload_n 2, 1, (0, 0, 0), [], []), (52, .ireturn, 1, (0, 0, 0), [], [])]
def mX10_belowSet : pM := (yX10_belowSet, cX10_belowSet, 4, (some .int), 1039, tX10_belowSet)
def tX10_bits : List pI := [(0, .iconst 0, 1, (0, 0, 0), [], []), (1, .istore_n 1, 1, (0, 0, 0), [], []), (2, .iconst 0, 1, (0, 0, 0), [], []), (3, .istore_n 2, 1, (0, 0, 0), [], []), (4, .iload_n 2, 1, (0, 0, 0), [], [0, 1, 2]), (5, .bipush 24, 2, (0, 0, 0), [], []), (7, .if_icmp .ge 17, 3, (24, 0, 0), [], []), (10, .iload_n 1, 1, (0, 0, 0), [], []), (11, .iload_n 0, 1, (0, 0, 0), [], []), (12, .iload_n 2, 1, (0, 0, 0), [], []), (13, .ishr, 1, (0, 0, 0), [], []), (14, .iconst 1, 1, (0, 0, 0), [], []), (15, .iand, 1, (0, 0, 0), [], []), (16, .iadd, 1, (0, 0, 0), [], []), (17, .istore_n 1, 1, (0, 0, 0), [], []), (18, .iinc 2 1, 3, (0, 0, 0), [], []), (21, .goto (-17), 3, (4, 0, 0), [], []), (24, .iload_n 1, 1, (0, 0, 0), [], []), (25, .ireturn, 1, (0, 0, 0), [], [])]
def mX10_bits : pM := (yX10_bits, cX10_bits, 3, (some .int), 1046, tX10_bits)
def tX10_deepOf : List pI := [(0, .iconst 0, 1, (0, 0, 0), [], []), (1, .istore_n 2, 1, (0, 0, 0), [], []), (2, .aload_n 0, 1, (0, 0, 0), [], []), (3, .getfield 13, 3, (9, 4, 0), [935], []), (6, .iload_n 1, 1, (0, 0, 0), [], []), (7, .iaload, 1, (0, 0, 0), [], []), (8, .istore_n 3, 1, (0, 0, 0), [], []), (9, .iload_n 3, 1, (0, 0, 0), [], [0, 2, 3]), (10, .bipush (-4), 2, (0, 0, 0), [], []), (12, .if_icmp .eq 16, 3, (28, 0, 0), [], []), (15, .iinc 2 1, 3, (0, 0, 0), [], []), (18, .aload_n 0, 1, (0, 0, 0), [], []), (19, .getfield 13, 3, (9, 4, 0), [935], []), (22, .iload_n 3, 1, (0, 0, 0), [], []), (23, .iaload, 1, (0, 0, 0), [], []), (24, .istore_n 3, 1, (0, 0, 0), [], []), (25, .goto (-16), 3, (9, 0, 0), [], []), (28, .iload_n 2, 1, (0, 0, 0), [], []), (29, .ireturn, 1, (0, 0, 0), [], [])]
def mX10_deepOf : pM := (yX10_deepOf, cX10_deepOf, 4, (some .int), 1027, tX10_deepOf)
def tX10_behind : List pI := [(0, .aload_n 0, 1, (0, 0, 0), [], []), (1, .iload_n 1, 1, (0, 0, 0), [], []), (2, .iconst 0, 1, (0, 0, 0), [], []), (3, .invokevirtual 79, 3, (126, 2, 9), [915, 917, 32, 77], []), (6, .istore_n 2, 1, (0, 0, 0), [], []), (7, .iload_n 1, 1, (0, 0, 0), [], []), (8, .istore_n 3, 1, (0, 0, 0), [], []), (9, .iload_n 2, 1, (0, 0, 0), [], [0, 2, 3]), (10, .bipush (-4), 2, (0, 0, 0), [], []), (12, .if_icmp .ne 41, 3, (53, 0, 0), [], []), (15, .aload_n 0, 1, (0, 0, 0), [], []), (16, .getfield 13, 3, (9, 4, 0), [935], []), (19, .iload_n 3, 1, (0, 0, 0), [], []), (20, .iaload, 1, (0, 0, 0), [], []), (21, .bipush (-4), 2, (0, 0, 0), [], []), (23, .if_icmp .eq 30, 3, (53, 0, 0), [], []), (26, .aload_n 0, 1, (0, 0, 0), [], []), (27, .aload_n 0, 1, (0, 0, 0), [], []), (28, .getfield 13, 3, (9, 4, 0), [935], []), (31, .iload_n 3, 1, (0, 0, 0), [], []), (32, .iaload, 1, (0, 0, 0), [], []), (33, .aload_n 0, 1, (0, 0, 0), [], []), (34, .getfield 16, 3, (9, 5, 0), [936], []), (37, .iload_n 3, 1, (0, 0, 0), [], []), (38, .iaload, 1, (0, 0, 0), [], []), (39, .invokevirtual 79, 3, (126, 2, 9), [915, 917, 32, 77], []), (42, .istore_n 2, 1, (0, 0, 0), [], []), (43, .aload_n 0, 1, (0, 0, 0), [], []), (44, .getfield 13, 3, (9, 4, 0), [935], []), (47, .iload_n 3, 1, (0, 0, 0), [], []), (48, .iaload, 1, (0, 0, 0), [], []), (49, .istore_n 3, 1, (0, 0, 0), [], []), (50, .goto (-41), 3, (9, 0, 0), [], []), (53, .iload_n 2, 1, (0, 0, 0), [], []), (54, .ireturn, 1, (0, 0, 0), [], [])]
def mX10_behind : pM := (yX10_behind, cX10_behind, 4, (some .int), 1035, tX10_behind)
def tX10_placeOf : List pI := [(0, .iconst 0, 1, (0, 0, 0), [], []), (1, .istore_n 2, 1, (0, 0, 0), [], []), (2, .iconst 0, 1, (0, 0, 0), [], []), (3, .istore_n 3, 1, (0, 0, 0), [], []), (4, .iload_n 3, 1, (0, 0, 0), [], [0, 1, 2, 3]), (5, .iload_n 1, 1, (0, 0, 0), [], []), (6, .if_icmp .eq 15, 3, (21, 0, 0), [], []), (9, .iinc 2 1, 3, (0, 0, 0), [], []), (12, .aload_n 0, 1, (0, 0, 0), [], []), (13, .iload_n 3, 1, (0, 0, 0), [], []), (14, .invokevirtual 103, 3, (137, 1, 9), [1032, 1034, 38, 77], []), (17, .istore_n 3, 1, (0, 0, 0), [], []), (18, .goto (-14), 3, (4, 0, 0), [], []), (21, .iload_n 2, 1, (0, 0, 0), [], []), (22, .ireturn, 1, (0, 0, 0), [], [])]
def mX10_placeOf : pM := (yX10_placeOf, cX10_placeOf, 4, (some .int), 1031, tX10_placeOf)
def tX10_node : List pI := [(0, .aload_n 0, 1, (0, 0, 0), [], []), (1, .iload_n 1, 1, (0, 0, 0), [], []), (2, .invokevirtual 106, 3, (122, 1, 9), [1017, 1019, 35, 77], []), (5, .ifCond .eq 12, 3, (17, 0, 0), [], []), (8, .iload_n 2, 1, (0, 0, 0), [], []), (9, .iconst 0, 1, (0, 0, 0), [], []), (10, .iconst 5, 1, (0, 0, 0), [], []), (11, .invokestatic 64, 3, (120, 3, 0), [1021, 1022, 77], []), (14, .ifCond .ne 5, 3, (19, 0, 0), [], []), (17, .iconst (-1), 1, (0, 0, 0), [], []), (18, .ireturn, 1, (0, 0, 0), [], []), (19, .iload_n 2, 1, (0, 0, 0), [], []), (20, .tableswitch 68 0 4 #[36, 43, 50, 56, 62], 36, (0, 0, 0), [], []), (56, .aload_n 0, 1, (0, 0, 0), [], []), (57, .getfield 7, 3, (9, 3, 0), [934], []), (60, .iload_n 1, 1, (0, 0, 0), [], []), (61, .iaload, 1, (0, 0, 0), [], []), (62, .ireturn, 1, (0, 0, 0), [], []), (63, .aload_n 0, 1, (0, 0, 0), [], []), (64, .getfield 13, 3, (9, 4, 0), [935], []), (67, .iload_n 1, 1, (0, 0, 0), [], []), (68, .iaload, 1, (0, 0, 0), [], []), (69, .ireturn, 1, (0, 0, 0), [], []), (70, .aload_n 0, 1, (0, 0, 0), [], []), (71, .iload_n 1, 1, (0, 0, 0), [], []), (72, .invokevirtual 90, 3, (125, 1, 9), [922, 924, 33, 77], []), (75, .ireturn, 1, (0, 0, 0), [], []), (76, .aload_n 0, 1, (0, 0, 0), [], []), (77, .iload_n 1, 1, (0, 0, 0), [], []), (78, .invokevirtual 110, 3, (136, 1, 9), [1024, 1026, 36, 77], []), (81, .ireturn, 1, (0, 0, 0), [], []), (82, .aload_n 0, 1, (0, 0, 0), [], []), (83, .iload_n 1, 1, (0, 0, 0), [], []), (84, .invokevirtual 113, 3, (138, 1, 9), [1028, 1030, 37, 77], []), (87, .ireturn, 1, (0, 0, 0), [], []), (88, .aload_n 0, 1, (0, 0, 0), [], []), (89, .iload_n 1, 1, (0, 0, 0), [], []), (90, .invokevirtual 116, 3, (134, 1, 9), [1036, 1038, 39, 77], []), (93, .invokestatic 119, 3, (135, 1, 0), [1044, 1045, 77], []), (96, .ireturn, 1, (0, 0, 0), [], [])]
def mX10_node : pM := (yX10_node, cX10_node, 3, (some .int), 1016, tX10_node)
def tX10_child : List pI := [(0, .aload_n 0, 1, (0, 0, 0), [], []), (1, .iload_n 1, 1, (0, 0, 0), [], []), (2, .invokevirtual 106, 3, (122, 1, 9), [1017, 1019, 35, 77], []), (5, .ifCond .eq 7, 3, (12, 0, 0), [], []), (8, .iload_n 2, 1, (0, 0, 0), [], []), (9, .ifCond .ge 5, 3, (14, 0, 0), [], []), (12, .iconst (-1), 1, (0, 0, 0), [], []), (13, .ireturn, 1, (0, 0, 0), [], []), (14, .iload_n 2, 1, (0, 0, 0), [], []), (15, .bipush 24, 2, (0, 0, 0), [], []), (17, .if_icmp .ge 12, 3, (29, 0, 0), [], []), (20, .aload_n 0, 1, (0, 0, 0), [], []), (21, .iload_n 1, 1, (0, 0, 0), [], []), (22, .iload_n 2, 1, (0, 0, 0), [], []), (23, .invokevirtual 87, 3, (127, 2, 9), [911, 913, 31, 77], []), (26, .goto 5, 3, (31, 0, 0), [], []), (29, .bipush (-4), 2, (0, 0, 0), [], []), (31, .ireturn, 1, (0, 0, 0), [], [])]
def mX10_child : pM := (yX10_child, cX10_child, 3, (some .int), 1050, tX10_child)
def tX10_key : List pI := [(0, .aload_n 0, 1, (0, 0, 0), [], []), (1, .iload_n 1, 1, (0, 0, 0), [], []), (2, .invokevirtual 106, 3, (122, 1, 9), [1017, 1019, 35, 77], []), (5, .ifCond .eq 16, 3, (21, 0, 0), [], []), (8, .iload_n 2, 1, (0, 0, 0), [], []), (9, .ifCond .lt 12, 3, (21, 0, 0), [], []), (12, .iload_n 3, 1, (0, 0, 0), [], []), (13, .iconst 0, 1, (0, 0, 0), [], []), (14, .iconst 1, 1, (0, 0, 0), [], []), (15, .invokestatic 64, 3, (120, 3, 0), [1021, 1022, 77], []), (18, .ifCond .ne 5, 3, (23, 0, 0), [], []), (21, .iconst (-1), 1, (0, 0, 0), [], []), (22, .ireturn, 1, (0, 0, 0), [], []), (23, .aload_n 0, 1, (0, 0, 0), [], []), (24, .iload_n 1, 1, (0, 0, 0), [], []), (25, .invokevirtual 110, 3, (136, 1, 9), [1024, 1026, 36, 77], []), (28, .istore 4, 2, (0, 0, 0), [], []), (30, .iload_n 2, 1, (0, 0, 0), [], []), (31, .iload 4, 2, (0, 0, 0), [], []), (33, .if_icmp .lt 6, 3, (39, 0, 0), [], []), (36, .bipush (-4), 2, (0, 0, 0), [], []), (38, .ireturn, 1, (0, 0, 0), [], []), (39, .iload_n 1, 1, (0, 0, 0), [], []), (40, .istore 5, 2, (0, 0, 0), [], []), (42, .iload 4, 2, (0, 0, 0), [], []), (44, .iconst 1, 1, (0, 0, 0), [], []), (45, .isub, 1, (0, 0, 0), [], []), (46, .istore 6, 2, (0, 0, 0), [], []), (48, .iload 6, 2, (0, 0, 0), [], [0, 2, 3, 5, 6]), (50, .iload_n 2, 1, (0, 0, 0), [], []), (51, .if_icmp .le 18, 3, (69, 0, 0), [], []), (54, .aload_n 0, 1, (0, 0, 0), [], []), (55, .getfield 13, 3, (9, 4, 0), [935], []), (58, .iload 5, 2, (0, 0, 0), [], []), (60, .iaload, 1, (0, 0, 0), [], []), (61, .istore 5, 2, (0, 0, 0), [], []), (63, .iinc 6 (-1), 3, (0, 0, 0), [], []), (66, .goto (-18), 3, (48, 0, 0), [], []), (69, .iload_n 3, 1, (0, 0, 0), [], []), (70, .ifCond .ne 16, 3, (86, 0, 0), [], []), (73, .aload_n 0, 1, (0, 0, 0), [], []), (74, .getfield 16, 3, (9, 5, 0), [936], []), (77, .iload 5, 2, (0, 0, 0), [], []), (79, .iaload, 1, (0, 0, 0), [], []), (80, .invokestatic 122, 3, (131, 1, 0), [1055, 1056, 77], []), (83, .goto 13, 3, (96, 0, 0), [], []), (86, .aload_n 0, 1, (0, 0, 0), [], []), (87, .getfield 16, 3, (9, 5, 0), [936], []), (90, .iload 5, 2, (0, 0, 0), [], []), (92, .iaload, 1, (0, 0, 0), [], []), (93, .invokestatic 125, 3, (130, 1, 0), [1058, 1059, 77], []), (96, .ireturn, 1, (0, 0, 0), [], [])]
def mX10_key : pM := (yX10_key, cX10_key, 7, (some .int), 1054, tX10_key)
def tX10_at : List pI := [(0, .iload_n 1, 1, (0, 0, 0), [], []), (1, .ifCond .ge 5, 3, (6, 0, 0), [], []), (4, .iconst (-1), 1, (0, 0, 0), [], []), (5, .ireturn, 1, (0, 0, 0), [], []), (6, .iconst 0, 1, (0, 0, 0), [], []), (7, .istore_n 2, 1, (0, 0, 0), [], []), (8, .iconst 0, 1, (0, 0, 0), [], []), (9, .istore_n 3, 1, (0, 0, 0), [], []), (10, .iload_n 3, 1, (0, 0, 0), [], [0, 1, 2, 3]), (11, .iload_n 1, 1, (0, 0, 0), [], []), (12, .if_icmp .ge 21, 3, (33, 0, 0), [], []), (15, .iload_n 2, 1, (0, 0, 0), [], []), (16, .bipush (-4), 2, (0, 0, 0), [], []), (18, .if_icmp .eq 15, 3, (33, 0, 0), [], []), (21, .aload_n 0, 1, (0, 0, 0), [], []), (22, .iload_n 2, 1, (0, 0, 0), [], []), (23, .invokevirtual 103, 3, (137, 1, 9), [1032, 1034, 38, 77], []), (26, .istore_n 2, 1, (0, 0, 0), [], []), (27, .iinc 3 1, 3, (0, 0, 0), [], []), (30, .goto (-20), 3, (10, 0, 0), [], []), (33, .iload_n 2, 1, (0, 0, 0), [], []), (34, .ireturn, 1, (0, 0, 0), [], [])]
def mX10_at : pM := (yX10_at, cX10_at, 4, (some .int), 1064, tX10_at)
def tX10_lays : List pI := [(0, .aload_n 1, 1, (0, 0, 0), [], []), (1, .iload_n 2, 1, (0, 0, 0), [], []), (2, .aload_n 0, 1, (0, 0, 0), [], []), (3, .getfield 68, 3, (9, 0, 0), [931], []), (6, .iastore, 1, (0, 0, 0), [], []), (7, .aload_n 1, 1, (0, 0, 0), [], []), (8, .iload_n 2, 1, (0, 0, 0), [], []), (9, .iconst 1, 1, (0, 0, 0), [], []), (10, .iadd, 1, (0, 0, 0), [], []), (11, .aload_n 0, 1, (0, 0, 0), [], []), (12, .getfield 76, 3, (9, 1, 0), [932], []), (15, .iastore, 1, (0, 0, 0), [], []), (16, .aload_n 1, 1, (0, 0, 0), [], []), (17, .iload_n 2, 1, (0, 0, 0), [], []), (18, .iconst 2, 1, (0, 0, 0), [], []), (19, .iadd, 1, (0, 0, 0), [], []), (20, .aload_n 0, 1, (0, 0, 0), [], []), (21, .getfield 84, 3, (9, 2, 0), [933], []), (24, .iastore, 1, (0, 0, 0), [], []), (25, .iconst 0, 1, (0, 0, 0), [], []), (26, .istore_n 3, 1, (0, 0, 0), [], []), (27, .iload_n 3, 1, (0, 0, 0), [], [0, 1, 2, 3]), (28, .bipush 24, 2, (0, 0, 0), [], []), (30, .if_icmp .ge 50, 3, (80, 0, 0), [], []), (33, .aload_n 1, 1, (0, 0, 0), [], []), (34, .iload_n 2, 1, (0, 0, 0), [], []), (35, .iconst 3, 1, (0, 0, 0), [], []), (36, .iadd, 1, (0, 0, 0), [], []), (37, .iload_n 3, 1, (0, 0, 0), [], []), (38, .iadd, 1, (0, 0, 0), [], []), (39, .aload_n 0, 1, (0, 0, 0), [], []), (40, .getfield 7, 3, (9, 3, 0), [934], []), (43, .iload_n 3, 1, (0, 0, 0), [], []), (44, .iaload, 1, (0, 0, 0), [], []), (45, .iastore, 1, (0, 0, 0), [], []), (46, .aload_n 1, 1, (0, 0, 0), [], []), (47, .iload_n 2, 1, (0, 0, 0), [], []), (48, .bipush 27, 2, (0, 0, 0), [], []), (50, .iadd, 1, (0, 0, 0), [], []), (51, .iload_n 3, 1, (0, 0, 0), [], []), (52, .iadd, 1, (0, 0, 0), [], []), (53, .aload_n 0, 1, (0, 0, 0), [], []), (54, .getfield 13, 3, (9, 4, 0), [935], []), (57, .iload_n 3, 1, (0, 0, 0), [], []), (58, .iaload, 1, (0, 0, 0), [], []), (59, .iastore, 1, (0, 0, 0), [], []), (60, .aload_n 1, 1, (0, 0, 0), [], []), (61, .iload_n 2, 1, (0, 0, 0), [], []), (62, .bipush 51, 2, (0, 0, 0), [], []), (64, .iadd, 1, (0, 0, 0), [], []), (65, .iload_n 3, 1, (0, 0, 0), [], []), (66, .iadd, 1, (0, 0, 0), [], []), (67, .aload_n 0, 1, (0, 0, 0), [], []), (68, .getfield 16, 3, (9, 5, 0), [936], []), (71, .iload_n 3, 1, (0, 0, 0), [], []), (72, .iaload, 1, (0, 0, 0), [], []), (73, .iastore, 1, (0, 0, 0), [], []), (74, .iinc 3 1, 3, (0, 0, 0), [], []), (77, .goto (-50), 3, (27, 0, 0), [], []), (80, .return_, 1, (0, 0, 0), [], [])]
def mX10_lays : pM := (yX10_lays, cX10_lays, 4, none, 1079, tX10_lays)
def tX10_takes : List pI := [(0, .aload_n 0, 1, (0, 0, 0), [], []), (1, .aload_n 1, 1, (0, 0, 0), [], []), (2, .iload_n 2, 1, (0, 0, 0), [], []), (3, .iaload, 1, (0, 0, 0), [], []), (4, .putfield 68, 3, (9, 0, 0), [931], []), (7, .aload_n 0, 1, (0, 0, 0), [], []), (8, .aload_n 1, 1, (0, 0, 0), [], []), (9, .iload_n 2, 1, (0, 0, 0), [], []), (10, .iconst 1, 1, (0, 0, 0), [], []), (11, .iadd, 1, (0, 0, 0), [], []), (12, .iaload, 1, (0, 0, 0), [], []), (13, .putfield 76, 3, (9, 1, 0), [932], []), (16, .aload_n 0, 1, (0, 0, 0), [], []), (17, .aload_n 1, 1, (0, 0, 0), [], []), (18, .iload_n 2, 1, (0, 0, 0), [], []), (19, .iconst 2, 1, (0, 0, 0), [], []), (20, .iadd, 1, (0, 0, 0), [], []), (21, .iaload, 1, (0, 0, 0), [], []), (22, .putfield 84, 3, (9, 2, 0), [933], []), (25, .iconst 0, 1, (0, 0, 0), [], []), (26, .istore_n 3, 1, (0, 0, 0), [], []), (27, .iload_n 3, 1, (0, 0, 0), [], [0, 1, 2, 3]), (28, .bipush 24, 2, (0, 0, 0), [], []), (30, .if_icmp .ge 50, 3, (80, 0, 0), [], []), (33, .aload_n 0, 1, (0, 0, 0), [], []), (34, .getfield 7, 3, (9, 3, 0), [934], []), (37, .iload_n 3, 1, (0, 0, 0), [], []), (38, .aload_n 1, 1, (0, 0, 0), [], []), (39, .iload_n 2, 1, (0, 0, 0), [], []), (40, .iconst 3, 1, (0, 0, 0), [], []), (41, .iadd, 1, (0, 0, 0), [], []), (42, .iload_n 3, 1, (0, 0, 0), [], []), (43, .iadd, 1, (0, 0, 0), [], []), (44, .iaload, 1, (0, 0, 0), [], []), (45, .iastore, 1, (0, 0, 0), [], []), (46, .aload_n 0, 1, (0, 0, 0), [], []), (47, .getfield 13, 3, (9, 4, 0), [935], []), (50, .iload_n 3, 1, (0, 0, 0), [], []), (51, .aload_n 1, 1, (0, 0, 0), [], []), (52, .iload_n 2, 1, (0, 0, 0), [], []), (53, .bipush 27, 2, (0, 0, 0), [], []), (55, .iadd, 1, (0, 0, 0), [], []), (56, .iload_n 3, 1, (0, 0, 0), [], []), (57, .iadd, 1, (0, 0, 0), [], []), (58, .iaload, 1, (0, 0, 0), [], []), (59, .iastore, 1, (0, 0, 0), [], []), (60, .aload_n 0, 1, (0, 0, 0), [], []), (61, .getfield 16, 3, (9, 5, 0), [936], []), (64, .iload_n 3, 1, (0, 0, 0), [], []), (65, .aload_n 1, 1, (0, 0, 0), [], []), (66, .iload_n 2, 1, (0, 0, 0), [], []), (67, .bipush 51, 2, (0, 0, 0), [], []), (69, .iadd, 1, (0, 0, 0), [], []), (70, .iload_n 3, 1, (0, 0, 0), [], []), (71, .iadd, 1, (0, 0, 0), [], []), (72, .iaload, 1, (0, 0, 0), [], []), (73, .iastore, 1, (0, 0, 0), [], []), (74, .iinc 3 1, 3, (0, 0, 0), [], []), (77, .goto (-50), 3, (27, 0, 0), [], []), (80, .return_, 1, (0, 0, 0), [], [])]
def mX10_takes : pM := (yX10_takes, cX10_takes, 4, none, 1095, tX10_takes)
def tX10_notes : List pI := [(0, .aload_n 0, 1, (0, 0, 0), [], []), (1, .getfield 128, 3, (9, 7, 0), [938], []), (4, .bipush 8, 2, (0, 0, 0), [], []), (6, .if_icmp .ne 43, 3, (49, 0, 0), [], []), (9, .iconst 0, 1, (0, 0, 0), [], []), (10, .istore_n 1, 1, (0, 0, 0), [], []), (11, .iload_n 1, 1, (0, 0, 0), [], [0, 1]), (12, .sipush 525, 3, (0, 0, 0), [], []), (15, .if_icmp .ge 24, 3, (39, 0, 0), [], []), (18, .aload_n 0, 1, (0, 0, 0), [], []), (19, .getfield 19, 3, (9, 6, 0), [937], []), (22, .iload_n 1, 1, (0, 0, 0), [], []), (23, .aload_n 0, 1, (0, 0, 0), [], []), (24, .getfield 19, 3, (9, 6, 0), [937], []), (27, .iload_n 1, 1, (0, 0, 0), [], []), (28, .bipush 75, 2, (0, 0, 0), [], []), (30, .iadd, 1, (0, 0, 0), [], []), (31, .iaload, 1, (0, 0, 0), [], []), (32, .iastore, 1, (0, 0, 0), [], []), (33, .iinc 1 1, 3, (0, 0, 0), [], []), (36, .goto (-25), 3, (11, 0, 0), [], []), (39, .aload_n 0, 1, (0, 0, 0), [], []), (40, .dup, 1, (0, 0, 0), [], []), (41, .getfield 128, 3, (9, 7, 0), [938], []), (44, .iconst 1, 1, (0, 0, 0), [], []), (45, .isub, 1, (0, 0, 0), [], []), (46, .putfield 128, 3, (9, 7, 0), [938], []), (49, .aload_n 0, 1, (0, 0, 0), [], []), (50, .aload_n 0, 1, (0, 0, 0), [], []), (51, .getfield 19, 3, (9, 6, 0), [937], []), (54, .bipush 75, 2, (0, 0, 0), [], []), (56, .aload_n 0, 1, (0, 0, 0), [], []), (57, .getfield 128, 3, (9, 7, 0), [938], []), (60, .imul, 1, (0, 0, 0), [], []), (61, .invokevirtual 131, 3, (143, 2, 9), [1076, 1078, 42, 77], []), (64, .aload_n 0, 1, (0, 0, 0), [], []), (65, .dup, 1, (0, 0, 0), [], []), (66, .getfield 128, 3, (9, 7, 0), [938], []), (69, .iconst 1, 1, (0, 0, 0), [], []), (70, .iadd, 1, (0, 0, 0), [], []), (71, .putfield 128, 3, (9, 7, 0), [938], []), (74, .return_, 1, (0, 0, 0), [], [])]
def mX10_notes : pM := (yX10_notes, cX10_notes, 2, none, 1075, tX10_notes)
def tX10_grow : List pI := [(0, .aload_n 0, 1, (0, 0, 0), [], []), (1, .iload_n 1, 1, (0, 0, 0), [], []), (2, .invokevirtual 106, 3, (122, 1, 9), [1017, 1019, 35, 77], []), (5, .ifCond .eq 23, 3, (28, 0, 0), [], []), (8, .iload_n 2, 1, (0, 0, 0), [], []), (9, .iconst 0, 1, (0, 0, 0), [], []), (10, .aload_n 0, 1, (0, 0, 0), [], []), (11, .iload_n 1, 1, (0, 0, 0), [], []), (12, .invokevirtual 90, 3, (125, 1, 9), [922, 924, 33, 77], []), (15, .invokestatic 64, 3, (120, 3, 0), [1021, 1022, 77], []), (18, .ifCond .eq 10, 3, (28, 0, 0), [], []), (21, .iload_n 3, 1, (0, 0, 0), [], []), (22, .invokestatic 135, 3, (123, 1, 0), [1069, 1070, 77], []), (25, .ifCond .ne 5, 3, (30, 0, 0), [], []), (28, .iconst (-1), 1, (0, 0, 0), [], []), (29, .ireturn, 1, (0, 0, 0), [], []), (30, .aload_n 0, 1, (0, 0, 0), [], []), (31, .getfield 76, 3, (9, 1, 0), [932], []), (34, .bipush 24, 2, (0, 0, 0), [], []), (36, .if_icmp .ne 6, 3, (42, 0, 0), [], []), (39, .bipush (-3), 2, (0, 0, 0), [], []), (41, .ireturn, 1, (0, 0, 0), [], []), (42, .aload_n 0, 1, (0, 0, 0), [], []), (43, .iload_n 1, 1, (0, 0, 0), [], []), (44, .iload_n 2, 1, (0, 0, 0), [], []), (45, .invokevirtual 97, 3, (129, 2, 9), [907, 909, 30, 77], []), (48, .ifCond .ne 6, 3, (54, 0, 0), [], []), (51, .bipush (-2), 2, (0, 0, 0), [], []), (53, .ireturn, 1, (0, 0, 0), [], []), (54, .aload_n 0, 1, (0, 0, 0), [], []), (55, .invokevirtual 138, 3, (145, 0, 9), [1072, 1074, 41, 77], []), (58, .aload_n 0, 1, (0, 0, 0), [], []), (59, .iload_n 1, 1, (0, 0, 0), [], []), (60, .iload_n 2, 1, (0, 0, 0), [], []), (61, .iload_n 3, 1, (0, 0, 0), [], []), (62, .invokevirtual 60, 3, (132, 3, 9), [903, 905, 29, 77], []), (65, .ireturn, 1, (0, 0, 0), [], [])]
def mX10_grow : pM := (yX10_grow, cX10_grow, 4, (some .int), 1068, tX10_grow)
def tX10_cut : List pI := [(0, .aload_n 0, 1, (0, 0, 0), [], []), (1, .iload_n 1, 1, (0, 0, 0), [], []), (2, .invokevirtual 106, 3, (122, 1, 9), [1017, 1019, 35, 77], []), (5, .ifCond .ne 5, 3, (10, 0, 0), [], []), (8, .iconst (-1), 1, (0, 0, 0), [], []), (9, .ireturn, 1, (0, 0, 0), [], []), (10, .iload_n 1, 1, (0, 0, 0), [], []), (11, .ifCond .ne 6, 3, (17, 0, 0), [], []), (14, .bipush (-2), 2, (0, 0, 0), [], []), (16, .ireturn, 1, (0, 0, 0), [], []), (17, .aload_n 0, 1, (0, 0, 0), [], []), (18, .invokevirtual 138, 3, (145, 0, 9), [1072, 1074, 41, 77], []), (21, .aload_n 0, 1, (0, 0, 0), [], []), (22, .iload_n 1, 1, (0, 0, 0), [], []), (23, .invokevirtual 116, 3, (134, 1, 9), [1036, 1038, 39, 77], []), (26, .iconst 1, 1, (0, 0, 0), [], []), (27, .iload_n 1, 1, (0, 0, 0), [], []), (28, .ishl, 1, (0, 0, 0), [], []), (29, .ior, 1, (0, 0, 0), [], []), (30, .istore_n 2, 1, (0, 0, 0), [], []), (31, .aload_n 0, 1, (0, 0, 0), [], []), (32, .dup, 1, (0, 0, 0), [], []), (33, .getfield 68, 3, (9, 0, 0), [931], []), (36, .iload_n 2, 1, (0, 0, 0), [], []), (37, .iconst (-1), 1, (0, 0, 0), [], []), (38, .ixor, 1, (0, 0, 0), [], []), (39, .iand, 1, (0, 0, 0), [], []), (40, .putfield 68, 3, (9, 0, 0), [931], []), (43, .iload_n 2, 1, (0, 0, 0), [], []), (44, .invokestatic 119, 3, (135, 1, 0), [1044, 1045, 77], []), (47, .ireturn, 1, (0, 0, 0), [], [])]
def mX10_cut : pM := (yX10_cut, cX10_cut, 3, (some .int), 1083, tX10_cut)
def tX10_tag : List pI := [(0, .aload_n 0, 1, (0, 0, 0), [], []), (1, .iload_n 1, 1, (0, 0, 0), [], []), (2, .invokevirtual 106, 3, (122, 1, 9), [1017, 1019, 35, 77], []), (5, .ifCond .eq 10, 3, (15, 0, 0), [], []), (8, .iload_n 2, 1, (0, 0, 0), [], []), (9, .invokestatic 135, 3, (123, 1, 0), [1069, 1070, 77], []), (12, .ifCond .ne 5, 3, (17, 0, 0), [], []), (15, .iconst (-1), 1, (0, 0, 0), [], []), (16, .ireturn, 1, (0, 0, 0), [], []), (17, .aload_n 0, 1, (0, 0, 0), [], []), (18, .getfield 7, 3, (9, 3, 0), [934], []), (21, .iload_n 1, 1, (0, 0, 0), [], []), (22, .iaload, 1, (0, 0, 0), [], []), (23, .istore_n 3, 1, (0, 0, 0), [], []), (24, .iload_n 3, 1, (0, 0, 0), [], []), (25, .iload_n 2, 1, (0, 0, 0), [], []), (26, .if_icmp .ne 6, 3, (32, 0, 0), [], []), (29, .bipush (-2), 2, (0, 0, 0), [], []), (31, .ireturn, 1, (0, 0, 0), [], []), (32, .aload_n 0, 1, (0, 0, 0), [], []), (33, .invokevirtual 138, 3, (145, 0, 9), [1072, 1074, 41, 77], []), (36, .aload_n 0, 1, (0, 0, 0), [], []), (37, .getfield 7, 3, (9, 3, 0), [934], []), (40, .iload_n 1, 1, (0, 0, 0), [], []), (41, .iload_n 2, 1, (0, 0, 0), [], []), (42, .iastore, 1, (0, 0, 0), [], []), (43, .iload_n 3, 1, (0, 0, 0), [], []), (44, .ireturn, 1, (0, 0, 0), [], [])]
def mX10_tag : pM := (yX10_tag, cX10_tag, 4, (some .int), 1087, tX10_tag)
def tX10_undo : List pI := [(0, .aload_n 0, 1, (0, 0, 0), [], []), (1, .getfield 128, 3, (9, 7, 0), [938], []), (4, .ifCond .ne 6, 3, (10, 0, 0), [], []), (7, .bipush (-2), 2, (0, 0, 0), [], []), (9, .ireturn, 1, (0, 0, 0), [], []), (10, .aload_n 0, 1, (0, 0, 0), [], []), (11, .dup, 1, (0, 0, 0), [], []), (12, .getfield 128, 3, (9, 7, 0), [938], []), (15, .iconst 1, 1, (0, 0, 0), [], []), (16, .isub, 1, (0, 0, 0), [], []), (17, .putfield 128, 3, (9, 7, 0), [938], []), (20, .aload_n 0, 1, (0, 0, 0), [], []), (21, .aload_n 0, 1, (0, 0, 0), [], []), (22, .getfield 19, 3, (9, 6, 0), [937], []), (25, .bipush 75, 2, (0, 0, 0), [], []), (27, .aload_n 0, 1, (0, 0, 0), [], []), (28, .getfield 128, 3, (9, 7, 0), [938], []), (31, .imul, 1, (0, 0, 0), [], []), (32, .invokevirtual 141, 3, (144, 2, 9), [1092, 1094, 43, 77], []), (35, .aload_n 0, 1, (0, 0, 0), [], []), (36, .getfield 128, 3, (9, 7, 0), [938], []), (39, .ireturn, 1, (0, 0, 0), [], [])]
def mX10_undo : pM := (yX10_undo, cX10_undo, 1, (some .int), 1091, tX10_undo)
def tX10_keep : List pI := [(0, .aload_n 0, 1, (0, 0, 0), [], []), (1, .getfield 144, 3, (9, 9, 0), [940], []), (4, .iconst 2, 1, (0, 0, 0), [], []), (5, .if_icmp .ne 6, 3, (11, 0, 0), [], []), (8, .bipush (-3), 2, (0, 0, 0), [], []), (10, .ireturn, 1, (0, 0, 0), [], []), (11, .aload_n 0, 1, (0, 0, 0), [], []), (12, .aload_n 0, 1, (0, 0, 0), [], []), (13, .getfield 22, 3, (9, 8, 0), [939], []), (16, .bipush 75, 2, (0, 0, 0), [], []), (18, .aload_n 0, 1, (0, 0, 0), [], []), (19, .getfield 144, 3, (9, 9, 0), [940], []), (22, .imul, 1, (0, 0, 0), [], []), (23, .invokevirtual 131, 3, (143, 2, 9), [1076, 1078, 42, 77], []), (26, .aload_n 0, 1, (0, 0, 0), [], []), (27, .dup, 1, (0, 0, 0), [], []), (28, .getfield 144, 3, (9, 9, 0), [940], []), (31, .iconst 1, 1, (0, 0, 0), [], []), (32, .iadd, 1, (0, 0, 0), [], []), (33, .putfield 144, 3, (9, 9, 0), [940], []), (36, .aload_n 0, 1, (0, 0, 0), [], []), (37, .getfield 144, 3, (9, 9, 0), [940], []), (40, .ireturn, 1, (0, 0, 0), [], [])]
def mX10_keep : pM := (yX10_keep, cX10_keep, 1, (some .int), 1099, tX10_keep)
def tX10_back : List pI := [(0, .aload_n 0, 1, (0, 0, 0), [], []), (1, .getfield 144, 3, (9, 9, 0), [940], []), (4, .ifCond .ne 6, 3, (10, 0, 0), [], []), (7, .bipush (-2), 2, (0, 0, 0), [], []), (9, .ireturn, 1, (0, 0, 0), [], []), (10, .aload_n 0, 1, (0, 0, 0), [], []), (11, .dup, 1, (0, 0, 0), [], []), (12, .getfield 144, 3, (9, 9, 0), [940], []), (15, .iconst 1, 1, (0, 0, 0), [], []), (16, .isub, 1, (0, 0, 0), [], []), (17, .putfield 144, 3, (9, 9, 0), [940], []), (20, .aload_n 0, 1, (0, 0, 0), [], []), (21, .aload_n 0, 1, (0, 0, 0), [], []), (22, .getfield 22, 3, (9, 8, 0), [939], []), (25, .bipush 75, 2, (0, 0, 0), [], []), (27, .aload_n 0, 1, (0, 0, 0), [], []), (28, .getfield 144, 3, (9, 9, 0), [940], []), (31, .imul, 1, (0, 0, 0), [], []), (32, .invokevirtual 141, 3, (144, 2, 9), [1092, 1094, 43, 77], []), (35, .aload_n 0, 1, (0, 0, 0), [], []), (36, .iconst 0, 1, (0, 0, 0), [], []), (37, .putfield 128, 3, (9, 7, 0), [938], []), (40, .aload_n 0, 1, (0, 0, 0), [], []), (41, .getfield 144, 3, (9, 9, 0), [940], []), (44, .ireturn, 1, (0, 0, 0), [], [])]
def mX10_back : pM := (yX10_back, cX10_back, 1, (some .int), 1103, tX10_back)
def tX10_between : List pI := [(0, .aload_n 0, 1, (0, 0, 0), [], []), (1, .iload_n 1, 1, (0, 0, 0), [], []), (2, .invokevirtual 106, 3, (122, 1, 9), [1017, 1019, 35, 77], []), (5, .ifCond .eq 25, 3, (30, 0, 0), [], []), (8, .iload_n 2, 1, (0, 0, 0), [], []), (9, .iconst 0, 1, (0, 0, 0), [], []), (10, .aload_n 0, 1, (0, 0, 0), [], []), (11, .iload_n 1, 1, (0, 0, 0), [], []), (12, .invokevirtual 90, 3, (125, 1, 9), [922, 924, 33, 77], []), (15, .invokestatic 64, 3, (120, 3, 0), [1021, 1022, 77], []), (18, .ifCond .eq 12, 3, (30, 0, 0), [], []), (21, .iload_n 3, 1, (0, 0, 0), [], []), (22, .iconst 0, 1, (0, 0, 0), [], []), (23, .iconst 1, 1, (0, 0, 0), [], []), (24, .invokestatic 64, 3, (120, 3, 0), [1021, 1022, 77], []), (27, .ifCond .ne 5, 3, (32, 0, 0), [], []), (30, .iconst (-1), 1, (0, 0, 0), [], []), (31, .ireturn, 1, (0, 0, 0), [], []), (32, .aload_n 0, 1, (0, 0, 0), [], []), (33, .iload_n 1, 1, (0, 0, 0), [], []), (34, .iload_n 2, 1, (0, 0, 0), [], []), (35, .invokevirtual 97, 3, (129, 2, 9), [907, 909, 30, 77], []), (38, .istore 4, 2, (0, 0, 0), [], []), (40, .iload 4, 2, (0, 0, 0), [], []), (42, .ifCond .ne 8, 3, (50, 0, 0), [], []), (45, .bipush (-4), 2, (0, 0, 0), [], []), (47, .goto 20, 3, (67, 0, 0), [], []), (50, .iload_n 3, 1, (0, 0, 0), [], []), (51, .ifCond .ne 11, 3, (62, 0, 0), [], []), (54, .iload 4, 2, (0, 0, 0), [], []), (56, .invokestatic 122, 3, (131, 1, 0), [1055, 1056, 77], []), (59, .goto 8, 3, (67, 0, 0), [], []), (62, .iload 4, 2, (0, 0, 0), [], []), (64, .invokestatic 125, 3, (130, 1, 0), [1058, 1059, 77], []), (67, .ireturn, 1, (0, 0, 0), [], [])]
def mX10_between : pM := (yX10_between, cX10_between, 5, (some .int), 1107, tX10_between)
def tX10_ahead : List pI := [(0, .aload_n 0, 1, (0, 0, 0), [], []), (1, .iload_n 1, 1, (0, 0, 0), [], []), (2, .invokevirtual 106, 3, (122, 1, 9), [1017, 1019, 35, 77], []), (5, .ifCond .eq 11, 3, (16, 0, 0), [], []), (8, .aload_n 0, 1, (0, 0, 0), [], []), (9, .iload_n 2, 1, (0, 0, 0), [], []), (10, .invokevirtual 106, 3, (122, 1, 9), [1017, 1019, 35, 77], []), (13, .ifCond .ne 5, 3, (18, 0, 0), [], []), (16, .iconst (-1), 1, (0, 0, 0), [], []), (17, .ireturn, 1, (0, 0, 0), [], []), (18, .aload_n 0, 1, (0, 0, 0), [], []), (19, .iload_n 1, 1, (0, 0, 0), [], []), (20, .invokevirtual 113, 3, (138, 1, 9), [1028, 1030, 37, 77], []), (23, .aload_n 0, 1, (0, 0, 0), [], []), (24, .iload_n 2, 1, (0, 0, 0), [], []), (25, .invokevirtual 113, 3, (138, 1, 9), [1028, 1030, 37, 77], []), (28, .if_icmp .ge 7, 3, (35, 0, 0), [], []), (31, .iconst 1, 1, (0, 0, 0), [], []), (32, .goto 4, 3, (36, 0, 0), [], []), (35, .iconst 0, 1, (0, 0, 0), [], []), (36, .ireturn, 1, (0, 0, 0), [], [])]
def mX10_ahead : pM := (yX10_ahead, cX10_ahead, 3, (some .int), 1111, tX10_ahead)
def tX10_above : List pI := [(0, .aload_n 0, 1, (0, 0, 0), [], []), (1, .iload_n 1, 1, (0, 0, 0), [], []), (2, .invokevirtual 106, 3, (122, 1, 9), [1017, 1019, 35, 77], []), (5, .ifCond .eq 11, 3, (16, 0, 0), [], []), (8, .aload_n 0, 1, (0, 0, 0), [], []), (9, .iload_n 2, 1, (0, 0, 0), [], []), (10, .invokevirtual 106, 3, (122, 1, 9), [1017, 1019, 35, 77], []), (13, .ifCond .ne 5, 3, (18, 0, 0), [], []), (16, .iconst (-1), 1, (0, 0, 0), [], []), (17, .ireturn, 1, (0, 0, 0), [], []), (18, .iload_n 1, 1, (0, 0, 0), [], []), (19, .iload_n 2, 1, (0, 0, 0), [], []), (20, .if_icmp .eq 16, 3, (36, 0, 0), [], []), (23, .aload_n 0, 1, (0, 0, 0), [], []), (24, .iload_n 1, 1, (0, 0, 0), [], []), (25, .iload_n 2, 1, (0, 0, 0), [], []), (26, .invokevirtual 100, 3, (133, 2, 9), [1040, 1042, 40, 77], []), (29, .ifCond .eq 7, 3, (36, 0, 0), [], []), (32, .iconst 1, 1, (0, 0, 0), [], []), (33, .goto 4, 3, (37, 0, 0), [], []), (36, .iconst 0, 1, (0, 0, 0), [], []), (37, .ireturn, 1, (0, 0, 0), [], [])]
def mX10_above : pM := (yX10_above, cX10_above, 3, (some .int), 1115, tX10_above)
def tX10_meet : List pI := [(0, .aload_n 0, 1, (0, 0, 0), [], []), (1, .iload_n 1, 1, (0, 0, 0), [], []), (2, .invokevirtual 106, 3, (122, 1, 9), [1017, 1019, 35, 77], []), (5, .ifCond .eq 11, 3, (16, 0, 0), [], []), (8, .aload_n 0, 1, (0, 0, 0), [], []), (9, .iload_n 2, 1, (0, 0, 0), [], []), (10, .invokevirtual 106, 3, (122, 1, 9), [1017, 1019, 35, 77], []), (13, .ifCond .ne 5, 3, (18, 0, 0), [], []), (16, .iconst (-1), 1, (0, 0, 0), [], []), (17, .ireturn, 1, (0, 0, 0), [], []), (18, .iload_n 1, 1, (0, 0, 0), [], []), (19, .istore_n 3, 1, (0, 0, 0), [], []), (20, .aload_n 0, 1, (0, 0, 0), [], [0, 2, 3]), (21, .iload_n 3, 1, (0, 0, 0), [], []), (22, .iload_n 2, 1, (0, 0, 0), [], []), (23, .invokevirtual 100, 3, (133, 2, 9), [1040, 1042, 40, 77], []), (26, .ifCond .ne 13, 3, (39, 0, 0), [], []), (29, .aload_n 0, 1, (0, 0, 0), [], []), (30, .getfield 13, 3, (9, 4, 0), [935], []), (33, .iload_n 3, 1, (0, 0, 0), [], []), (34, .iaload, 1, (0, 0, 0), [], []), (35, .istore_n 3, 1, (0, 0, 0), [], []), (36, .goto (-16), 3, (20, 0, 0), [], []), (39, .iload_n 3, 1, (0, 0, 0), [], []), (40, .ireturn, 1, (0, 0, 0), [], [])]
def mX10_meet : pM := (yX10_meet, cX10_meet, 4, (some .int), 1119, tX10_meet)
def tX10_write : List pI := [(0, .iload_n 1, 1, (0, 0, 0), [], []), (1, .bipush 32, 2, (0, 0, 0), [], []), (3, .bipush 126, 2, (0, 0, 0), [], []), (5, .invokestatic 64, 3, (120, 3, 0), [1021, 1022, 77], []), (8, .ifCond .ne 5, 3, (13, 0, 0), [], []), (11, .iconst (-1), 1, (0, 0, 0), [], []), (12, .ireturn, 1, (0, 0, 0), [], []), (13, .aload_n 0, 1, (0, 0, 0), [], []), (14, .getfield 147, 3, (9, 11, 0), [942], []), (17, .sipush 200, 3, (0, 0, 0), [], []), (20, .if_icmp .ne 6, 3, (26, 0, 0), [], []), (23, .bipush (-3), 2, (0, 0, 0), [], []), (25, .ireturn, 1, (0, 0, 0), [], []), (26, .aload_n 0, 1, (0, 0, 0), [], []), (27, .getfield 25, 3, (9, 10, 0), [941], []), (30, .aload_n 0, 1, (0, 0, 0), [], []), (31, .getfield 147, 3, (9, 11, 0), [942], []), (34, .iload_n 1, 1, (0, 0, 0), [], []), (35, .iastore, 1, (0, 0, 0), [], []), (36, .aload_n 0, 1, (0, 0, 0), [], []), (37, .dup, 1, (0, 0, 0), [], []), (38, .getfield 147, 3, (9, 11, 0), [942], []), (41, .iconst 1, 1, (0, 0, 0), [], []), (42, .iadd, 1, (0, 0, 0), [], []), (43, .putfield 147, 3, (9, 11, 0), [942], []), (46, .aload_n 0, 1, (0, 0, 0), [], []), (47, .getfield 147, 3, (9, 11, 0), [942], []), (50, .ireturn, 1, (0, 0, 0), [], [])]
def mX10_write : pM := (yX10_write, cX10_write, 2, (some .int), 1123, tX10_write)
def tX10_wipe : List pI := [(0, .aload_n 0, 1, (0, 0, 0), [], []), (1, .getfield 147, 3, (9, 11, 0), [942], []), (4, .istore_n 1, 1, (0, 0, 0), [], []), (5, .aload_n 0, 1, (0, 0, 0), [], []), (6, .iconst 0, 1, (0, 0, 0), [], []), (7, .putfield 147, 3, (9, 11, 0), [942], []), (10, .iload_n 1, 1, (0, 0, 0), [], []), (11, .ireturn, 1, (0, 0, 0), [], [])]
def mX10_wipe : pM := (yX10_wipe, cX10_wipe, 2, (some .int), 1127, tX10_wipe)
def tX10_here : List pI := [(0, .aload_n 0, 1, (0, 0, 0), [], []), (1, .getfield 150, 3, (9, 12, 0), [943], []), (4, .aload_n 0, 1, (0, 0, 0), [], []), (5, .getfield 147, 3, (9, 11, 0), [942], []), (8, .if_icmp .ge 15, 3, (23, 0, 0), [], []), (11, .aload_n 0, 1, (0, 0, 0), [], []), (12, .getfield 25, 3, (9, 10, 0), [941], []), (15, .aload_n 0, 1, (0, 0, 0), [], []), (16, .getfield 150, 3, (9, 12, 0), [943], []), (19, .iaload, 1, (0, 0, 0), [], []), (20, .goto 4, 3, (24, 0, 0), [], []), (23, .iconst 0, 1, (0, 0, 0), [], []), (24, .ireturn, 1, (0, 0, 0), [], [])]
def mX10_here : pM := (yX10_here, cX10_here, 1, (some .int), 1143, tX10_here)
def tX10_isFigure : List pI := [(0, .aload_n 0, 1, (0, 0, 0), [], []), (1, .invokevirtual 153, 3, (158, 0, 9), [1140, 1142, 46, 77], []), (4, .bipush 48, 2, (0, 0, 0), [], []), (6, .bipush 57, 2, (0, 0, 0), [], []), (8, .invokestatic 64, 3, (120, 3, 0), [1021, 1022, 77], []), (11, .ireturn, 1, (0, 0, 0), [], [])]
def mX10_isFigure : pM := (yX10_isFigure, cX10_isFigure, 1, (some .boolean), 1155, tX10_isFigure)
def tX10_number : List pI := [(0, .aload_n 0, 1, (0, 0, 0), [], []), (1, .invokevirtual 157, 3, (159, 0, 9), [1152, 1154, 49, 77], []), (4, .ifCond .ne 5, 3, (9, 0, 0), [], []), (7, .iconst 0, 1, (0, 0, 0), [], []), (8, .ireturn, 1, (0, 0, 0), [], []), (9, .aload_n 0, 1, (0, 0, 0), [], []), (10, .invokevirtual 153, 3, (158, 0, 9), [1140, 1142, 46, 77], []), (13, .bipush 48, 2, (0, 0, 0), [], []), (15, .isub, 1, (0, 0, 0), [], []), (16, .istore 4, 2, (0, 0, 0), [], []), (18, .aload_n 0, 1, (0, 0, 0), [], []), (19, .dup, 1, (0, 0, 0), [], []), (20, .getfield 150, 3, (9, 12, 0), [943], []), (23, .iconst 1, 1, (0, 0, 0), [], []), (24, .iadd, 1, (0, 0, 0), [], []), (25, .putfield 150, 3, (9, 12, 0), [943], []), (28, .aload_n 0, 1, (0, 0, 0), [], []), (29, .invokevirtual 157, 3, (159, 0, 9), [1152, 1154, 49, 77], []), (32, .ifCond .eq 28, 3, (60, 0, 0), [], []), (35, .bipush 10, 2, (0, 0, 0), [], []), (37, .iload 4, 2, (0, 0, 0), [], []), (39, .imul, 1, (0, 0, 0), [], []), (40, .aload_n 0, 1, (0, 0, 0), [], []), (41, .invokevirtual 153, 3, (158, 0, 9), [1140, 1142, 46, 77], []), (44, .iadd, 1, (0, 0, 0), [], []), (45, .bipush 48, 2, (0, 0, 0), [], []), (47, .isub, 1, (0, 0, 0), [], []), (48, .istore 4, 2, (0, 0, 0), [], []), (50, .aload_n 0, 1, (0, 0, 0), [], []), (51, .dup, 1, (0, 0, 0), [], []), (52, .getfield 150, 3, (9, 12, 0), [943], []), (55, .iconst 1, 1, (0, 0, 0), [], []), (56, .iadd, 1, (0, 0, 0), [], []), (57, .putfield 150, 3, (9, 12, 0), [943], []), (60, .aload_n 0, 1, (0, 0, 0), [], []), (61, .iload 4, 2, (0, 0, 0), [], []), (63, .putfield 161, 3, (9, 13, 0), [944], []), (66, .aload_n 0, 1, (0, 0, 0), [], []), (67, .invokevirtual 153, 3, (158, 0, 9), [1140, 1142, 46, 77], []), (70, .iload_n 3, 1, (0, 0, 0), [], []), (71, .if_icmp .ne 13, 3, (84, 0, 0), [], []), (74, .iload 4, 2, (0, 0, 0), [], []), (76, .iload_n 1, 1, (0, 0, 0), [], []), (77, .iload_n 2, 1, (0, 0, 0), [], []), (78, .invokestatic 64, 3, (120, 3, 0), [1021, 1022, 77], []), (81, .ifCond .ne 5, 3, (86, 0, 0), [], []), (84, .iconst 0, 1, (0, 0, 0), [], []), (85, .ireturn, 1, (0, 0, 0), [], []), (86, .aload_n 0, 1, (0, 0, 0), [], []), (87, .dup, 1, (0, 0, 0), [], []), (88, .getfield 150, 3, (9, 12, 0), [943], []), (91, .iconst 1, 1, (0, 0, 0), [], []), (92, .iadd, 1, (0, 0, 0), [], []), (93, .putfield 150, 3, (9, 12, 0), [943], []), (96, .iconst 1, 1, (0, 0, 0), [], []), (97, .ireturn, 1, (0, 0, 0), [], [])]
def mX10_number : pM := (yX10_number, cX10_number, 5, (some .boolean), 1151, tX10_number)
def tX10_readsKind : List pI := [(0, .aload_n 0, 1, (0, 0, 0), [], []), (1, .iconst 0, 1, (0, 0, 0), [], []), (2, .iconst 3, 1, (0, 0, 0), [], []), (3, .bipush 59, 2, (0, 0, 0), [], []), (5, .invokevirtual 164, 3, (160, 3, 9), [1148, 1150, 48, 77], []), (8, .ifCond .ne 5, 3, (13, 0, 0), [], []), (11, .iconst 0, 1, (0, 0, 0), [], []), (12, .ireturn, 1, (0, 0, 0), [], []), (13, .aload_n 0, 1, (0, 0, 0), [], []), (14, .aload_n 0, 1, (0, 0, 0), [], []), (15, .getfield 161, 3, (9, 13, 0), [944], []), (18, .putfield 84, 3, (9, 2, 0), [933], []), (21, .iconst 1, 1, (0, 0, 0), [], []), (22, .ireturn, 1, (0, 0, 0), [], [])]
def mX10_readsKind : pM := (yX10_readsKind, cX10_readsKind, 1, (some .boolean), 1147, tX10_readsKind)
def tX10_readsRoot : List pI := [(0, .aload_n 0, 1, (0, 0, 0), [], []), (1, .getfield 76, 3, (9, 1, 0), [932], []), (4, .ifCond .gt 14, 3, (18, 0, 0), [], []), (7, .aload_n 0, 1, (0, 0, 0), [], []), (8, .iconst 0, 1, (0, 0, 0), [], []), (9, .iconst 5, 1, (0, 0, 0), [], []), (10, .bipush 59, 2, (0, 0, 0), [], []), (12, .invokevirtual 164, 3, (160, 3, 9), [1148, 1150, 48, 77], []), (15, .ifCond .ne 5, 3, (20, 0, 0), [], []), (18, .iconst 0, 1, (0, 0, 0), [], []), (19, .ireturn, 1, (0, 0, 0), [], []), (20, .aload_n 0, 1, (0, 0, 0), [], []), (21, .aload_n 0, 1, (0, 0, 0), [], []), (22, .getfield 161, 3, (9, 13, 0), [944], []), (25, .invokevirtual 56, 3, (124, 1, 9), [899, 901, 28, 77], []), (28, .iconst 1, 1, (0, 0, 0), [], []), (29, .ireturn, 1, (0, 0, 0), [], [])]
def mX10_readsRoot : pM := (yX10_readsRoot, cX10_readsRoot, 1, (some .boolean), 1159, tX10_readsRoot)
def tX10_readsNode : List pI := [(0, .aload_n 0, 1, (0, 0, 0), [], []), (1, .getfield 76, 3, (9, 1, 0), [932], []), (4, .ifCond .eq 28, 3, (32, 0, 0), [], []), (7, .aload_n 0, 1, (0, 0, 0), [], []), (8, .getfield 76, 3, (9, 1, 0), [932], []), (11, .bipush 24, 2, (0, 0, 0), [], []), (13, .if_icmp .eq 19, 3, (32, 0, 0), [], []), (16, .aload_n 0, 1, (0, 0, 0), [], []), (17, .iconst 0, 1, (0, 0, 0), [], []), (18, .aload_n 0, 1, (0, 0, 0), [], []), (19, .getfield 76, 3, (9, 1, 0), [932], []), (22, .iconst 1, 1, (0, 0, 0), [], []), (23, .isub, 1, (0, 0, 0), [], []), (24, .bipush 44, 2, (0, 0, 0), [], []), (26, .invokevirtual 164, 3, (160, 3, 9), [1148, 1150, 48, 77], []), (29, .ifCond .ne 5, 3, (34, 0, 0), [], []), (32, .iconst 0, 1, (0, 0, 0), [], []), (33, .ireturn, 1, (0, 0, 0), [], []), (34, .aload_n 0, 1, (0, 0, 0), [], []), (35, .getfield 161, 3, (9, 13, 0), [944], []), (38, .istore_n 1, 1, (0, 0, 0), [], []), (39, .aload_n 0, 1, (0, 0, 0), [], []), (40, .iconst 0, 1, (0, 0, 0), [], []), (41, .aload_n 0, 1, (0, 0, 0), [], []), (42, .iload_n 1, 1, (0, 0, 0), [], []), (43, .invokevirtual 90, 3, (125, 1, 9), [922, 924, 33, 77], []), (46, .bipush 44, 2, (0, 0, 0), [], []), (48, .invokevirtual 164, 3, (160, 3, 9), [1148, 1150, 48, 77], []), (51, .ifCond .ne 5, 3, (56, 0, 0), [], []), (54, .iconst 0, 1, (0, 0, 0), [], []), (55, .ireturn, 1, (0, 0, 0), [], []), (56, .aload_n 0, 1, (0, 0, 0), [], []), (57, .getfield 161, 3, (9, 13, 0), [944], []), (60, .istore_n 2, 1, (0, 0, 0), [], []), (61, .aload_n 0, 1, (0, 0, 0), [], []), (62, .iconst 0, 1, (0, 0, 0), [], []), (63, .iconst 5, 1, (0, 0, 0), [], []), (64, .bipush 59, 2, (0, 0, 0), [], []), (66, .invokevirtual 164, 3, (160, 3, 9), [1148, 1150, 48, 77], []), (69, .ifCond .eq 22, 3, (91, 0, 0), [], []), (72, .aload_n 0, 1, (0, 0, 0), [], []), (73, .iload_n 1, 1, (0, 0, 0), [], []), (74, .iload_n 2, 1, (0, 0, 0), [], []), (75, .aload_n 0, 1, (0, 0, 0), [], []), (76, .getfield 161, 3, (9, 13, 0), [944], []), (79, .invokevirtual 60, 3, (132, 3, 9), [903, 905, 29, 77], []), (82, .bipush (-4), 2, (0, 0, 0), [], []), (84, .if_icmp .eq 7, 3, (91, 0, 0), [], []), (87, .iconst 1, 1, (0, 0, 0), [], []), (88, .goto 4, 3, (92, 0, 0), [], []), (91, .iconst 0, 1, (0, 0, 0), [], []), (92, .ireturn, 1, (0, 0, 0), [], [])]
def mX10_readsNode : pM := (yX10_readsNode, cX10_readsNode, 3, (some .boolean), 1163, tX10_readsNode)
def tX10_readsItem : List pI := [(0, .aload_n 0, 1, (0, 0, 0), [], []), (1, .invokevirtual 153, 3, (158, 0, 9), [1140, 1142, 46, 77], []), (4, .istore_n 2, 1, (0, 0, 0), [], []), (5, .aload_n 0, 1, (0, 0, 0), [], []), (6, .dup, 1, (0, 0, 0), [], []), (7, .getfield 150, 3, (9, 12, 0), [943], []), (10, .iconst 1, 1, (0, 0, 0), [], []), (11, .iadd, 1, (0, 0, 0), [], []), (12, .putfield 150, 3, (9, 12, 0), [943], []), (15, .iload_n 2, 1, (0, 0, 0), [], []), (16, .bipush 107, 2, (0, 0, 0), [], []), (18, .if_icmp .ne 22, 3, (40, 0, 0), [], []), (21, .iload_n 1, 1, (0, 0, 0), [], []), (22, .ifCond .eq 14, 3, (36, 0, 0), [], []), (25, .aload_n 0, 1, (0, 0, 0), [], []), (26, .invokevirtual 167, 3, (161, 0, 9), [1144, 1146, 47, 77], []), (29, .ifCond .eq 7, 3, (36, 0, 0), [], []), (32, .iconst 1, 1, (0, 0, 0), [], []), (33, .goto 38, 3, (71, 0, 0), [], []), (36, .iconst 0, 1, (0, 0, 0), [], []), (37, .goto 34, 3, (71, 0, 0), [], []), (40, .iload_n 2, 1, (0, 0, 0), [], []), (41, .bipush 114, 2, (0, 0, 0), [], []), (43, .if_icmp .ne 10, 3, (53, 0, 0), [], []), (46, .aload_n 0, 1, (0, 0, 0), [], []), (47, .invokevirtual 170, 3, (162, 0, 9), [1156, 1158, 50, 77], []), (50, .goto 21, 3, (71, 0, 0), [], []), (53, .iload_n 2, 1, (0, 0, 0), [], []), (54, .bipush 103, 2, (0, 0, 0), [], []), (56, .if_icmp .ne 14, 3, (70, 0, 0), [], []), (59, .aload_n 0, 1, (0, 0, 0), [], []), (60, .invokevirtual 173, 3, (163, 0, 9), [1160, 1162, 51, 77], []), (63, .ifCond .eq 7, 3, (70, 0, 0), [], []), (66, .iconst 1, 1, (0, 0, 0), [], []), (67, .goto 4, 3, (71, 0, 0), [], []), (70, .iconst 0, 1, (0, 0, 0), [], []), (71, .ireturn, 1, (0, 0, 0), [], [])]
def mX10_readsItem : pM := (yX10_readsItem, cX10_readsItem, 3, (some .boolean), 1139, tX10_readsItem)
def tX10_reads : List pI := [(0, .aload_n 0, 1, (0, 0, 0), [], []), (1, .iconst 0, 1, (0, 0, 0), [], []), (2, .putfield 150, 3, (9, 12, 0), [943], []), (5, .aload_n 0, 1, (0, 0, 0), [], []), (6, .iconst 0, 1, (0, 0, 0), [], []), (7, .putfield 68, 3, (9, 0, 0), [931], []), (10, .aload_n 0, 1, (0, 0, 0), [], []), (11, .iconst 0, 1, (0, 0, 0), [], []), (12, .putfield 76, 3, (9, 1, 0), [932], []), (15, .aload_n 0, 1, (0, 0, 0), [], []), (16, .iconst 0, 1, (0, 0, 0), [], []), (17, .putfield 84, 3, (9, 2, 0), [933], []), (20, .aload_n 0, 1, (0, 0, 0), [], [0]), (21, .getfield 150, 3, (9, 12, 0), [943], []), (24, .aload_n 0, 1, (0, 0, 0), [], []), (25, .getfield 147, 3, (9, 11, 0), [942], []), (28, .if_icmp .ge 29, 3, (57, 0, 0), [], []), (31, .aload_n 0, 1, (0, 0, 0), [], []), (32, .getfield 150, 3, (9, 12, 0), [943], []), (35, .istore_n 1, 1, (0, 0, 0), [], []), (36, .aload_n 0, 1, (0, 0, 0), [], []), (37, .iload_n 1, 1, (0, 0, 0), [], []), (38, .ifCond .ne 7, 3, (45, 0, 0), [], []), (41, .iconst 1, 1, (0, 0, 0), [], []), (42, .goto 4, 3, (46, 0, 0), [], []), (45, .iconst 0, 1, (0, 0, 0), [], []), (46, .invokevirtual 176, 3, (164, 1, 9), [1136, 1138, 45, 77], []), (49, .ifCond .ne 5, 3, (54, 0, 0), [], []), (52, .iload_n 1, 1, (0, 0, 0), [], []), (53, .ireturn, 1, (0, 0, 0), [], []), (54, .goto (-34), 3, (20, 0, 0), [], []), (57, .bipush (-4), 2, (0, 0, 0), [], []), (59, .ireturn, 1, (0, 0, 0), [], [])]
def mX10_reads : pM := (yX10_reads, cX10_reads, 2, (some .int), 1135, tX10_reads)
def tX10_fault : List pI := [(0, .aload_n 0, 1, (0, 0, 0), [], []), (1, .aload_n 0, 1, (0, 0, 0), [], []), (2, .getfield 28, 3, (9, 14, 0), [945], []), (5, .iconst 0, 1, (0, 0, 0), [], []), (6, .invokevirtual 131, 3, (143, 2, 9), [1076, 1078, 42, 77], []), (9, .aload_n 0, 1, (0, 0, 0), [], []), (10, .invokevirtual 180, 3, (165, 0, 9), [1132, 1134, 44, 77], []), (13, .istore_n 1, 1, (0, 0, 0), [], []), (14, .aload_n 0, 1, (0, 0, 0), [], []), (15, .aload_n 0, 1, (0, 0, 0), [], []), (16, .getfield 28, 3, (9, 14, 0), [945], []), (19, .iconst 0, 1, (0, 0, 0), [], []), (20, .invokevirtual 141, 3, (144, 2, 9), [1092, 1094, 43, 77], []), (23, .iload_n 1, 1, (0, 0, 0), [], []), (24, .ireturn, 1, (0, 0, 0), [], [])]
def mX10_fault : pM := (yX10_fault, cX10_fault, 2, (some .int), 1131, tX10_fault)
def tX10_many : List pI := [(0, .iload_n 0, 1, (0, 0, 0), [], []), (1, .invokestatic 119, 3, (135, 1, 0), [1044, 1045, 77], []), (4, .ireturn, 1, (0, 0, 0), [], [])]
def mX10_many : pM := (yX10_many, cX10_many, 1, (some .int), 1170, tX10_many)
def tX10_lay : List pI := [(0, .aload_n 0, 1, (0, 0, 0), [], []), (1, .aload_n 0, 1, (0, 0, 0), [], []), (2, .getfield 28, 3, (9, 14, 0), [945], []), (5, .iconst 0, 1, (0, 0, 0), [], []), (6, .invokevirtual 131, 3, (143, 2, 9), [1076, 1078, 42, 77], []), (9, .aload_n 0, 1, (0, 0, 0), [], []), (10, .invokevirtual 180, 3, (165, 0, 9), [1132, 1134, 44, 77], []), (13, .bipush (-4), 2, (0, 0, 0), [], []), (15, .if_icmp .ne 10, 3, (25, 0, 0), [], []), (18, .aload_n 0, 1, (0, 0, 0), [], []), (19, .getfield 76, 3, (9, 1, 0), [932], []), (22, .ifCond .ne 15, 3, (37, 0, 0), [], []), (25, .aload_n 0, 1, (0, 0, 0), [], []), (26, .aload_n 0, 1, (0, 0, 0), [], []), (27, .getfield 28, 3, (9, 14, 0), [945], []), (30, .iconst 0, 1, (0, 0, 0), [], []), (31, .invokevirtual 141, 3, (144, 2, 9), [1092, 1094, 43, 77], []), (34, .bipush (-2), 2, (0, 0, 0), [], []), (36, .ireturn, 1, (0, 0, 0), [], []), (37, .aload_n 0, 1, (0, 0, 0), [], []), (38, .iconst 0, 1, (0, 0, 0), [], []), (39, .putfield 183, 3, (9, 15, 0), [946], []), (42, .aload_n 0, 1, (0, 0, 0), [], []), (43, .iconst 0, 1, (0, 0, 0), [], []), (44, .putfield 128, 3, (9, 7, 0), [938], []), (47, .aload_n 0, 1, (0, 0, 0), [], []), (48, .iconst 0, 1, (0, 0, 0), [], []), (49, .putfield 144, 3, (9, 9, 0), [940], []), (52, .aload_n 0, 1, (0, 0, 0), [], []), (53, .getfield 68, 3, (9, 0, 0), [931], []), (56, .invokestatic 186, 3, (167, 1, 0), [1168, 1169, 77], []), (59, .ireturn, 1, (0, 0, 0), [], [])]
def mX10_lay : pM := (yX10_lay, cX10_lay, 1, (some .int), 1167, tX10_lay)
def tX10_axisBy : List pI := [(0, .iload_n 0, 1, (0, 0, 0), [], []), (1, .bipush 47, 2, (0, 0, 0), [], []), (3, .if_icmp .ne 7, 3, (10, 0, 0), [], []), (6, .iconst 0, 1, (0, 0, 0), [], []), (7, .goto 35, 3, (42, 0, 0), [], []), (10, .iload_n 0, 1, (0, 0, 0), [], []), (11, .bipush 58, 2, (0, 0, 0), [], []), (13, .if_icmp .ne 7, 3, (20, 0, 0), [], []), (16, .iconst 1, 1, (0, 0, 0), [], []), (17, .goto 25, 3, (42, 0, 0), [], []), (20, .iload_n 0, 1, (0, 0, 0), [], []), (21, .bipush 43, 2, (0, 0, 0), [], []), (23, .if_icmp .ne 7, 3, (30, 0, 0), [], []), (26, .iconst 2, 1, (0, 0, 0), [], []), (27, .goto 15, 3, (42, 0, 0), [], []), (30, .iload_n 0, 1, (0, 0, 0), [], []), (31, .bipush 126, 2, (0, 0, 0), [], []), (33, .if_icmp .ne 7, 3, (40, 0, 0), [], []), (36, .iconst 3, 1, (0, 0, 0), [], []), (37, .goto 5, 3, (42, 0, 0), [], []), (40, .bipush (-4), 2, (0, 0, 0), [], []), (42, .ireturn, 1, (0, 0, 0), [], [])]
def mX10_axisBy : pM := (yX10_axisBy, cX10_axisBy, 1, (some .int), 1185, tX10_axisBy)
def tX10_readsStep : List pI := [(0, .aload_n 0, 1, (0, 0, 0), [], []), (1, .invokevirtual 153, 3, (158, 0, 9), [1140, 1142, 46, 77], []), (4, .istore_n 3, 1, (0, 0, 0), [], []), (5, .aload_n 0, 1, (0, 0, 0), [], []), (6, .getfield 189, 3, (9, 20, 0), [951], []), (9, .bipush 8, 2, (0, 0, 0), [], []), (11, .if_icmp .eq 20, 3, (31, 0, 0), [], []), (14, .iload_n 3, 1, (0, 0, 0), [], []), (15, .bipush 42, 2, (0, 0, 0), [], []), (17, .if_icmp .eq 16, 3, (33, 0, 0), [], []), (20, .iload_n 3, 1, (0, 0, 0), [], []), (21, .bipush 97, 2, (0, 0, 0), [], []), (23, .bipush 102, 2, (0, 0, 0), [], []), (25, .invokestatic 64, 3, (120, 3, 0), [1021, 1022, 77], []), (28, .ifCond .ne 5, 3, (33, 0, 0), [], []), (31, .iconst 0, 1, (0, 0, 0), [], []), (32, .ireturn, 1, (0, 0, 0), [], []), (33, .aload_n 0, 1, (0, 0, 0), [], []), (34, .getfield 40, 3, (9, 22, 0), [953], []), (37, .aload_n 0, 1, (0, 0, 0), [], []), (38, .getfield 189, 3, (9, 20, 0), [951], []), (41, .iload_n 3, 1, (0, 0, 0), [], []), (42, .bipush 42, 2, (0, 0, 0), [], []), (44, .if_icmp .ne 8, 3, (52, 0, 0), [], []), (47, .bipush 6, 2, (0, 0, 0), [], []), (49, .goto 7, 3, (56, 0, 0), [], []), (52, .iload_n 3, 1, (0, 0, 0), [], []), (53, .bipush 97, 2, (0, 0, 0), [], []), (55, .isub, 1, (0, 0, 0), [], []), (56, .iastore, 1, (0, 0, 0), [], []), (57, .aload_n 0, 1, (0, 0, 0), [], []), (58, .getfield 43, 3, (9, 23, 0), [954], []), (61, .aload_n 0, 1, (0, 0, 0), [], []), (62, .getfield 189, 3, (9, 20, 0), [951], []), (65, .aload_n 0, 1, (0, 0, 0), [], []), (66, .getfield 49, 3, (9, 25, 0), [956], []), (69, .iload_n 1, 1, (0, 0, 0), [], []), (70, .iaload, 1, (0, 0, 0), [], []), (71, .iastore, 1, (0, 0, 0), [], []), (72, .aload_n 0, 1, (0, 0, 0), [], []), (73, .getfield 46, 3, (9, 24, 0), [955], []), (76, .aload_n 0, 1, (0, 0, 0), [], []), (77, .getfield 189, 3, (9, 20, 0), [951], []), (80, .iload_n 2, 1, (0, 0, 0), [], []), (81, .iastore, 1, (0, 0, 0), [], []), (82, .aload_n 0, 1, (0, 0, 0), [], []), (83, .getfield 49, 3, (9, 25, 0), [956], []), (86, .iload_n 1, 1, (0, 0, 0), [], []), (87, .aload_n 0, 1, (0, 0, 0), [], []), (88, .getfield 189, 3, (9, 20, 0), [951], []), (91, .iastore, 1, (0, 0, 0), [], []), (92, .aload_n 0, 1, (0, 0, 0), [], []), (93, .iload_n 1, 1, (0, 0, 0), [], []), (94, .ifCond .ne 10, 3, (104, 0, 0), [], []), (97, .aload_n 0, 1, (0, 0, 0), [], []), (98, .getfield 189, 3, (9, 20, 0), [951], []), (101, .goto 7, 3, (108, 0, 0), [], []), (104, .aload_n 0, 1, (0, 0, 0), [], []), (105, .getfield 192, 3, (9, 21, 0), [952], []), (108, .putfield 192, 3, (9, 21, 0), [952], []), (111, .aload_n 0, 1, (0, 0, 0), [], []), (112, .dup, 1, (0, 0, 0), [], []), (113, .getfield 189, 3, (9, 20, 0), [951], []), (116, .iconst 1, 1, (0, 0, 0), [], []), (117, .iadd, 1, (0, 0, 0), [], []), (118, .putfield 189, 3, (9, 20, 0), [951], []), (121, .aload_n 0, 1, (0, 0, 0), [], []), (122, .dup, 1, (0, 0, 0), [], []), (123, .getfield 150, 3, (9, 12, 0), [943], []), (126, .iconst 1, 1, (0, 0, 0), [], []), (127, .iadd, 1, (0, 0, 0), [], []), (128, .putfield 150, 3, (9, 12, 0), [943], []), (131, .iconst 1, 1, (0, 0, 0), [], []), (132, .ireturn, 1, (0, 0, 0), [], [])]
def mX10_readsStep : pM := (yX10_readsStep, cX10_readsStep, 4, (some .boolean), 1182, tX10_readsStep)
def tX10_readsPattern : List pI := [(0, .aload_n 0, 1, (0, 0, 0), [], []), (1, .iconst 0, 1, (0, 0, 0), [], []), (2, .putfield 150, 3, (9, 12, 0), [943], []), (5, .aload_n 0, 1, (0, 0, 0), [], []), (6, .iconst 0, 1, (0, 0, 0), [], []), (7, .putfield 189, 3, (9, 20, 0), [951], []), (10, .iconst 0, 1, (0, 0, 0), [], []), (11, .istore_n 1, 1, (0, 0, 0), [], []), (12, .aload_n 0, 1, (0, 0, 0), [], []), (13, .getfield 49, 3, (9, 25, 0), [956], []), (16, .iconst 0, 1, (0, 0, 0), [], []), (17, .bipush (-4), 2, (0, 0, 0), [], []), (19, .iastore, 1, (0, 0, 0), [], []), (20, .aload_n 0, 1, (0, 0, 0), [], []), (21, .iconst 0, 1, (0, 0, 0), [], []), (22, .bipush (-4), 2, (0, 0, 0), [], []), (24, .invokevirtual 195, 3, (170, 2, 9), [1179, 1181, 53, 77], []), (27, .ifCond .ne 8, 3, (35, 0, 0), [], []), (30, .aload_n 0, 1, (0, 0, 0), [], []), (31, .getfield 150, 3, (9, 12, 0), [943], []), (34, .ireturn, 1, (0, 0, 0), [], []), (35, .aload_n 0, 1, (0, 0, 0), [], [0, 1]), (36, .getfield 150, 3, (9, 12, 0), [943], []), (39, .aload_n 0, 1, (0, 0, 0), [], []), (40, .getfield 147, 3, (9, 11, 0), [942], []), (43, .if_icmp .ge 131, 3, (174, 0, 0), [], []), (46, .aload_n 0, 1, (0, 0, 0), [], []), (47, .invokevirtual 153, 3, (158, 0, 9), [1140, 1142, 46, 77], []), (50, .istore_n 2, 1, (0, 0, 0), [], []), (51, .iload_n 2, 1, (0, 0, 0), [], []), (52, .bipush 91, 2, (0, 0, 0), [], []), (54, .if_icmp .ne 7, 3, (61, 0, 0), [], []), (57, .iconst 1, 1, (0, 0, 0), [], []), (58, .goto 4, 3, (62, 0, 0), [], []), (61, .iconst 0, 1, (0, 0, 0), [], []), (62, .istore_n 3, 1, (0, 0, 0), [], []), (63, .iload_n 2, 1, (0, 0, 0), [], []), (64, .bipush 93, 2, (0, 0, 0), [], []), (66, .if_icmp .ne 28, 3, (94, 0, 0), [], []), (69, .iload_n 1, 1, (0, 0, 0), [], []), (70, .ifCond .ne 8, 3, (78, 0, 0), [], []), (73, .aload_n 0, 1, (0, 0, 0), [], []), (74, .getfield 150, 3, (9, 12, 0), [943], []), (77, .ireturn, 1, (0, 0, 0), [], []), (78, .iinc 1 (-1), 3, (0, 0, 0), [], []), (81, .aload_n 0, 1, (0, 0, 0), [], []), (82, .dup, 1, (0, 0, 0), [], []), (83, .getfield 150, 3, (9, 12, 0), [943], []), (86, .iconst 1, 1, (0, 0, 0), [], []), (87, .iadd, 1, (0, 0, 0), [], []), (88, .putfield 150, 3, (9, 12, 0), [943], []), (91, .goto 80, 3, (171, 0, 0), [], []), (94, .iload_n 3, 1, (0, 0, 0), [], []), (95, .ifCond .eq 30, 3, (125, 0, 0), [], []), (98, .aload_n 0, 1, (0, 0, 0), [], []), (99, .dup, 1, (0, 0, 0), [], []), (100, .getfield 150, 3, (9, 12, 0), [943], []), (103, .iconst 1, 1, (0, 0, 0), [], []), (104, .iadd, 1, (0, 0, 0), [], []), (105, .putfield 150, 3, (9, 12, 0), [943], []), (108, .aload_n 0, 1, (0, 0, 0), [], []), (109, .getfield 49, 3, (9, 25, 0), [956], []), (112, .iload_n 1, 1, (0, 0, 0), [], []), (113, .iconst 1, 1, (0, 0, 0), [], []), (114, .iadd, 1, (0, 0, 0), [], []), (115, .aload_n 0, 1, (0, 0, 0), [], []), (116, .getfield 49, 3, (9, 25, 0), [956], []), (119, .iload_n 1, 1, (0, 0, 0), [], []), (120, .iaload, 1, (0, 0, 0), [], []), (121, .iastore, 1, (0, 0, 0), [], []), (122, .iinc 1 1, 3, (0, 0, 0), [], []), (125, .aload_n 0, 1, (0, 0, 0), [], []), (126, .invokevirtual 153, 3, (158, 0, 9), [1140, 1142, 46, 77], []), (129, .invokestatic 198, 3, (169, 1, 0), [1183, 1184, 77], []), (132, .istore 4, 2, (0, 0, 0), [], []), (134, .iload 4, 2, (0, 0, 0), [], []), (136, .bipush (-4), 2, (0, 0, 0), [], []), (138, .if_icmp .ne 8, 3, (146, 0, 0), [], []), (141, .aload_n 0, 1, (0, 0, 0), [], []), (142, .getfield 150, 3, (9, 12, 0), [943], []), (145, .ireturn, 1, (0, 0, 0), [], []), (146, .aload_n 0, 1, (0, 0, 0), [], []), (147, .dup, 1, (0, 0, 0), [], []), (148, .getfield 150, 3, (9, 12, 0), [943], []), (151, .iconst 1, 1, (0, 0, 0), [], []), (152, .iadd, 1, (0, 0, 0), [], []), (153, .putfield 150, 3, (9, 12, 0), [943], []), (156, .aload_n 0, 1, (0, 0, 0), [], []), (157, .iload_n 1, 1, (0, 0, 0), [], []), (158, .iload 4, 2, (0, 0, 0), [], []), (160, .invokevirtual 195, 3, (170, 2, 9), [1179, 1181, 53, 77], []), (163, .ifCond .ne 8, 3, (171, 0, 0), [], []), (166, .aload_n 0, 1, (0, 0, 0), [], []), (167, .getfield 150, 3, (9, 12, 0), [943], []), (170, .ireturn, 1, (0, 0, 0), [], []), (171, .goto (-136), 3, (35, 0, 0), [], []), (174, .iload_n 1, 1, (0, 0, 0), [], []), (175, .ifCond .ne 8, 3, (183, 0, 0), [], []), (178, .bipush (-4), 2, (0, 0, 0), [], []), (180, .goto 7, 3, (187, 0, 0), [], []), (183, .aload_n 0, 1, (0, 0, 0), [], []), (184, .getfield 147, 3, (9, 11, 0), [942], []), (187, .ireturn, 1, (0, 0, 0), [], [])]
def mX10_readsPattern : pM := (yX10_readsPattern, cX10_readsPattern, 5, (some .int), 1178, tX10_readsPattern)
def tX10_pattern : List pI := [(0, .aload_n 0, 1, (0, 0, 0), [], []), (1, .invokevirtual 201, 3, (171, 0, 9), [1175, 1177, 52, 77], []), (4, .istore_n 1, 1, (0, 0, 0), [], []), (5, .iload_n 1, 1, (0, 0, 0), [], []), (6, .bipush (-4), 2, (0, 0, 0), [], []), (8, .if_icmp .eq 8, 3, (16, 0, 0), [], []), (11, .bipush (-10), 2, (0, 0, 0), [], []), (13, .iload_n 1, 1, (0, 0, 0), [], []), (14, .isub, 1, (0, 0, 0), [], []), (15, .ireturn, 1, (0, 0, 0), [], []), (16, .aload_n 0, 1, (0, 0, 0), [], []), (17, .aload_n 0, 1, (0, 0, 0), [], []), (18, .getfield 189, 3, (9, 20, 0), [951], []), (21, .putfield 183, 3, (9, 15, 0), [946], []), (24, .aload_n 0, 1, (0, 0, 0), [], []), (25, .aload_n 0, 1, (0, 0, 0), [], []), (26, .getfield 192, 3, (9, 21, 0), [952], []), (29, .putfield 204, 3, (9, 16, 0), [947], []), (32, .iconst 0, 1, (0, 0, 0), [], []), (33, .istore_n 2, 1, (0, 0, 0), [], []), (34, .iload_n 2, 1, (0, 0, 0), [], [0, 2]), (35, .aload_n 0, 1, (0, 0, 0), [], []), (36, .getfield 183, 3, (9, 15, 0), [946], []), (39, .if_icmp .ge 45, 3, (84, 0, 0), [], []), (42, .aload_n 0, 1, (0, 0, 0), [], []), (43, .getfield 31, 3, (9, 17, 0), [948], []), (46, .iload_n 2, 1, (0, 0, 0), [], []), (47, .aload_n 0, 1, (0, 0, 0), [], []), (48, .getfield 40, 3, (9, 22, 0), [953], []), (51, .iload_n 2, 1, (0, 0, 0), [], []), (52, .iaload, 1, (0, 0, 0), [], []), (53, .iastore, 1, (0, 0, 0), [], []), (54, .aload_n 0, 1, (0, 0, 0), [], []), (55, .getfield 34, 3, (9, 18, 0), [949], []), (58, .iload_n 2, 1, (0, 0, 0), [], []), (59, .aload_n 0, 1, (0, 0, 0), [], []), (60, .getfield 43, 3, (9, 23, 0), [954], []), (63, .iload_n 2, 1, (0, 0, 0), [], []), (64, .iaload, 1, (0, 0, 0), [], []), (65, .iastore, 1, (0, 0, 0), [], []), (66, .aload_n 0, 1, (0, 0, 0), [], []), (67, .getfield 37, 3, (9, 19, 0), [950], []), (70, .iload_n 2, 1, (0, 0, 0), [], []), (71, .aload_n 0, 1, (0, 0, 0), [], []), (72, .getfield 46, 3, (9, 24, 0), [955], []), (75, .iload_n 2, 1, (0, 0, 0), [], []), (76, .iaload, 1, (0, 0, 0), [], []), (77, .iastore, 1, (0, 0, 0), [], []), (78, .iinc 2 1, 3, (0, 0, 0), [], []), (81, .goto (-47), 3, (34, 0, 0), [], []), (84, .aload_n 0, 1, (0, 0, 0), [], []), (85, .getfield 183, 3, (9, 15, 0), [946], []), (88, .ireturn, 1, (0, 0, 0), [], [])]
def mX10_pattern : pM := (yX10_pattern, cX10_pattern, 3, (some .int), 1174, tX10_pattern)
def tX10_isStep : List pI := [(0, .iload_n 1, 1, (0, 0, 0), [], []), (1, .iconst 0, 1, (0, 0, 0), [], []), (2, .aload_n 0, 1, (0, 0, 0), [], []), (3, .getfield 183, 3, (9, 15, 0), [946], []), (6, .iconst 1, 1, (0, 0, 0), [], []), (7, .isub, 1, (0, 0, 0), [], []), (8, .invokestatic 64, 3, (120, 3, 0), [1021, 1022, 77], []), (11, .ireturn, 1, (0, 0, 0), [], [])]
def mX10_isStep : pM := (yX10_isStep, cX10_isStep, 2, (some .boolean), 1193, tX10_isStep)
def tX10_step : List pI := [(0, .aload_n 0, 1, (0, 0, 0), [], []), (1, .iload_n 1, 1, (0, 0, 0), [], []), (2, .invokevirtual 207, 3, (173, 1, 9), [1190, 1192, 54, 77], []), (5, .ifCond .eq 12, 3, (17, 0, 0), [], []), (8, .iload_n 2, 1, (0, 0, 0), [], []), (9, .iconst 0, 1, (0, 0, 0), [], []), (10, .iconst 2, 1, (0, 0, 0), [], []), (11, .invokestatic 64, 3, (120, 3, 0), [1021, 1022, 77], []), (14, .ifCond .ne 5, 3, (19, 0, 0), [], []), (17, .iconst (-1), 1, (0, 0, 0), [], []), (18, .ireturn, 1, (0, 0, 0), [], []), (19, .iload_n 2, 1, (0, 0, 0), [], []), (20, .ifCond .ne 12, 3, (32, 0, 0), [], []), (23, .aload_n 0, 1, (0, 0, 0), [], []), (24, .getfield 31, 3, (9, 17, 0), [948], []), (27, .iload_n 1, 1, (0, 0, 0), [], []), (28, .iaload, 1, (0, 0, 0), [], []), (29, .goto 23, 3, (52, 0, 0), [], []), (32, .iload_n 2, 1, (0, 0, 0), [], []), (33, .iconst 1, 1, (0, 0, 0), [], []), (34, .if_icmp .ne 12, 3, (46, 0, 0), [], []), (37, .aload_n 0, 1, (0, 0, 0), [], []), (38, .getfield 34, 3, (9, 18, 0), [949], []), (41, .iload_n 1, 1, (0, 0, 0), [], []), (42, .iaload, 1, (0, 0, 0), [], []), (43, .goto 9, 3, (52, 0, 0), [], []), (46, .aload_n 0, 1, (0, 0, 0), [], []), (47, .getfield 37, 3, (9, 19, 0), [950], []), (50, .iload_n 1, 1, (0, 0, 0), [], []), (51, .iaload, 1, (0, 0, 0), [], []), (52, .ireturn, 1, (0, 0, 0), [], [])]
def mX10_step : pM := (yX10_step, cX10_step, 3, (some .int), 1189, tX10_step)
def tX10_stands : List pI := [(0, .iload_n 1, 1, (0, 0, 0), [], []), (1, .ifCond .ne 19, 3, (20, 0, 0), [], []), (4, .aload_n 0, 1, (0, 0, 0), [], []), (5, .getfield 13, 3, (9, 4, 0), [935], []), (8, .iload_n 3, 1, (0, 0, 0), [], []), (9, .iaload, 1, (0, 0, 0), [], []), (10, .iload_n 2, 1, (0, 0, 0), [], []), (11, .if_icmp .ne 7, 3, (18, 0, 0), [], []), (14, .iconst 1, 1, (0, 0, 0), [], []), (15, .goto 4, 3, (19, 0, 0), [], []), (18, .iconst 0, 1, (0, 0, 0), [], []), (19, .ireturn, 1, (0, 0, 0), [], []), (20, .iload_n 1, 1, (0, 0, 0), [], []), (21, .iconst 1, 1, (0, 0, 0), [], []), (22, .if_icmp .ne 23, 3, (45, 0, 0), [], []), (25, .iload_n 2, 1, (0, 0, 0), [], []), (26, .iload_n 3, 1, (0, 0, 0), [], []), (27, .if_icmp .eq 16, 3, (43, 0, 0), [], []), (30, .aload_n 0, 1, (0, 0, 0), [], []), (31, .iload_n 2, 1, (0, 0, 0), [], []), (32, .iload_n 3, 1, (0, 0, 0), [], []), (33, .invokevirtual 100, 3, (133, 2, 9), [1040, 1042, 40, 77], []), (36, .ifCond .eq 7, 3, (43, 0, 0), [], []), (39, .iconst 1, 1, (0, 0, 0), [], []), (40, .goto 4, 3, (44, 0, 0), [], []), (43, .iconst 0, 1, (0, 0, 0), [], []), (44, .ireturn, 1, (0, 0, 0), [], []), (45, .iload_n 2, 1, (0, 0, 0), [], []), (46, .ifCond .eq 41, 3, (87, 0, 0), [], []), (49, .iload_n 3, 1, (0, 0, 0), [], []), (50, .ifCond .eq 37, 3, (87, 0, 0), [], []), (53, .aload_n 0, 1, (0, 0, 0), [], []), (54, .getfield 13, 3, (9, 4, 0), [935], []), (57, .iload_n 2, 1, (0, 0, 0), [], []), (58, .iaload, 1, (0, 0, 0), [], []), (59, .aload_n 0, 1, (0, 0, 0), [], []), (60, .getfield 13, 3, (9, 4, 0), [935], []), (63, .iload_n 3, 1, (0, 0, 0), [], []), (64, .iaload, 1, (0, 0, 0), [], []), (65, .if_icmp .ne 22, 3, (87, 0, 0), [], []), (68, .aload_n 0, 1, (0, 0, 0), [], []), (69, .getfield 16, 3, (9, 5, 0), [936], []), (72, .iload_n 3, 1, (0, 0, 0), [], []), (73, .iaload, 1, (0, 0, 0), [], []), (74, .aload_n 0, 1, (0, 0, 0), [], []), (75, .getfield 16, 3, (9, 5, 0), [936], []), (78, .iload_n 2, 1, (0, 0, 0), [], []), (79, .iaload, 1, (0, 0, 0), [], []), (80, .if_icmp .le 7, 3, (87, 0, 0), [], []), (83, .iconst 1, 1, (0, 0, 0), [], []), (84, .goto 4, 3, (88, 0, 0), [], []), (87, .iconst 0, 1, (0, 0, 0), [], []), (88, .istore 4, 2, (0, 0, 0), [], []), (90, .iload_n 1, 1, (0, 0, 0), [], []), (91, .iconst 2, 1, (0, 0, 0), [], []), (92, .if_icmp .ne 36, 3, (128, 0, 0), [], []), (95, .iload 4, 2, (0, 0, 0), [], []), (97, .ifCond .eq 27, 3, (124, 0, 0), [], []), (100, .aload_n 0, 1, (0, 0, 0), [], []), (101, .aload_n 0, 1, (0, 0, 0), [], []), (102, .getfield 13, 3, (9, 4, 0), [935], []), (105, .iload_n 2, 1, (0, 0, 0), [], []), (106, .iaload, 1, (0, 0, 0), [], []), (107, .aload_n 0, 1, (0, 0, 0), [], []), (108, .getfield 16, 3, (9, 5, 0), [936], []), (111, .iload_n 2, 1, (0, 0, 0), [], []), (112, .iaload, 1, (0, 0, 0), [], []), (113, .invokevirtual 79, 3, (126, 2, 9), [915, 917, 32, 77], []), (116, .iload_n 3, 1, (0, 0, 0), [], []), (117, .if_icmp .ne 7, 3, (124, 0, 0), [], []), (120, .iconst 1, 1, (0, 0, 0), [], []), (121, .goto 9, 3, (130, 0, 0), [], []), (124, .iconst 0, 1, (0, 0, 0), [], []), (125, .goto 5, 3, (130, 0, 0), [], []), (128, .iload 4, 2, (0, 0, 0), [], []), (130, .ireturn, 1, (0, 0, 0), [], [])]
def mX10_stands : pM := (yX10_stands, cX10_stands, 5, (some .boolean), 1210, tX10_stands)
def tX10_waysBy : List pI := [(0, .aload_n 0, 1, (0, 0, 0), [], []), (1, .getfield 183, 3, (9, 15, 0), [946], []), (4, .iconst 1, 1, (0, 0, 0), [], []), (5, .isub, 1, (0, 0, 0), [], []), (6, .istore_n 3, 1, (0, 0, 0), [], []), (7, .iload_n 3, 1, (0, 0, 0), [], [0, 1, 2, 3]), (8, .ifCond .lt 163, 3, (171, 0, 0), [], []), (11, .iconst 0, 1, (0, 0, 0), [], []), (12, .istore 4, 2, (0, 0, 0), [], []), (14, .iload 4, 2, (0, 0, 0), [], [0, 1, 2, 3, 4]), (16, .bipush 24, 2, (0, 0, 0), [], []), (18, .if_icmp .ge 147, 3, (165, 0, 0), [], []), (21, .aload_n 0, 1, (0, 0, 0), [], []), (22, .getfield 68, 3, (9, 0, 0), [931], []), (25, .iload 4, 2, (0, 0, 0), [], []), (27, .invokestatic 72, 3, (121, 2, 0), [919, 920, 77], []), (30, .ifCond .eq 45, 3, (75, 0, 0), [], []), (33, .aload_n 0, 1, (0, 0, 0), [], []), (34, .getfield 31, 3, (9, 17, 0), [948], []), (37, .iload_n 3, 1, (0, 0, 0), [], []), (38, .iaload, 1, (0, 0, 0), [], []), (39, .bipush 6, 2, (0, 0, 0), [], []), (41, .if_icmp .eq 19, 3, (60, 0, 0), [], []), (44, .aload_n 0, 1, (0, 0, 0), [], []), (45, .getfield 31, 3, (9, 17, 0), [948], []), (48, .iload_n 3, 1, (0, 0, 0), [], []), (49, .iaload, 1, (0, 0, 0), [], []), (50, .aload_n 0, 1, (0, 0, 0), [], []), (51, .getfield 7, 3, (9, 3, 0), [934], []), (54, .iload 4, 2, (0, 0, 0), [], []), (56, .iaload, 1, (0, 0, 0), [], []), (57, .if_icmp .ne 18, 3, (75, 0, 0), [], []), (60, .iload_n 3, 1, (0, 0, 0), [], []), (61, .iload_n 1, 1, (0, 0, 0), [], []), (62, .if_icmp .ne 9, 3, (71, 0, 0), [], []), (65, .iload 4, 2, (0, 0, 0), [], []), (67, .iload_n 2, 1, (0, 0, 0), [], []), (68, .if_icmp .ne 7, 3, (75, 0, 0), [], []), (71, .iconst 1, 1, (0, 0, 0), [], []), (72, .goto 4, 3, (76, 0, 0), [], []), (75, .iconst 0, 1, (0, 0, 0), [], []), (76, .istore 5, 2, (0, 0, 0), [], []), (78, .aload_n 0, 1, (0, 0, 0), [], []), (79, .getfield 52, 3, (9, 26, 0), [957], []), (82, .bipush 24, 2, (0, 0, 0), [], []), (84, .iload_n 3, 1, (0, 0, 0), [], []), (85, .imul, 1, (0, 0, 0), [], []), (86, .iload 4, 2, (0, 0, 0), [], []), (88, .iadd, 1, (0, 0, 0), [], []), (89, .iload 5, 2, (0, 0, 0), [], []), (91, .ifCond .eq 7, 3, (98, 0, 0), [], []), (94, .lconst 1, 1, (0, 0, 0), [], []), (95, .goto 4, 3, (99, 0, 0), [], []), (98, .lconst 0, 1, (0, 0, 0), [], []), (99, .lastore, 1, (0, 0, 0), [], []), (100, .iload_n 3, 1, (0, 0, 0), [], []), (101, .iconst 1, 1, (0, 0, 0), [], []), (102, .iadd, 1, (0, 0, 0), [], []), (103, .istore 6, 2, (0, 0, 0), [], []), (105, .iload 6, 2, (0, 0, 0), [], [0, 1, 2, 3, 4, 5, 6]), (107, .aload_n 0, 1, (0, 0, 0), [], []), (108, .getfield 183, 3, (9, 15, 0), [946], []), (111, .if_icmp .ge 48, 3, (159, 0, 0), [], []), (114, .iload 5, 2, (0, 0, 0), [], []), (116, .ifCond .eq 43, 3, (159, 0, 0), [], []), (119, .aload_n 0, 1, (0, 0, 0), [], []), (120, .getfield 34, 3, (9, 18, 0), [949], []), (123, .iload 6, 2, (0, 0, 0), [], []), (125, .iaload, 1, (0, 0, 0), [], []), (126, .iload_n 3, 1, (0, 0, 0), [], []), (127, .if_icmp .ne 26, 3, (153, 0, 0), [], []), (130, .aload_n 0, 1, (0, 0, 0), [], []), (131, .getfield 52, 3, (9, 26, 0), [957], []), (134, .bipush 24, 2, (0, 0, 0), [], []), (136, .iload_n 3, 1, (0, 0, 0), [], []), (137, .imul, 1, (0, 0, 0), [], []), (138, .iload 4, 2, (0, 0, 0), [], []), (140, .iadd, 1, (0, 0, 0), [], []), (141, .dup2, 1, (0, 0, 0), [], []), (142, .laload, 1, (0, 0, 0), [], []), (143, .aload_n 0, 1, (0, 0, 0), [], []), (144, .iload 6, 2, (0, 0, 0), [], []), (146, .iload 4, 2, (0, 0, 0), [], []), (148, .invokevirtual 210, 3, (177, 2, 9), [1203, 1205, 56, 77], []), (151, .lmul, 1, (0, 0, 0), [], []), (152, .lastore, 1, (0, 0, 0), [], []), (153, .iinc 6 1, 3, (0, 0, 0), [], []), (156, .goto (-51), 3, (105, 0, 0), [], []), (159, .iinc 4 1, 3, (0, 0, 0), [], []), (162, .goto (-148), 3, (14, 0, 0), [], []), (165, .iinc 3 (-1), 3, (0, 0, 0), [], []), (168, .goto (-161), 3, (7, 0, 0), [], []), (171, .lconst 0, 1, (0, 0, 0), [], []), (172, .lstore_n 3, 1, (0, 0, 0), [], []), (173, .iconst 0, 1, (0, 0, 0), [], []), (174, .istore 5, 2, (0, 0, 0), [], []), (176, .iload 5, 2, (0, 0, 0), [], [0, 3, 5]), (178, .bipush 24, 2, (0, 0, 0), [], []), (180, .if_icmp .ge 19, 3, (199, 0, 0), [], []), (183, .lload_n 3, 1, (0, 0, 0), [], []), (184, .aload_n 0, 1, (0, 0, 0), [], []), (185, .getfield 52, 3, (9, 26, 0), [957], []), (188, .iload 5, 2, (0, 0, 0), [], []), (190, .laload, 1, (0, 0, 0), [], []), (191, .ladd, 1, (0, 0, 0), [], []), (192, .lstore_n 3, 1, (0, 0, 0), [], []), (193, .iinc 5 1, 3, (0, 0, 0), [], []), (196, .goto (-20), 3, (176, 0, 0), [], []), (199, .lload_n 3, 1, (0, 0, 0), [], []), (200, .lreturn, 1, (0, 0, 0), [], [])]
def mX10_waysBy : pM := (yX10_waysBy, cX10_waysBy, 7, (some .long), 1202, tX10_waysBy)
def tX10_sumOf : List pI := [(0, .lconst 0, 1, (0, 0, 0), [], []), (1, .lstore_n 3, 1, (0, 0, 0), [], []), (2, .iconst 0, 1, (0, 0, 0), [], []), (3, .istore 5, 2, (0, 0, 0), [], []), (5, .iload 5, 2, (0, 0, 0), [], [0, 1, 2, 3, 5]), (7, .bipush 24, 2, (0, 0, 0), [], []), (9, .if_icmp .ge 56, 3, (65, 0, 0), [], []), (12, .lload_n 3, 1, (0, 0, 0), [], []), (13, .aload_n 0, 1, (0, 0, 0), [], []), (14, .getfield 68, 3, (9, 0, 0), [931], []), (17, .iload 5, 2, (0, 0, 0), [], []), (19, .invokestatic 72, 3, (121, 2, 0), [919, 920, 77], []), (22, .ifCond .eq 34, 3, (56, 0, 0), [], []), (25, .aload_n 0, 1, (0, 0, 0), [], []), (26, .aload_n 0, 1, (0, 0, 0), [], []), (27, .getfield 37, 3, (9, 19, 0), [950], []), (30, .iload_n 1, 1, (0, 0, 0), [], []), (31, .iaload, 1, (0, 0, 0), [], []), (32, .iload_n 2, 1, (0, 0, 0), [], []), (33, .iload 5, 2, (0, 0, 0), [], []), (35, .invokevirtual 214, 3, (175, 3, 9), [1207, 1209, 57, 77], []), (38, .ifCond .eq 18, 3, (56, 0, 0), [], []), (41, .aload_n 0, 1, (0, 0, 0), [], []), (42, .getfield 52, 3, (9, 26, 0), [957], []), (45, .bipush 24, 2, (0, 0, 0), [], []), (47, .iload_n 1, 1, (0, 0, 0), [], []), (48, .imul, 1, (0, 0, 0), [], []), (49, .iload 5, 2, (0, 0, 0), [], []), (51, .iadd, 1, (0, 0, 0), [], []), (52, .laload, 1, (0, 0, 0), [], []), (53, .goto 4, 3, (57, 0, 0), [], []), (56, .lconst 0, 1, (0, 0, 0), [], []), (57, .ladd, 1, (0, 0, 0), [], []), (58, .lstore_n 3, 1, (0, 0, 0), [], []), (59, .iinc 5 1, 3, (0, 0, 0), [], []), (62, .goto (-57), 3, (5, 0, 0), [], []), (65, .lload_n 3, 1, (0, 0, 0), [], []), (66, .lreturn, 1, (0, 0, 0), [], [])]
def mX10_sumOf : pM := (yX10_sumOf, cX10_sumOf, 6, (some .long), 1206, tX10_sumOf)
def tX10_matches : List pI := [(0, .aload_n 0, 1, (0, 0, 0), [], []), (1, .getfield 183, 3, (9, 15, 0), [946], []), (4, .ifCond .ne 9, 3, (13, 0, 0), [], []), (7, .ldc2_w 217, 3, (2, 1, 0), [1198], []), (10, .goto 11, 3, (21, 0, 0), [], []), (13, .aload_n 0, 1, (0, 0, 0), [], []), (14, .bipush (-4), 2, (0, 0, 0), [], []), (16, .bipush (-4), 2, (0, 0, 0), [], []), (18, .invokevirtual 219, 3, (176, 2, 9), [1199, 1201, 55, 77], []), (21, .lreturn, 1, (0, 0, 0), [], [])]
def mX10_matches : pM := (yX10_matches, cX10_matches, 1, (some .long), 1197, tX10_matches)
def tX10_puts : List pI := [(0, .aload_n 0, 1, (0, 0, 0), [], []), (1, .iload_n 1, 1, (0, 0, 0), [], []), (2, .invokevirtual 207, 3, (173, 1, 9), [1190, 1192, 54, 77], []), (5, .ifCond .eq 20, 3, (25, 0, 0), [], []), (8, .aload_n 0, 1, (0, 0, 0), [], []), (9, .iload_n 2, 1, (0, 0, 0), [], []), (10, .invokevirtual 106, 3, (122, 1, 9), [1017, 1019, 35, 77], []), (13, .ifCond .eq 12, 3, (25, 0, 0), [], []), (16, .aload_n 0, 1, (0, 0, 0), [], []), (17, .iload_n 1, 1, (0, 0, 0), [], []), (18, .iload_n 2, 1, (0, 0, 0), [], []), (19, .invokevirtual 219, 3, (176, 2, 9), [1199, 1201, 55, 77], []), (22, .goto 6, 3, (28, 0, 0), [], []), (25, .ldc2_w 222, 3, (1, 1, 0), [1215], []), (28, .lreturn, 1, (0, 0, 0), [], [])]
def mX10_puts : pM := (yX10_puts, cX10_puts, 3, (some .long), 1214, tX10_puts)
def tX10_usefulSet : List pI := [(0, .iconst 0, 1, (0, 0, 0), [], []), (1, .istore_n 2, 1, (0, 0, 0), [], []), (2, .iconst 0, 1, (0, 0, 0), [], []), (3, .istore_n 3, 1, (0, 0, 0), [], []), (4, .iload_n 3, 1, (0, 0, 0), [], [0, 1, 2, 3]), (5, .bipush 24, 2, (0, 0, 0), [], []), (7, .if_icmp .ge 41, 3, (48, 0, 0), [], []), (10, .iload_n 2, 1, (0, 0, 0), [], []), (11, .aload_n 0, 1, (0, 0, 0), [], []), (12, .getfield 68, 3, (9, 0, 0), [931], []), (15, .iload_n 3, 1, (0, 0, 0), [], []), (16, .invokestatic 72, 3, (121, 2, 0), [919, 920, 77], []), (19, .ifCond .eq 20, 3, (39, 0, 0), [], []), (22, .aload_n 0, 1, (0, 0, 0), [], []), (23, .iload_n 1, 1, (0, 0, 0), [], []), (24, .iload_n 3, 1, (0, 0, 0), [], []), (25, .invokevirtual 219, 3, (176, 2, 9), [1199, 1201, 55, 77], []), (28, .lconst 0, 1, (0, 0, 0), [], []), (29, .lcmp, 1, (0, 0, 0), [], []), (30, .ifCond .le 9, 3, (39, 0, 0), [], []), (33, .iconst 1, 1, (0, 0, 0), [], []), (34, .iload_n 3, 1, (0, 0, 0), [], []), (35, .ishl, 1, (0, 0, 0), [], []), (36, .goto 4, 3, (40, 0, 0), [], []), (39, .iconst 0, 1, (0, 0, 0), [], []), (40, .ior, 1, (0, 0, 0), [], []), (41, .istore_n 2, 1, (0, 0, 0), [], []), (42, .iinc 3 1, 3, (0, 0, 0), [], []), (45, .goto (-41), 3, (4, 0, 0), [], []), (48, .iload_n 2, 1, (0, 0, 0), [], []), (49, .ireturn, 1, (0, 0, 0), [], [])]
def mX10_usefulSet : pM := (yX10_usefulSet, cX10_usefulSet, 4, (some .int), 1223, tX10_usefulSet)
def tX10_useful : List pI := [(0, .aload_n 0, 1, (0, 0, 0), [], []), (1, .iload_n 1, 1, (0, 0, 0), [], []), (2, .invokevirtual 207, 3, (173, 1, 9), [1190, 1192, 54, 77], []), (5, .ifCond .eq 11, 3, (16, 0, 0), [], []), (8, .aload_n 0, 1, (0, 0, 0), [], []), (9, .iload_n 1, 1, (0, 0, 0), [], []), (10, .invokevirtual 224, 3, (180, 1, 9), [1220, 1222, 58, 77], []), (13, .goto 4, 3, (17, 0, 0), [], []), (16, .iconst (-1), 1, (0, 0, 0), [], []), (17, .ireturn, 1, (0, 0, 0), [], [])]
def mX10_useful : pM := (yX10_useful, cX10_useful, 2, (some .int), 1219, tX10_useful)
def tX10_end : List pI := [(0, .iload_n 1, 1, (0, 0, 0), [], []), (1, .iconst (-1), 1, (0, 0, 0), [], []), (2, .if_icmp .ge 5, 3, (7, 0, 0), [], []), (5, .iconst (-1), 1, (0, 0, 0), [], []), (6, .ireturn, 1, (0, 0, 0), [], []), (7, .aload_n 0, 1, (0, 0, 0), [], []), (8, .getfield 183, 3, (9, 15, 0), [946], []), (11, .ifCond .ne 6, 3, (17, 0, 0), [], []), (14, .bipush (-2), 2, (0, 0, 0), [], []), (16, .ireturn, 1, (0, 0, 0), [], []), (17, .aload_n 0, 1, (0, 0, 0), [], []), (18, .aload_n 0, 1, (0, 0, 0), [], []), (19, .getfield 204, 3, (9, 16, 0), [947], []), (22, .invokevirtual 224, 3, (180, 1, 9), [1220, 1222, 58, 77], []), (25, .istore_n 2, 1, (0, 0, 0), [], []), (26, .iload_n 1, 1, (0, 0, 0), [], []), (27, .iconst (-1), 1, (0, 0, 0), [], []), (28, .if_icmp .ne 8, 3, (36, 0, 0), [], []), (31, .iload_n 2, 1, (0, 0, 0), [], []), (32, .invokestatic 119, 3, (135, 1, 0), [1044, 1045, 77], []), (35, .ireturn, 1, (0, 0, 0), [], []), (36, .iload_n 1, 1, (0, 0, 0), [], []), (37, .istore_n 3, 1, (0, 0, 0), [], []), (38, .iconst 0, 1, (0, 0, 0), [], []), (39, .istore 4, 2, (0, 0, 0), [], []), (41, .iload 4, 2, (0, 0, 0), [], [0, 2, 3, 4]), (43, .bipush (-4), 2, (0, 0, 0), [], []), (45, .if_icmp .eq 33, 3, (78, 0, 0), [], []), (48, .iload_n 2, 1, (0, 0, 0), [], []), (49, .iload 4, 2, (0, 0, 0), [], []), (51, .invokestatic 72, 3, (121, 2, 0), [919, 920, 77], []), (54, .ifCond .eq 13, 3, (67, 0, 0), [], []), (57, .iload_n 3, 1, (0, 0, 0), [], []), (58, .ifCond .ne 6, 3, (64, 0, 0), [], []), (61, .iload 4, 2, (0, 0, 0), [], []), (63, .ireturn, 1, (0, 0, 0), [], []), (64, .iinc 3 (-1), 3, (0, 0, 0), [], []), (67, .aload_n 0, 1, (0, 0, 0), [], []), (68, .iload 4, 2, (0, 0, 0), [], []), (70, .invokevirtual 103, 3, (137, 1, 9), [1032, 1034, 38, 77], []), (73, .istore 4, 2, (0, 0, 0), [], []), (75, .goto (-34), 3, (41, 0, 0), [], []), (78, .bipush (-4), 2, (0, 0, 0), [], []), (80, .ireturn, 1, (0, 0, 0), [], [])]
def mX10_end : pM := (yX10_end, cX10_end, 5, (some .int), 1227, tX10_end)
def tX10_mostFigures : List pI := [(0, .iconst 0, 1, (0, 0, 0), [], []), (1, .istore_n 1, 1, (0, 0, 0), [], []), (2, .iconst 1, 1, (0, 0, 0), [], []), (3, .istore_n 2, 1, (0, 0, 0), [], []), (4, .iload_n 2, 1, (0, 0, 0), [], [0, 1, 2]), (5, .bipush 24, 2, (0, 0, 0), [], []), (7, .if_icmp .ge 45, 3, (52, 0, 0), [], []), (10, .aload_n 0, 1, (0, 0, 0), [], []), (11, .getfield 68, 3, (9, 0, 0), [931], []), (14, .iload_n 2, 1, (0, 0, 0), [], []), (15, .invokestatic 72, 3, (121, 2, 0), [919, 920, 77], []), (18, .ifCond .eq 15, 3, (33, 0, 0), [], []), (21, .aload_n 0, 1, (0, 0, 0), [], []), (22, .getfield 16, 3, (9, 5, 0), [936], []), (25, .iload_n 2, 1, (0, 0, 0), [], []), (26, .iaload, 1, (0, 0, 0), [], []), (27, .invokestatic 125, 3, (130, 1, 0), [1058, 1059, 77], []), (30, .goto 4, 3, (34, 0, 0), [], []), (33, .iconst 0, 1, (0, 0, 0), [], []), (34, .istore_n 3, 1, (0, 0, 0), [], []), (35, .iload_n 3, 1, (0, 0, 0), [], []), (36, .iload_n 1, 1, (0, 0, 0), [], []), (37, .if_icmp .le 7, 3, (44, 0, 0), [], []), (40, .iload_n 3, 1, (0, 0, 0), [], []), (41, .goto 4, 3, (45, 0, 0), [], []), (44, .iload_n 1, 1, (0, 0, 0), [], []), (45, .istore_n 1, 1, (0, 0, 0), [], []), (46, .iinc 2 1, 3, (0, 0, 0), [], []), (49, .goto (-45), 3, (4, 0, 0), [], []), (52, .iload_n 1, 1, (0, 0, 0), [], []), (53, .ireturn, 1, (0, 0, 0), [], [])]
def mX10_mostFigures : pM := (yX10_mostFigures, cX10_mostFigures, 4, (some .int), 1235, tX10_mostFigures)
def tX10_mostKeys : List pI := [(0, .iconst 0, 1, (0, 0, 0), [], []), (1, .istore_n 1, 1, (0, 0, 0), [], []), (2, .iconst 0, 1, (0, 0, 0), [], []), (3, .istore_n 2, 1, (0, 0, 0), [], []), (4, .iload_n 2, 1, (0, 0, 0), [], [0, 1, 2]), (5, .bipush 24, 2, (0, 0, 0), [], []), (7, .if_icmp .ge 41, 3, (48, 0, 0), [], []), (10, .aload_n 0, 1, (0, 0, 0), [], []), (11, .getfield 68, 3, (9, 0, 0), [931], []), (14, .iload_n 2, 1, (0, 0, 0), [], []), (15, .invokestatic 72, 3, (121, 2, 0), [919, 920, 77], []), (18, .ifCond .eq 11, 3, (29, 0, 0), [], []), (21, .aload_n 0, 1, (0, 0, 0), [], []), (22, .iload_n 2, 1, (0, 0, 0), [], []), (23, .invokevirtual 110, 3, (136, 1, 9), [1024, 1026, 36, 77], []), (26, .goto 4, 3, (30, 0, 0), [], []), (29, .iconst 0, 1, (0, 0, 0), [], []), (30, .istore_n 3, 1, (0, 0, 0), [], []), (31, .iload_n 3, 1, (0, 0, 0), [], []), (32, .iload_n 1, 1, (0, 0, 0), [], []), (33, .if_icmp .le 7, 3, (40, 0, 0), [], []), (36, .iload_n 3, 1, (0, 0, 0), [], []), (37, .goto 4, 3, (41, 0, 0), [], []), (40, .iload_n 1, 1, (0, 0, 0), [], []), (41, .istore_n 1, 1, (0, 0, 0), [], []), (42, .iinc 2 1, 3, (0, 0, 0), [], []), (45, .goto (-41), 3, (4, 0, 0), [], []), (48, .iload_n 1, 1, (0, 0, 0), [], []), (49, .ireturn, 1, (0, 0, 0), [], [])]
def mX10_mostKeys : pM := (yX10_mostKeys, cX10_mostKeys, 4, (some .int), 1239, tX10_mostKeys)
def tX10_count : List pI := [(0, .iload_n 1, 1, (0, 0, 0), [], []), (1, .iconst 0, 1, (0, 0, 0), [], []), (2, .bipush 8, 2, (0, 0, 0), [], []), (4, .invokestatic 64, 3, (120, 3, 0), [1021, 1022, 77], []), (7, .ifCond .ne 5, 3, (12, 0, 0), [], []), (10, .iconst (-1), 1, (0, 0, 0), [], []), (11, .ireturn, 1, (0, 0, 0), [], []), (12, .iload_n 1, 1, (0, 0, 0), [], []), (13, .tableswitch 90 0 7 #[47, 55, 60, 65, 70, 75, 80, 85], 47, (0, 0, 0), [], []), (60, .aload_n 0, 1, (0, 0, 0), [], []), (61, .getfield 68, 3, (9, 0, 0), [931], []), (64, .invokestatic 186, 3, (167, 1, 0), [1168, 1169, 77], []), (67, .ireturn, 1, (0, 0, 0), [], []), (68, .aload_n 0, 1, (0, 0, 0), [], []), (69, .getfield 76, 3, (9, 1, 0), [932], []), (72, .ireturn, 1, (0, 0, 0), [], []), (73, .aload_n 0, 1, (0, 0, 0), [], []), (74, .getfield 183, 3, (9, 15, 0), [946], []), (77, .ireturn, 1, (0, 0, 0), [], []), (78, .aload_n 0, 1, (0, 0, 0), [], []), (79, .invokevirtual 227, 3, (183, 0, 9), [1232, 1234, 59, 77], []), (82, .ireturn, 1, (0, 0, 0), [], []), (83, .aload_n 0, 1, (0, 0, 0), [], []), (84, .invokevirtual 230, 3, (184, 0, 9), [1236, 1238, 60, 77], []), (87, .ireturn, 1, (0, 0, 0), [], []), (88, .aload_n 0, 1, (0, 0, 0), [], []), (89, .getfield 84, 3, (9, 2, 0), [933], []), (92, .ireturn, 1, (0, 0, 0), [], []), (93, .aload_n 0, 1, (0, 0, 0), [], []), (94, .getfield 128, 3, (9, 7, 0), [938], []), (97, .ireturn, 1, (0, 0, 0), [], []), (98, .aload_n 0, 1, (0, 0, 0), [], []), (99, .getfield 144, 3, (9, 9, 0), [940], []), (102, .ireturn, 1, (0, 0, 0), [], []), (103, .aload_n 0, 1, (0, 0, 0), [], []), (104, .getfield 147, 3, (9, 11, 0), [942], []), (107, .ireturn, 1, (0, 0, 0), [], [])]
def mX10_count : pM := (yX10_count, cX10_count, 2, (some .int), 1231, tX10_count)
def tJ6_bitCount_0f7a4 : List pI := [(0, .iload_n 0, 1, (0, 0, 0), [], []), (1, .iload_n 0, 1, (0, 0, 0), [], []), (2, .iconst 1, 1, (0, 0, 0), [], []), (3, .iushr, 1, (0, 0, 0), [], []), (4, .ldc_w 265, 3, (1431655765, 0, 0), [655], []), (7, .iand, 1, (0, 0, 0), [], []), (8, .isub, 1, (0, 0, 0), [], []), (9, .istore_n 0, 1, (0, 0, 0), [], []), (10, .iload_n 0, 1, (0, 0, 0), [], []), (11, .ldc_w 266, 3, (858993459, 0, 0), [656], []), (14, .iand, 1, (0, 0, 0), [], []), (15, .iload_n 0, 1, (0, 0, 0), [], []), (16, .iconst 2, 1, (0, 0, 0), [], []), (17, .iushr, 1, (0, 0, 0), [], []), (18, .ldc_w 266, 3, (858993459, 0, 0), [656], []), (21, .iand, 1, (0, 0, 0), [], []), (22, .iadd, 1, (0, 0, 0), [], []), (23, .istore_n 0, 1, (0, 0, 0), [], []), (24, .iload_n 0, 1, (0, 0, 0), [], []), (25, .iload_n 0, 1, (0, 0, 0), [], []), (26, .iconst 4, 1, (0, 0, 0), [], []), (27, .iushr, 1, (0, 0, 0), [], []), (28, .iadd, 1, (0, 0, 0), [], []), (29, .ldc_w 267, 3, (252645135, 0, 0), [657], []), (32, .iand, 1, (0, 0, 0), [], []), (33, .istore_n 0, 1, (0, 0, 0), [], []), (34, .iload_n 0, 1, (0, 0, 0), [], []), (35, .iload_n 0, 1, (0, 0, 0), [], []), (36, .bipush 8, 2, (0, 0, 0), [], []), (38, .iushr, 1, (0, 0, 0), [], []), (39, .iadd, 1, (0, 0, 0), [], []), (40, .istore_n 0, 1, (0, 0, 0), [], []), (41, .iload_n 0, 1, (0, 0, 0), [], []), (42, .iload_n 0, 1, (0, 0, 0), [], []), (43, .bipush 16, 2, (0, 0, 0), [], []), (45, .iushr, 1, (0, 0, 0), [], []), (46, .iadd, 1, (0, 0, 0), [], []), (47, .istore_n 0, 1, (0, 0, 0), [], []), (48, .iload_n 0, 1, (0, 0, 0), [], []), (49, .bipush 63, 2, (0, 0, 0), [], []), (51, .iand, 1, (0, 0, 0), [], []), (52, .ireturn, 1, (0, 0, 0), [], [])]
def mJ6_bitCount_0f7a4 : pM := (yJ6_bitCount_0f7a4, cJ6_bitCount_0f7a4, 1, (some .int), 654, tJ6_bitCount_0f7a4)
def tJ7_fill_d0a16 : List pI := [(0, .iconst 0, 1, (0, 0, 0), [], []), (1, .istore_n 3, 1, (0, 0, 0), [], []), (2, .aload_n 0, 1, (0, 0, 0), [], []), (3, .arraylength, 1, (0, 0, 0), [], []), (4, .istore 4, 2, (0, 0, 0), [], []), (6, .iload_n 3, 1, (0, 0, 0), [], [0, 1, 3, 4]), (7, .iload 4, 2, (0, 0, 0), [], []), (9, .if_icmp .ge 13, 3, (22, 0, 0), [], []), (12, .aload_n 0, 1, (0, 0, 0), [], []), (13, .iload_n 3, 1, (0, 0, 0), [], []), (14, .lload_n 1, 1, (0, 0, 0), [], []), (15, .lastore, 1, (0, 0, 0), [], []), (16, .iinc 3 1, 3, (0, 0, 0), [], []), (19, .goto (-13), 3, (6, 0, 0), [], []), (22, .return_, 1, (0, 0, 0), [], [])]
def mJ7_fill_d0a16 : pM := (yJ7_fill_d0a16, cJ7_fill_d0a16, 5, none, 812, tJ7_fill_d0a16)
def p_T : List pM := [mX0_choose, mX0_pick, mX0_length, mX0_figures, mX1_size, mX1_isFull, mX1_add, mX1_clear, mX1_letterAt, mX2_run, mX2_total, mX2_ways, mX2_countOwn, mX2_product, mX2_countHung, mX2_countRest, mX2_countOther, mX2_sourceOf, mX2_reachesOn, mX3_read, mX3_takeFollower, mX3_take, mX3_isRank, mX3_size, mX3_rankOf, mX3_nodeAt, mX3_parentAt, mX3_elderAt, mX3_levelAt, mX3_kidsAt, mX3_belowAt, mX3_spans, mX3_bitsFrom, mX3_mostLevels, mX4_size, mX4_clear, mX4_record, mX4_forgetFirst, mX4_restore, mX5_clear, mX5_copyFrom, mX5_size, mX5_has, mX5_add, mX5_setLastOutermost, mX5_lastOutermost, mX5_tagOf, mX5_hangOf, mX5_axisOf, mX5_fits, mX6_read, mX6_takes, mX6_takesTag, mX6_takesAxis, mX6_axisFor, mX6_opens, mX6_closes, mX7_clear, mX7_copyFrom, mX7_isNumber, mX7_isThere, mX7_isFull, mX7_came, mX7_kind, mX7_setKind, mX7_bits, mX7_tagOf, mX7_setTag, mX7_parentOf, mX7_spotOf, mX7_add, mX7_remove, mX7_rewind, mX7_kidsOf, mX7_nextKid, mX7_childAt, mX7_spotFor, mX8_read, mX8_numbersBehind, mX8_readNumbers, mX8_readNumber, mX8_figureAt, mX8_apply, mX8_applyKind, mX8_applyRoot, mX8_applyNode, mX9_write, mX9_wipe, mX9_fault, mX9_lay, mX9_node, mX9_child, mX9_key, mX9_at, mX9_grow, mX9_cut, mX9_tag, mX9_undo, mX9_between, mX9_ahead, mX9_above, mX9_meet, mX9_pattern, mX9_step, mX9_matches, mX9_puts, mX9_useful, mX9_end, mX9_keep, mX9_back, mX9_count, mX9_settle, mX9_matchAll, mX9_keptTree, mX9_isPlace, mX9_isTag, mX9_isKeyPart, mX9_keyPart, mX9_climb, mX9_mostFigures, mX10_in, mX10_has, mX10_isNode, mX10_isTag, mX10_root, mX10_childMany, mX10_childBehind, mX10_childAt, mX10_keyBetween, mX10_keyFor, mX10_figuresOf, mX10_numberOf, mX10_comes, mX10_isOver, mX10_belowSet, mX10_bits, mX10_deepOf, mX10_behind, mX10_placeOf, mX10_node, mX10_child, mX10_key, mX10_at, mX10_lays, mX10_takes, mX10_notes, mX10_grow, mX10_cut, mX10_tag, mX10_undo, mX10_keep, mX10_back, mX10_between, mX10_ahead, mX10_above, mX10_meet, mX10_write, mX10_wipe, mX10_here, mX10_isFigure, mX10_number, mX10_readsKind, mX10_readsRoot, mX10_readsNode, mX10_readsItem, mX10_reads, mX10_fault, mX10_many, mX10_lay, mX10_axisBy, mX10_readsStep, mX10_readsPattern, mX10_pattern, mX10_isStep, mX10_step, mX10_stands, mX10_waysBy, mX10_sumOf, mX10_matches, mX10_puts, mX10_usefulSet, mX10_useful, mX10_end, mX10_mostFigures, mX10_mostKeys, mX10_count, mJ6_bitCount_0f7a4, mJ7_fill_d0a16]
end
section
/-! the checks of the tables -/
theorem okc_0 : (∀ w ∈ u_ws RX1 TX1 2, w ∈ p_W) := by decide +kernel
theorem okc_1 : (∀ w ∈ u_ws RX2 TX2 7, w ∈ p_W) := by decide +kernel
theorem okc_2 : (∀ w ∈ u_ws RX3 TX3 8, w ∈ p_W) := by decide +kernel
theorem okc_3 : (∀ w ∈ u_ws RX4 TX4 5, w ∈ p_W) := by decide +kernel
theorem okc_4 : (∀ w ∈ u_ws RX5 TX5 5, w ∈ p_W) := by decide +kernel
theorem okc_5 : (∀ w ∈ u_ws RX6 TX6 5, w ∈ p_W) := by decide +kernel
theorem okc_6 : (∀ w ∈ u_ws RX7 TX7 6, w ∈ p_W) := by decide +kernel
theorem okc_7 : (∀ w ∈ u_ws RX8 TX8 3, w ∈ p_W) := by decide +kernel
theorem okc_8 : (∀ w ∈ u_ws RX9 TX9 14, w ∈ p_W) := by decide +kernel
theorem okc_9 : (∀ w ∈ u_ws RX10 TX10 27, w ∈ p_W) := by decide +kernel
theorem p_Cs_ok : p_okC p_Cs := by
  intro ci q hq
  match ci, hq with
  | 0, hq => cases hq; exact ⟨okc_0, tyX1_ok, nmX1⟩
  | 1, hq => cases hq; exact ⟨okc_1, tyX2_ok, nmX2⟩
  | 2, hq => cases hq; exact ⟨okc_2, tyX3_ok, nmX3⟩
  | 3, hq => cases hq; exact ⟨okc_3, tyX4_ok, nmX4⟩
  | 4, hq => cases hq; exact ⟨okc_4, tyX5_ok, nmX5⟩
  | 5, hq => cases hq; exact ⟨okc_5, tyX6_ok, nmX6⟩
  | 6, hq => cases hq; exact ⟨okc_6, tyX7_ok, nmX7⟩
  | 7, hq => cases hq; exact ⟨okc_7, tyX8_ok, nmX8⟩
  | 8, hq => cases hq; exact ⟨okc_8, tyX9_ok, nmX9⟩
  | 9, hq => cases hq; exact ⟨okc_9, tyX10_ok, nmX10⟩
  | k + 10, hq => simp [p_Cs] at hq
theorem okX0_choose : p_okM p_Cs p_T mX0_choose := ⟨List.all_eq_true.mp (by decide +kernel : tX0_choose.all (p_okI p_Cs p_T mX0_choose) = true), List.mem_filter.mpr ⟨List.mem_of_getElem? (i := 422) (by decide +kernel), by decide +kernel⟩, by decide +kernel, by decide⟩
theorem okX0_pick : p_okM p_Cs p_T mX0_pick := ⟨List.all_eq_true.mp (by decide +kernel : tX0_pick.all (p_okI p_Cs p_T mX0_pick) = true), List.mem_filter.mpr ⟨List.mem_of_getElem? (i := 426) (by decide +kernel), by decide +kernel⟩, by decide +kernel, by decide⟩
theorem okX0_length : p_okM p_Cs p_T mX0_length := ⟨List.all_eq_true.mp (by decide +kernel : tX0_length.all (p_okI p_Cs p_T mX0_length) = true), List.mem_filter.mpr ⟨List.mem_of_getElem? (i := 604) (by decide +kernel), by decide +kernel⟩, by decide +kernel, by decide⟩
theorem okX0_figures : p_okM p_Cs p_T mX0_figures := ⟨List.all_eq_true.mp (by decide +kernel : tX0_figures.all (p_okI p_Cs p_T mX0_figures) = true), List.mem_filter.mpr ⟨List.mem_of_getElem? (i := 601) (by decide +kernel), by decide +kernel⟩, by decide +kernel, by decide⟩
theorem okX1_size : p_okM p_Cs p_T mX1_size := ⟨List.all_eq_true.mp (by decide +kernel : tX1_size.all (p_okI p_Cs p_T mX1_size) = true), List.mem_filter.mpr ⟨List.mem_of_getElem? (i := 336) (by decide +kernel), by decide +kernel⟩, by decide +kernel, by decide⟩
theorem okX1_isFull : p_okM p_Cs p_T mX1_isFull := ⟨List.all_eq_true.mp (by decide +kernel : tX1_isFull.all (p_okI p_Cs p_T mX1_isFull) = true), List.mem_filter.mpr ⟨List.mem_of_getElem? (i := 520) (by decide +kernel), by decide +kernel⟩, by decide +kernel, by decide⟩
theorem okX1_add : p_okM p_Cs p_T mX1_add := ⟨List.all_eq_true.mp (by decide +kernel : tX1_add.all (p_okI p_Cs p_T mX1_add) = true), List.mem_filter.mpr ⟨List.mem_of_getElem? (i := 324) (by decide +kernel), by decide +kernel⟩, by decide +kernel, by decide⟩
theorem okX1_clear : p_okM p_Cs p_T mX1_clear := ⟨List.all_eq_true.mp (by decide +kernel : tX1_clear.all (p_okI p_Cs p_T mX1_clear) = true), List.mem_filter.mpr ⟨List.mem_of_getElem? (i := 433) (by decide +kernel), by decide +kernel⟩, by decide +kernel, by decide⟩
theorem okX1_letterAt : p_okM p_Cs p_T mX1_letterAt := ⟨List.all_eq_true.mp (by decide +kernel : tX1_letterAt.all (p_okI p_Cs p_T mX1_letterAt) = true), List.mem_filter.mpr ⟨List.mem_of_getElem? (i := 340) (by decide +kernel), by decide +kernel⟩, by decide +kernel, by decide⟩
theorem okX2_run : p_okM p_Cs p_T mX2_run := ⟨List.all_eq_true.mp (by decide +kernel : tX2_run.all (p_okI p_Cs p_T mX2_run) = true), List.mem_filter.mpr ⟨List.mem_of_getElem? (i := 788) (by decide +kernel), by decide +kernel⟩, by decide +kernel, by decide⟩
theorem okX2_total : p_okM p_Cs p_T mX2_total := ⟨List.all_eq_true.mp (by decide +kernel : tX2_total.all (p_okI p_Cs p_T mX2_total) = true), List.mem_filter.mpr ⟨List.mem_of_getElem? (i := 838) (by decide +kernel), by decide +kernel⟩, by decide +kernel, by decide⟩
theorem okX2_ways : p_okM p_Cs p_T mX2_ways := ⟨List.all_eq_true.mp (by decide +kernel : tX2_ways.all (p_okI p_Cs p_T mX2_ways) = true), List.mem_filter.mpr ⟨List.mem_of_getElem? (i := 847) (by decide +kernel), by decide +kernel⟩, by decide +kernel, by decide⟩
theorem okX2_countOwn : p_okM p_Cs p_T mX2_countOwn := ⟨List.all_eq_true.mp (by decide +kernel : tX2_countOwn.all (p_okI p_Cs p_T mX2_countOwn) = true), List.mem_filter.mpr ⟨List.mem_of_getElem? (i := 793) (by decide +kernel), by decide +kernel⟩, by decide +kernel, by decide⟩
theorem okX2_product : p_okM p_Cs p_T mX2_product := ⟨List.all_eq_true.mp (by decide +kernel : tX2_product.all (p_okI p_Cs p_T mX2_product) = true), List.mem_filter.mpr ⟨List.mem_of_getElem? (i := 798) (by decide +kernel), by decide +kernel⟩, by decide +kernel, by decide⟩
theorem okX2_countHung : p_okM p_Cs p_T mX2_countHung := ⟨List.all_eq_true.mp (by decide +kernel : tX2_countHung.all (p_okI p_Cs p_T mX2_countHung) = true), List.mem_filter.mpr ⟨List.mem_of_getElem? (i := 809) (by decide +kernel), by decide +kernel⟩, by decide +kernel, by decide⟩
theorem okX2_countRest : p_okM p_Cs p_T mX2_countRest := ⟨List.all_eq_true.mp (by decide +kernel : tX2_countRest.all (p_okI p_Cs p_T mX2_countRest) = true), List.mem_filter.mpr ⟨List.mem_of_getElem? (i := 830) (by decide +kernel), by decide +kernel⟩, by decide +kernel, by decide⟩
theorem okX2_countOther : p_okM p_Cs p_T mX2_countOther := ⟨List.all_eq_true.mp (by decide +kernel : tX2_countOther.all (p_okI p_Cs p_T mX2_countOther) = true), List.mem_filter.mpr ⟨List.mem_of_getElem? (i := 834) (by decide +kernel), by decide +kernel⟩, by decide +kernel, by decide⟩
theorem okX2_sourceOf : p_okM p_Cs p_T mX2_sourceOf := ⟨List.all_eq_true.mp (by decide +kernel : tX2_sourceOf.all (p_okI p_Cs p_T mX2_sourceOf) = true), List.mem_filter.mpr ⟨List.mem_of_getElem? (i := 816) (by decide +kernel), by decide +kernel⟩, by decide +kernel, by decide⟩
theorem okX2_reachesOn : p_okM p_Cs p_T mX2_reachesOn := ⟨List.all_eq_true.mp (by decide +kernel : tX2_reachesOn.all (p_okI p_Cs p_T mX2_reachesOn) = true), List.mem_filter.mpr ⟨List.mem_of_getElem? (i := 826) (by decide +kernel), by decide +kernel⟩, by decide +kernel, by decide⟩
theorem okX3_read : p_okM p_Cs p_T mX3_read := ⟨List.all_eq_true.mp (by decide +kernel : tX3_read.all (p_okI p_Cs p_T mX3_read) = true), List.mem_filter.mpr ⟨List.mem_of_getElem? (i := 441) (by decide +kernel), by decide +kernel⟩, by decide +kernel, by decide⟩
theorem okX3_takeFollower : p_okM p_Cs p_T mX3_takeFollower := ⟨List.all_eq_true.mp (by decide +kernel : tX3_takeFollower.all (p_okI p_Cs p_T mX3_takeFollower) = true), List.mem_filter.mpr ⟨List.mem_of_getElem? (i := 458) (by decide +kernel), by decide +kernel⟩, by decide +kernel, by decide⟩
theorem okX3_take : p_okM p_Cs p_T mX3_take := ⟨List.all_eq_true.mp (by decide +kernel : tX3_take.all (p_okI p_Cs p_T mX3_take) = true), List.mem_filter.mpr ⟨List.mem_of_getElem? (i := 446) (by decide +kernel), by decide +kernel⟩, by decide +kernel, by decide⟩
theorem okX3_isRank : p_okM p_Cs p_T mX3_isRank := ⟨List.all_eq_true.mp (by decide +kernel : tX3_isRank.all (p_okI p_Cs p_T mX3_isRank) = true), List.mem_filter.mpr ⟨List.mem_of_getElem? (i := 454) (by decide +kernel), by decide +kernel⟩, by decide +kernel, by decide⟩
theorem okX3_size : p_okM p_Cs p_T mX3_size := ⟨List.all_eq_true.mp (by decide +kernel : tX3_size.all (p_okI p_Cs p_T mX3_size) = true), List.mem_filter.mpr ⟨List.mem_of_getElem? (i := 553) (by decide +kernel), by decide +kernel⟩, by decide +kernel, by decide⟩
theorem okX3_rankOf : p_okM p_Cs p_T mX3_rankOf := ⟨List.all_eq_true.mp (by decide +kernel : tX3_rankOf.all (p_okI p_Cs p_T mX3_rankOf) = true), List.mem_filter.mpr ⟨List.mem_of_getElem? (i := 561) (by decide +kernel), by decide +kernel⟩, by decide +kernel, by decide⟩
theorem okX3_nodeAt : p_okM p_Cs p_T mX3_nodeAt := ⟨List.all_eq_true.mp (by decide +kernel : tX3_nodeAt.all (p_okI p_Cs p_T mX3_nodeAt) = true), List.mem_filter.mpr ⟨List.mem_of_getElem? (i := 462) (by decide +kernel), by decide +kernel⟩, by decide +kernel, by decide⟩
theorem okX3_parentAt : p_okM p_Cs p_T mX3_parentAt := ⟨List.all_eq_true.mp (by decide +kernel : tX3_parentAt.all (p_okI p_Cs p_T mX3_parentAt) = true), List.mem_filter.mpr ⟨List.mem_of_getElem? (i := 467) (by decide +kernel), by decide +kernel⟩, by decide +kernel, by decide⟩
theorem okX3_elderAt : p_okM p_Cs p_T mX3_elderAt := ⟨List.all_eq_true.mp (by decide +kernel : tX3_elderAt.all (p_okI p_Cs p_T mX3_elderAt) = true), List.mem_filter.mpr ⟨List.mem_of_getElem? (i := 822) (by decide +kernel), by decide +kernel⟩, by decide +kernel, by decide⟩
theorem okX3_levelAt : p_okM p_Cs p_T mX3_levelAt := ⟨List.all_eq_true.mp (by decide +kernel : tX3_levelAt.all (p_okI p_Cs p_T mX3_levelAt) = true), List.mem_filter.mpr ⟨List.mem_of_getElem? (i := 450) (by decide +kernel), by decide +kernel⟩, by decide +kernel, by decide⟩
theorem okX3_kidsAt : p_okM p_Cs p_T mX3_kidsAt := ⟨List.all_eq_true.mp (by decide +kernel : tX3_kidsAt.all (p_okI p_Cs p_T mX3_kidsAt) = true), List.mem_filter.mpr ⟨List.mem_of_getElem? (i := 573) (by decide +kernel), by decide +kernel⟩, by decide +kernel, by decide⟩
theorem okX3_belowAt : p_okM p_Cs p_T mX3_belowAt := ⟨List.all_eq_true.mp (by decide +kernel : tX3_belowAt.all (p_okI p_Cs p_T mX3_belowAt) = true), List.mem_filter.mpr ⟨List.mem_of_getElem? (i := 578) (by decide +kernel), by decide +kernel⟩, by decide +kernel, by decide⟩
theorem okX3_spans : p_okM p_Cs p_T mX3_spans := ⟨List.all_eq_true.mp (by decide +kernel : tX3_spans.all (p_okI p_Cs p_T mX3_spans) = true), List.mem_filter.mpr ⟨List.mem_of_getElem? (i := 698) (by decide +kernel), by decide +kernel⟩, by decide +kernel, by decide⟩
theorem okX3_bitsFrom : p_okM p_Cs p_T mX3_bitsFrom := ⟨List.all_eq_true.mp (by decide +kernel : tX3_bitsFrom.all (p_okI p_Cs p_T mX3_bitsFrom) = true), List.mem_filter.mpr ⟨List.mem_of_getElem? (i := 646) (by decide +kernel), by decide +kernel⟩, by decide +kernel, by decide⟩
theorem okX3_mostLevels : p_okM p_Cs p_T mX3_mostLevels := ⟨List.all_eq_true.mp (by decide +kernel : tX3_mostLevels.all (p_okI p_Cs p_T mX3_mostLevels) = true), List.mem_filter.mpr ⟨List.mem_of_getElem? (i := 887) (by decide +kernel), by decide +kernel⟩, by decide +kernel, by decide⟩
theorem okX4_size : p_okM p_Cs p_T mX4_size := ⟨List.all_eq_true.mp (by decide +kernel : tX4_size.all (p_okI p_Cs p_T mX4_size) = true), List.mem_filter.mpr ⟨List.mem_of_getElem? (i := 673) (by decide +kernel), by decide +kernel⟩, by decide +kernel, by decide⟩
theorem okX4_clear : p_okM p_Cs p_T mX4_clear := ⟨List.all_eq_true.mp (by decide +kernel : tX4_clear.all (p_okI p_Cs p_T mX4_clear) = true), List.mem_filter.mpr ⟨List.mem_of_getElem? (i := 549) (by decide +kernel), by decide +kernel⟩, by decide +kernel, by decide⟩
theorem okX4_record : p_okM p_Cs p_T mX4_record := ⟨List.all_eq_true.mp (by decide +kernel : tX4_record.all (p_okI p_Cs p_T mX4_record) = true), List.mem_filter.mpr ⟨List.mem_of_getElem? (i := 626) (by decide +kernel), by decide +kernel⟩, by decide +kernel, by decide⟩
theorem okX4_forgetFirst : p_okM p_Cs p_T mX4_forgetFirst := ⟨List.all_eq_true.mp (by decide +kernel : tX4_forgetFirst.all (p_okI p_Cs p_T mX4_forgetFirst) = true), List.mem_filter.mpr ⟨List.mem_of_getElem? (i := 630) (by decide +kernel), by decide +kernel⟩, by decide +kernel, by decide⟩
theorem okX4_restore : p_okM p_Cs p_T mX4_restore := ⟨List.all_eq_true.mp (by decide +kernel : tX4_restore.all (p_okI p_Cs p_T mX4_restore) = true), List.mem_filter.mpr ⟨List.mem_of_getElem? (i := 677) (by decide +kernel), by decide +kernel⟩, by decide +kernel, by decide⟩
theorem okX5_clear : p_okM p_Cs p_T mX5_clear := ⟨List.all_eq_true.mp (by decide +kernel : tX5_clear.all (p_okI p_Cs p_T mX5_clear) = true), List.mem_filter.mpr ⟨List.mem_of_getElem? (i := 545) (by decide +kernel), by decide +kernel⟩, by decide +kernel, by decide⟩
theorem okX5_copyFrom : p_okM p_Cs p_T mX5_copyFrom := ⟨List.all_eq_true.mp (by decide +kernel : tX5_copyFrom.all (p_okI p_Cs p_T mX5_copyFrom) = true), List.mem_filter.mpr ⟨List.mem_of_getElem? (i := 749) (by decide +kernel), by decide +kernel⟩, by decide +kernel, by decide⟩
theorem okX5_size : p_okM p_Cs p_T mX5_size := ⟨List.all_eq_true.mp (by decide +kernel : tX5_size.all (p_okI p_Cs p_T mX5_size) = true), List.mem_filter.mpr ⟨List.mem_of_getElem? (i := 754) (by decide +kernel), by decide +kernel⟩, by decide +kernel, by decide⟩
theorem okX5_has : p_okM p_Cs p_T mX5_has := ⟨List.all_eq_true.mp (by decide +kernel : tX5_has.all (p_okI p_Cs p_T mX5_has) = true), List.mem_filter.mpr ⟨List.mem_of_getElem? (i := 762) (by decide +kernel), by decide +kernel⟩, by decide +kernel, by decide⟩
theorem okX5_add : p_okM p_Cs p_T mX5_add := ⟨List.all_eq_true.mp (by decide +kernel : tX5_add.all (p_okI p_Cs p_T mX5_add) = true), List.mem_filter.mpr ⟨List.mem_of_getElem? (i := 726) (by decide +kernel), by decide +kernel⟩, by decide +kernel, by decide⟩
theorem okX5_setLastOutermost : p_okM p_Cs p_T mX5_setLastOutermost := ⟨List.all_eq_true.mp (by decide +kernel : tX5_setLastOutermost.all (p_okI p_Cs p_T mX5_setLastOutermost) = true), List.mem_filter.mpr ⟨List.mem_of_getElem? (i := 730) (by decide +kernel), by decide +kernel⟩, by decide +kernel, by decide⟩
theorem okX5_lastOutermost : p_okM p_Cs p_T mX5_lastOutermost := ⟨List.all_eq_true.mp (by decide +kernel : tX5_lastOutermost.all (p_okI p_Cs p_T mX5_lastOutermost) = true), List.mem_filter.mpr ⟨List.mem_of_getElem? (i := 859) (by decide +kernel), by decide +kernel⟩, by decide +kernel, by decide⟩
theorem okX5_tagOf : p_okM p_Cs p_T mX5_tagOf := ⟨List.all_eq_true.mp (by decide +kernel : tX5_tagOf.all (p_okI p_Cs p_T mX5_tagOf) = true), List.mem_filter.mpr ⟨List.mem_of_getElem? (i := 766) (by decide +kernel), by decide +kernel⟩, by decide +kernel, by decide⟩
theorem okX5_hangOf : p_okM p_Cs p_T mX5_hangOf := ⟨List.all_eq_true.mp (by decide +kernel : tX5_hangOf.all (p_okI p_Cs p_T mX5_hangOf) = true), List.mem_filter.mpr ⟨List.mem_of_getElem? (i := 771) (by decide +kernel), by decide +kernel⟩, by decide +kernel, by decide⟩
theorem okX5_axisOf : p_okM p_Cs p_T mX5_axisOf := ⟨List.all_eq_true.mp (by decide +kernel : tX5_axisOf.all (p_okI p_Cs p_T mX5_axisOf) = true), List.mem_filter.mpr ⟨List.mem_of_getElem? (i := 775) (by decide +kernel), by decide +kernel⟩, by decide +kernel, by decide⟩
theorem okX5_fits : p_okM p_Cs p_T mX5_fits := ⟨List.all_eq_true.mp (by decide +kernel : tX5_fits.all (p_okI p_Cs p_T mX5_fits) = true), List.mem_filter.mpr ⟨List.mem_of_getElem? (i := 804) (by decide +kernel), by decide +kernel⟩, by decide +kernel, by decide⟩
theorem okX6_read : p_okM p_Cs p_T mX6_read := ⟨List.all_eq_true.mp (by decide +kernel : tX6_read.all (p_okI p_Cs p_T mX6_read) = true), List.mem_filter.mpr ⟨List.mem_of_getElem? (i := 710) (by decide +kernel), by decide +kernel⟩, by decide +kernel, by decide⟩
theorem okX6_takes : p_okM p_Cs p_T mX6_takes := ⟨List.all_eq_true.mp (by decide +kernel : tX6_takes.all (p_okI p_Cs p_T mX6_takes) = true), List.mem_filter.mpr ⟨List.mem_of_getElem? (i := 717) (by decide +kernel), by decide +kernel⟩, by decide +kernel, by decide⟩
theorem okX6_takesTag : p_okM p_Cs p_T mX6_takesTag := ⟨List.all_eq_true.mp (by decide +kernel : tX6_takesTag.all (p_okI p_Cs p_T mX6_takesTag) = true), List.mem_filter.mpr ⟨List.mem_of_getElem? (i := 721) (by decide +kernel), by decide +kernel⟩, by decide +kernel, by decide⟩
theorem okX6_takesAxis : p_okM p_Cs p_T mX6_takesAxis := ⟨List.all_eq_true.mp (by decide +kernel : tX6_takesAxis.all (p_okI p_Cs p_T mX6_takesAxis) = true), List.mem_filter.mpr ⟨List.mem_of_getElem? (i := 742) (by decide +kernel), by decide +kernel⟩, by decide +kernel, by decide⟩
theorem okX6_axisFor : p_okM p_Cs p_T mX6_axisFor := ⟨List.all_eq_true.mp (by decide +kernel : tX6_axisFor.all (p_okI p_Cs p_T mX6_axisFor) = true), List.mem_filter.mpr ⟨List.mem_of_getElem? (i := 745) (by decide +kernel), by decide +kernel⟩, by decide +kernel, by decide⟩
theorem okX6_opens : p_okM p_Cs p_T mX6_opens := ⟨List.all_eq_true.mp (by decide +kernel : tX6_opens.all (p_okI p_Cs p_T mX6_opens) = true), List.mem_filter.mpr ⟨List.mem_of_getElem? (i := 734) (by decide +kernel), by decide +kernel⟩, by decide +kernel, by decide⟩
theorem okX6_closes : p_okM p_Cs p_T mX6_closes := ⟨List.all_eq_true.mp (by decide +kernel : tX6_closes.all (p_okI p_Cs p_T mX6_closes) = true), List.mem_filter.mpr ⟨List.mem_of_getElem? (i := 738) (by decide +kernel), by decide +kernel⟩, by decide +kernel, by decide⟩
theorem okX7_clear : p_okM p_Cs p_T mX7_clear := ⟨List.all_eq_true.mp (by decide +kernel : tX7_clear.all (p_okI p_Cs p_T mX7_clear) = true), List.mem_filter.mpr ⟨List.mem_of_getElem? (i := 332) (by decide +kernel), by decide +kernel⟩, by decide +kernel, by decide⟩
theorem okX7_copyFrom : p_okM p_Cs p_T mX7_copyFrom := ⟨List.all_eq_true.mp (by decide +kernel : tX7_copyFrom.all (p_okI p_Cs p_T mX7_copyFrom) = true), List.mem_filter.mpr ⟨List.mem_of_getElem? (i := 538) (by decide +kernel), by decide +kernel⟩, by decide +kernel, by decide⟩
theorem okX7_isNumber : p_okM p_Cs p_T mX7_isNumber := ⟨List.all_eq_true.mp (by decide +kernel : tX7_isNumber.all (p_okI p_Cs p_T mX7_isNumber) = true), List.mem_filter.mpr ⟨List.mem_of_getElem? (i := 397) (by decide +kernel), by decide +kernel⟩, by decide +kernel, by decide⟩
theorem okX7_isThere : p_okM p_Cs p_T mX7_isThere := ⟨List.all_eq_true.mp (by decide +kernel : tX7_isThere.all (p_okI p_Cs p_T mX7_isThere) = true), List.mem_filter.mpr ⟨List.mem_of_getElem? (i := 394) (by decide +kernel), by decide +kernel⟩, by decide +kernel, by decide⟩
theorem okX7_isFull : p_okM p_Cs p_T mX7_isFull := ⟨List.all_eq_true.mp (by decide +kernel : tX7_isFull.all (p_okI p_Cs p_T mX7_isFull) = true), List.mem_filter.mpr ⟨List.mem_of_getElem? (i := 385) (by decide +kernel), by decide +kernel⟩, by decide +kernel, by decide⟩
theorem okX7_came : p_okM p_Cs p_T mX7_came := ⟨List.all_eq_true.mp (by decide +kernel : tX7_came.all (p_okI p_Cs p_T mX7_came) = true), List.mem_filter.mpr ⟨List.mem_of_getElem? (i := 366) (by decide +kernel), by decide +kernel⟩, by decide +kernel, by decide⟩
theorem okX7_kind : p_okM p_Cs p_T mX7_kind := ⟨List.all_eq_true.mp (by decide +kernel : tX7_kind.all (p_okI p_Cs p_T mX7_kind) = true), List.mem_filter.mpr ⟨List.mem_of_getElem? (i := 892) (by decide +kernel), by decide +kernel⟩, by decide +kernel, by decide⟩
theorem okX7_setKind : p_okM p_Cs p_T mX7_setKind := ⟨List.all_eq_true.mp (by decide +kernel : tX7_setKind.all (p_okI p_Cs p_T mX7_setKind) = true), List.mem_filter.mpr ⟨List.mem_of_getElem? (i := 370) (by decide +kernel), by decide +kernel⟩, by decide +kernel, by decide⟩
theorem okX7_bits : p_okM p_Cs p_T mX7_bits := ⟨List.all_eq_true.mp (by decide +kernel : tX7_bits.all (p_okI p_Cs p_T mX7_bits) = true), List.mem_filter.mpr ⟨List.mem_of_getElem? (i := 635) (by decide +kernel), by decide +kernel⟩, by decide +kernel, by decide⟩
theorem okX7_tagOf : p_okM p_Cs p_T mX7_tagOf := ⟨List.all_eq_true.mp (by decide +kernel : tX7_tagOf.all (p_okI p_Cs p_T mX7_tagOf) = true), List.mem_filter.mpr ⟨List.mem_of_getElem? (i := 565) (by decide +kernel), by decide +kernel⟩, by decide +kernel, by decide⟩
theorem okX7_setTag : p_okM p_Cs p_T mX7_setTag := ⟨List.all_eq_true.mp (by decide +kernel : tX7_setTag.all (p_okI p_Cs p_T mX7_setTag) = true), List.mem_filter.mpr ⟨List.mem_of_getElem? (i := 665) (by decide +kernel), by decide +kernel⟩, by decide +kernel, by decide⟩
theorem okX7_parentOf : p_okM p_Cs p_T mX7_parentOf := ⟨List.all_eq_true.mp (by decide +kernel : tX7_parentOf.all (p_okI p_Cs p_T mX7_parentOf) = true), List.mem_filter.mpr ⟨List.mem_of_getElem? (i := 569) (by decide +kernel), by decide +kernel⟩, by decide +kernel, by decide⟩
theorem okX7_spotOf : p_okM p_Cs p_T mX7_spotOf := ⟨List.all_eq_true.mp (by decide +kernel : tX7_spotOf.all (p_okI p_Cs p_T mX7_spotOf) = true), List.mem_filter.mpr ⟨List.mem_of_getElem? (i := 419) (by decide +kernel), by decide +kernel⟩, by decide +kernel, by decide⟩
theorem okX7_add : p_okM p_Cs p_T mX7_add := ⟨List.all_eq_true.mp (by decide +kernel : tX7_add.all (p_okI p_Cs p_T mX7_add) = true), List.mem_filter.mpr ⟨List.mem_of_getElem? (i := 381) (by decide +kernel), by decide +kernel⟩, by decide +kernel, by decide⟩
theorem okX7_remove : p_okM p_Cs p_T mX7_remove := ⟨List.all_eq_true.mp (by decide +kernel : tX7_remove.all (p_okI p_Cs p_T mX7_remove) = true), List.mem_filter.mpr ⟨List.mem_of_getElem? (i := 651) (by decide +kernel), by decide +kernel⟩, by decide +kernel, by decide⟩
theorem okX7_rewind : p_okM p_Cs p_T mX7_rewind := ⟨List.all_eq_true.mp (by decide +kernel : tX7_rewind.all (p_okI p_Cs p_T mX7_rewind) = true), List.mem_filter.mpr ⟨List.mem_of_getElem? (i := 681) (by decide +kernel), by decide +kernel⟩, by decide +kernel, by decide⟩
theorem okX7_kidsOf : p_okM p_Cs p_T mX7_kidsOf := ⟨List.all_eq_true.mp (by decide +kernel : tX7_kidsOf.all (p_okI p_Cs p_T mX7_kidsOf) = true), List.mem_filter.mpr ⟨List.mem_of_getElem? (i := 401) (by decide +kernel), by decide +kernel⟩, by decide +kernel, by decide⟩
theorem okX7_nextKid : p_okM p_Cs p_T mX7_nextKid := ⟨List.all_eq_true.mp (by decide +kernel : tX7_nextKid.all (p_okI p_Cs p_T mX7_nextKid) = true), List.mem_filter.mpr ⟨List.mem_of_getElem? (i := 414) (by decide +kernel), by decide +kernel⟩, by decide +kernel, by decide⟩
theorem okX7_childAt : p_okM p_Cs p_T mX7_childAt := ⟨List.all_eq_true.mp (by decide +kernel : tX7_childAt.all (p_okI p_Cs p_T mX7_childAt) = true), List.mem_filter.mpr ⟨List.mem_of_getElem? (i := 410) (by decide +kernel), by decide +kernel⟩, by decide +kernel, by decide⟩
theorem okX7_spotFor : p_okM p_Cs p_T mX7_spotFor := ⟨List.all_eq_true.mp (by decide +kernel : tX7_spotFor.all (p_okI p_Cs p_T mX7_spotFor) = true), List.mem_filter.mpr ⟨List.mem_of_getElem? (i := 406) (by decide +kernel), by decide +kernel⟩, by decide +kernel, by decide⟩
theorem okX8_read : p_okM p_Cs p_T mX8_read := ⟨List.all_eq_true.mp (by decide +kernel : tX8_read.all (p_okI p_Cs p_T mX8_read) = true), List.mem_filter.mpr ⟨List.mem_of_getElem? (i := 328) (by decide +kernel), by decide +kernel⟩, by decide +kernel, by decide⟩
theorem okX8_numbersBehind : p_okM p_Cs p_T mX8_numbersBehind := ⟨List.all_eq_true.mp (by decide +kernel : tX8_numbersBehind.all (p_okI p_Cs p_T mX8_numbersBehind) = true), List.mem_filter.mpr ⟨List.mem_of_getElem? (i := 343) (by decide +kernel), by decide +kernel⟩, by decide +kernel, by decide⟩
theorem okX8_readNumbers : p_okM p_Cs p_T mX8_readNumbers := ⟨List.all_eq_true.mp (by decide +kernel : tX8_readNumbers.all (p_okI p_Cs p_T mX8_readNumbers) = true), List.mem_filter.mpr ⟨List.mem_of_getElem? (i := 347) (by decide +kernel), by decide +kernel⟩, by decide +kernel, by decide⟩
theorem okX8_readNumber : p_okM p_Cs p_T mX8_readNumber := ⟨List.all_eq_true.mp (by decide +kernel : tX8_readNumber.all (p_okI p_Cs p_T mX8_readNumber) = true), List.mem_filter.mpr ⟨List.mem_of_getElem? (i := 351) (by decide +kernel), by decide +kernel⟩, by decide +kernel, by decide⟩
theorem okX8_figureAt : p_okM p_Cs p_T mX8_figureAt := ⟨List.all_eq_true.mp (by decide +kernel : tX8_figureAt.all (p_okI p_Cs p_T mX8_figureAt) = true), List.mem_filter.mpr ⟨List.mem_of_getElem? (i := 354) (by decide +kernel), by decide +kernel⟩, by decide +kernel, by decide⟩
theorem okX8_apply : p_okM p_Cs p_T mX8_apply := ⟨List.all_eq_true.mp (by decide +kernel : tX8_apply.all (p_okI p_Cs p_T mX8_apply) = true), List.mem_filter.mpr ⟨List.mem_of_getElem? (i := 358) (by decide +kernel), by decide +kernel⟩, by decide +kernel, by decide⟩
theorem okX8_applyKind : p_okM p_Cs p_T mX8_applyKind := ⟨List.all_eq_true.mp (by decide +kernel : tX8_applyKind.all (p_okI p_Cs p_T mX8_applyKind) = true), List.mem_filter.mpr ⟨List.mem_of_getElem? (i := 362) (by decide +kernel), by decide +kernel⟩, by decide +kernel, by decide⟩
theorem okX8_applyRoot : p_okM p_Cs p_T mX8_applyRoot := ⟨List.all_eq_true.mp (by decide +kernel : tX8_applyRoot.all (p_okI p_Cs p_T mX8_applyRoot) = true), List.mem_filter.mpr ⟨List.mem_of_getElem? (i := 374) (by decide +kernel), by decide +kernel⟩, by decide +kernel, by decide⟩
theorem okX8_applyNode : p_okM p_Cs p_T mX8_applyNode := ⟨List.all_eq_true.mp (by decide +kernel : tX8_applyNode.all (p_okI p_Cs p_T mX8_applyNode) = true), List.mem_filter.mpr ⟨List.mem_of_getElem? (i := 389) (by decide +kernel), by decide +kernel⟩, by decide +kernel, by decide⟩
theorem okX9_write : p_okM p_Cs p_T mX9_write := ⟨List.all_eq_true.mp (by decide +kernel : tX9_write.all (p_okI p_Cs p_T mX9_write) = true), List.mem_filter.mpr ⟨List.mem_of_getElem? (i := 516) (by decide +kernel), by decide +kernel⟩, by decide +kernel, by decide⟩
theorem okX9_wipe : p_okM p_Cs p_T mX9_wipe := ⟨List.all_eq_true.mp (by decide +kernel : tX9_wipe.all (p_okI p_Cs p_T mX9_wipe) = true), List.mem_filter.mpr ⟨List.mem_of_getElem? (i := 525) (by decide +kernel), by decide +kernel⟩, by decide +kernel, by decide⟩
theorem okX9_fault : p_okM p_Cs p_T mX9_fault := ⟨List.all_eq_true.mp (by decide +kernel : tX9_fault.all (p_okI p_Cs p_T mX9_fault) = true), List.mem_filter.mpr ⟨List.mem_of_getElem? (i := 529) (by decide +kernel), by decide +kernel⟩, by decide +kernel, by decide⟩
theorem okX9_lay : p_okM p_Cs p_T mX9_lay := ⟨List.all_eq_true.mp (by decide +kernel : tX9_lay.all (p_okI p_Cs p_T mX9_lay) = true), List.mem_filter.mpr ⟨List.mem_of_getElem? (i := 533) (by decide +kernel), by decide +kernel⟩, by decide +kernel, by decide⟩
theorem okX9_node : p_okM p_Cs p_T mX9_node := ⟨List.all_eq_true.mp (by decide +kernel : tX9_node.all (p_okI p_Cs p_T mX9_node) = true), List.mem_filter.mpr ⟨List.mem_of_getElem? (i := 557) (by decide +kernel), by decide +kernel⟩, by decide +kernel, by decide⟩
theorem okX9_child : p_okM p_Cs p_T mX9_child := ⟨List.all_eq_true.mp (by decide +kernel : tX9_child.all (p_okI p_Cs p_T mX9_child) = true), List.mem_filter.mpr ⟨List.mem_of_getElem? (i := 582) (by decide +kernel), by decide +kernel⟩, by decide +kernel, by decide⟩
theorem okX9_key : p_okM p_Cs p_T mX9_key := ⟨List.all_eq_true.mp (by decide +kernel : tX9_key.all (p_okI p_Cs p_T mX9_key) = true), List.mem_filter.mpr ⟨List.mem_of_getElem? (i := 587) (by decide +kernel), by decide +kernel⟩, by decide +kernel, by decide⟩
theorem okX9_at : p_okM p_Cs p_T mX9_at := ⟨List.all_eq_true.mp (by decide +kernel : tX9_at.all (p_okI p_Cs p_T mX9_at) = true), List.mem_filter.mpr ⟨List.mem_of_getElem? (i := 609) (by decide +kernel), by decide +kernel⟩, by decide +kernel, by decide⟩
theorem okX9_grow : p_okM p_Cs p_T mX9_grow := ⟨List.all_eq_true.mp (by decide +kernel : tX9_grow.all (p_okI p_Cs p_T mX9_grow) = true), List.mem_filter.mpr ⟨List.mem_of_getElem? (i := 614) (by decide +kernel), by decide +kernel⟩, by decide +kernel, by decide⟩
theorem okX9_cut : p_okM p_Cs p_T mX9_cut := ⟨List.all_eq_true.mp (by decide +kernel : tX9_cut.all (p_okI p_Cs p_T mX9_cut) = true), List.mem_filter.mpr ⟨List.mem_of_getElem? (i := 642) (by decide +kernel), by decide +kernel⟩, by decide +kernel, by decide⟩
theorem okX9_tag : p_okM p_Cs p_T mX9_tag := ⟨List.all_eq_true.mp (by decide +kernel : tX9_tag.all (p_okI p_Cs p_T mX9_tag) = true), List.mem_filter.mpr ⟨List.mem_of_getElem? (i := 661) (by decide +kernel), by decide +kernel⟩, by decide +kernel, by decide⟩
theorem okX9_undo : p_okM p_Cs p_T mX9_undo := ⟨List.all_eq_true.mp (by decide +kernel : tX9_undo.all (p_okI p_Cs p_T mX9_undo) = true), List.mem_filter.mpr ⟨List.mem_of_getElem? (i := 669) (by decide +kernel), by decide +kernel⟩, by decide +kernel, by decide⟩
theorem okX9_between : p_okM p_Cs p_T mX9_between := ⟨List.all_eq_true.mp (by decide +kernel : tX9_between.all (p_okI p_Cs p_T mX9_between) = true), List.mem_filter.mpr ⟨List.mem_of_getElem? (i := 686) (by decide +kernel), by decide +kernel⟩, by decide +kernel, by decide⟩
theorem okX9_ahead : p_okM p_Cs p_T mX9_ahead := ⟨List.all_eq_true.mp (by decide +kernel : tX9_ahead.all (p_okI p_Cs p_T mX9_ahead) = true), List.mem_filter.mpr ⟨List.mem_of_getElem? (i := 690) (by decide +kernel), by decide +kernel⟩, by decide +kernel, by decide⟩
theorem okX9_above : p_okM p_Cs p_T mX9_above := ⟨List.all_eq_true.mp (by decide +kernel : tX9_above.all (p_okI p_Cs p_T mX9_above) = true), List.mem_filter.mpr ⟨List.mem_of_getElem? (i := 694) (by decide +kernel), by decide +kernel⟩, by decide +kernel, by decide⟩
theorem okX9_meet : p_okM p_Cs p_T mX9_meet := ⟨List.all_eq_true.mp (by decide +kernel : tX9_meet.all (p_okI p_Cs p_T mX9_meet) = true), List.mem_filter.mpr ⟨List.mem_of_getElem? (i := 702) (by decide +kernel), by decide +kernel⟩, by decide +kernel, by decide⟩
theorem okX9_pattern : p_okM p_Cs p_T mX9_pattern := ⟨List.all_eq_true.mp (by decide +kernel : tX9_pattern.all (p_okI p_Cs p_T mX9_pattern) = true), List.mem_filter.mpr ⟨List.mem_of_getElem? (i := 706) (by decide +kernel), by decide +kernel⟩, by decide +kernel, by decide⟩
theorem okX9_step : p_okM p_Cs p_T mX9_step := ⟨List.all_eq_true.mp (by decide +kernel : tX9_step.all (p_okI p_Cs p_T mX9_step) = true), List.mem_filter.mpr ⟨List.mem_of_getElem? (i := 758) (by decide +kernel), by decide +kernel⟩, by decide +kernel, by decide⟩
theorem okX9_matches : p_okM p_Cs p_T mX9_matches := ⟨List.all_eq_true.mp (by decide +kernel : tX9_matches.all (p_okI p_Cs p_T mX9_matches) = true), List.mem_filter.mpr ⟨List.mem_of_getElem? (i := 779) (by decide +kernel), by decide +kernel⟩, by decide +kernel, by decide⟩
theorem okX9_puts : p_okM p_Cs p_T mX9_puts := ⟨List.all_eq_true.mp (by decide +kernel : tX9_puts.all (p_okI p_Cs p_T mX9_puts) = true), List.mem_filter.mpr ⟨List.mem_of_getElem? (i := 842) (by decide +kernel), by decide +kernel⟩, by decide +kernel, by decide⟩
theorem okX9_useful : p_okM p_Cs p_T mX9_useful := ⟨List.all_eq_true.mp (by decide +kernel : tX9_useful.all (p_okI p_Cs p_T mX9_useful) = true), List.mem_filter.mpr ⟨List.mem_of_getElem? (i := 851) (by decide +kernel), by decide +kernel⟩, by decide +kernel, by decide⟩
theorem okX9_end : p_okM p_Cs p_T mX9_end := ⟨List.all_eq_true.mp (by decide +kernel : tX9_end.all (p_okI p_Cs p_T mX9_end) = true), List.mem_filter.mpr ⟨List.mem_of_getElem? (i := 855) (by decide +kernel), by decide +kernel⟩, by decide +kernel, by decide⟩
theorem okX9_keep : p_okM p_Cs p_T mX9_keep := ⟨List.all_eq_true.mp (by decide +kernel : tX9_keep.all (p_okI p_Cs p_T mX9_keep) = true), List.mem_filter.mpr ⟨List.mem_of_getElem? (i := 863) (by decide +kernel), by decide +kernel⟩, by decide +kernel, by decide⟩
theorem okX9_back : p_okM p_Cs p_T mX9_back := ⟨List.all_eq_true.mp (by decide +kernel : tX9_back.all (p_okI p_Cs p_T mX9_back) = true), List.mem_filter.mpr ⟨List.mem_of_getElem? (i := 871) (by decide +kernel), by decide +kernel⟩, by decide +kernel, by decide⟩
theorem okX9_count : p_okM p_Cs p_T mX9_count := ⟨List.all_eq_true.mp (by decide +kernel : tX9_count.all (p_okI p_Cs p_T mX9_count) = true), List.mem_filter.mpr ⟨List.mem_of_getElem? (i := 875) (by decide +kernel), by decide +kernel⟩, by decide +kernel, by decide⟩
theorem okX9_settle : p_okM p_Cs p_T mX9_settle := ⟨List.all_eq_true.mp (by decide +kernel : tX9_settle.all (p_okI p_Cs p_T mX9_settle) = true), List.mem_filter.mpr ⟨List.mem_of_getElem? (i := 437) (by decide +kernel), by decide +kernel⟩, by decide +kernel, by decide⟩
theorem okX9_matchAll : p_okM p_Cs p_T mX9_matchAll := ⟨List.all_eq_true.mp (by decide +kernel : tX9_matchAll.all (p_okI p_Cs p_T mX9_matchAll) = true), List.mem_filter.mpr ⟨List.mem_of_getElem? (i := 784) (by decide +kernel), by decide +kernel⟩, by decide +kernel, by decide⟩
theorem okX9_keptTree : p_okM p_Cs p_T mX9_keptTree := ⟨List.all_eq_true.mp (by decide +kernel : tX9_keptTree.all (p_okI p_Cs p_T mX9_keptTree) = true), List.mem_filter.mpr ⟨List.mem_of_getElem? (i := 867) (by decide +kernel), by decide +kernel⟩, by decide +kernel, by decide⟩
theorem okX9_isPlace : p_okM p_Cs p_T mX9_isPlace := ⟨List.all_eq_true.mp (by decide +kernel : tX9_isPlace.all (p_okI p_Cs p_T mX9_isPlace) = true), List.mem_filter.mpr ⟨List.mem_of_getElem? (i := 618) (by decide +kernel), by decide +kernel⟩, by decide +kernel, by decide⟩
theorem okX9_isTag : p_okM p_Cs p_T mX9_isTag := ⟨List.all_eq_true.mp (by decide +kernel : tX9_isTag.all (p_okI p_Cs p_T mX9_isTag) = true), List.mem_filter.mpr ⟨List.mem_of_getElem? (i := 377) (by decide +kernel), by decide +kernel⟩, by decide +kernel, by decide⟩
theorem okX9_isKeyPart : p_okM p_Cs p_T mX9_isKeyPart := ⟨List.all_eq_true.mp (by decide +kernel : tX9_isKeyPart.all (p_okI p_Cs p_T mX9_isKeyPart) = true), List.mem_filter.mpr ⟨List.mem_of_getElem? (i := 590) (by decide +kernel), by decide +kernel⟩, by decide +kernel, by decide⟩
theorem okX9_keyPart : p_okM p_Cs p_T mX9_keyPart := ⟨List.all_eq_true.mp (by decide +kernel : tX9_keyPart.all (p_okI p_Cs p_T mX9_keyPart) = true), List.mem_filter.mpr ⟨List.mem_of_getElem? (i := 598) (by decide +kernel), by decide +kernel⟩, by decide +kernel, by decide⟩
theorem okX9_climb : p_okM p_Cs p_T mX9_climb := ⟨List.all_eq_true.mp (by decide +kernel : tX9_climb.all (p_okI p_Cs p_T mX9_climb) = true), List.mem_filter.mpr ⟨List.mem_of_getElem? (i := 594) (by decide +kernel), by decide +kernel⟩, by decide +kernel, by decide⟩
theorem okX9_mostFigures : p_okM p_Cs p_T mX9_mostFigures := ⟨List.all_eq_true.mp (by decide +kernel : tX9_mostFigures.all (p_okI p_Cs p_T mX9_mostFigures) = true), List.mem_filter.mpr ⟨List.mem_of_getElem? (i := 880) (by decide +kernel), by decide +kernel⟩, by decide +kernel, by decide⟩
theorem okX10_in : p_okM p_Cs p_T mX10_in := ⟨List.all_eq_true.mp (by decide +kernel : tX10_in.all (p_okI p_Cs p_T mX10_in) = true), List.mem_filter.mpr ⟨List.mem_of_getElem? (i := 1023) (by decide +kernel), by decide +kernel⟩, by decide +kernel, by decide⟩
theorem okX10_has : p_okM p_Cs p_T mX10_has := ⟨List.all_eq_true.mp (by decide +kernel : tX10_has.all (p_okI p_Cs p_T mX10_has) = true), List.mem_filter.mpr ⟨List.mem_of_getElem? (i := 921) (by decide +kernel), by decide +kernel⟩, by decide +kernel, by decide⟩
theorem okX10_isNode : p_okM p_Cs p_T mX10_isNode := ⟨List.all_eq_true.mp (by decide +kernel : tX10_isNode.all (p_okI p_Cs p_T mX10_isNode) = true), List.mem_filter.mpr ⟨List.mem_of_getElem? (i := 1020) (by decide +kernel), by decide +kernel⟩, by decide +kernel, by decide⟩
theorem okX10_isTag : p_okM p_Cs p_T mX10_isTag := ⟨List.all_eq_true.mp (by decide +kernel : tX10_isTag.all (p_okI p_Cs p_T mX10_isTag) = true), List.mem_filter.mpr ⟨List.mem_of_getElem? (i := 1071) (by decide +kernel), by decide +kernel⟩, by decide +kernel, by decide⟩
theorem okX10_root : p_okM p_Cs p_T mX10_root := ⟨List.all_eq_true.mp (by decide +kernel : tX10_root.all (p_okI p_Cs p_T mX10_root) = true), List.mem_filter.mpr ⟨List.mem_of_getElem? (i := 902) (by decide +kernel), by decide +kernel⟩, by decide +kernel, by decide⟩
theorem okX10_childMany : p_okM p_Cs p_T mX10_childMany := ⟨List.all_eq_true.mp (by decide +kernel : tX10_childMany.all (p_okI p_Cs p_T mX10_childMany) = true), List.mem_filter.mpr ⟨List.mem_of_getElem? (i := 925) (by decide +kernel), by decide +kernel⟩, by decide +kernel, by decide⟩
theorem okX10_childBehind : p_okM p_Cs p_T mX10_childBehind := ⟨List.all_eq_true.mp (by decide +kernel : tX10_childBehind.all (p_okI p_Cs p_T mX10_childBehind) = true), List.mem_filter.mpr ⟨List.mem_of_getElem? (i := 918) (by decide +kernel), by decide +kernel⟩, by decide +kernel, by decide⟩
theorem okX10_childAt : p_okM p_Cs p_T mX10_childAt := ⟨List.all_eq_true.mp (by decide +kernel : tX10_childAt.all (p_okI p_Cs p_T mX10_childAt) = true), List.mem_filter.mpr ⟨List.mem_of_getElem? (i := 914) (by decide +kernel), by decide +kernel⟩, by decide +kernel, by decide⟩
theorem okX10_keyBetween : p_okM p_Cs p_T mX10_keyBetween := ⟨List.all_eq_true.mp (by decide +kernel : tX10_keyBetween.all (p_okI p_Cs p_T mX10_keyBetween) = true), List.mem_filter.mpr ⟨List.mem_of_getElem? (i := 930) (by decide +kernel), by decide +kernel⟩, by decide +kernel, by decide⟩
theorem okX10_keyFor : p_okM p_Cs p_T mX10_keyFor := ⟨List.all_eq_true.mp (by decide +kernel : tX10_keyFor.all (p_okI p_Cs p_T mX10_keyFor) = true), List.mem_filter.mpr ⟨List.mem_of_getElem? (i := 910) (by decide +kernel), by decide +kernel⟩, by decide +kernel, by decide⟩
theorem okX10_figuresOf : p_okM p_Cs p_T mX10_figuresOf := ⟨List.all_eq_true.mp (by decide +kernel : tX10_figuresOf.all (p_okI p_Cs p_T mX10_figuresOf) = true), List.mem_filter.mpr ⟨List.mem_of_getElem? (i := 1060) (by decide +kernel), by decide +kernel⟩, by decide +kernel, by decide⟩
theorem okX10_numberOf : p_okM p_Cs p_T mX10_numberOf := ⟨List.all_eq_true.mp (by decide +kernel : tX10_numberOf.all (p_okI p_Cs p_T mX10_numberOf) = true), List.mem_filter.mpr ⟨List.mem_of_getElem? (i := 1057) (by decide +kernel), by decide +kernel⟩, by decide +kernel, by decide⟩
theorem okX10_comes : p_okM p_Cs p_T mX10_comes := ⟨List.all_eq_true.mp (by decide +kernel : tX10_comes.all (p_okI p_Cs p_T mX10_comes) = true), List.mem_filter.mpr ⟨List.mem_of_getElem? (i := 906) (by decide +kernel), by decide +kernel⟩, by decide +kernel, by decide⟩
theorem okX10_isOver : p_okM p_Cs p_T mX10_isOver := ⟨List.all_eq_true.mp (by decide +kernel : tX10_isOver.all (p_okI p_Cs p_T mX10_isOver) = true), List.mem_filter.mpr ⟨List.mem_of_getElem? (i := 1043) (by decide +kernel), by decide +kernel⟩, by decide +kernel, by decide⟩
theorem okX10_belowSet : p_okM p_Cs p_T mX10_belowSet := ⟨List.all_eq_true.mp (by decide +kernel : tX10_belowSet.all (p_okI p_Cs p_T mX10_belowSet) = true), List.mem_filter.mpr ⟨List.mem_of_getElem? (i := 1039) (by decide +kernel), by decide +kernel⟩, by decide +kernel, by decide⟩
theorem okX10_bits : p_okM p_Cs p_T mX10_bits := ⟨List.all_eq_true.mp (by decide +kernel : tX10_bits.all (p_okI p_Cs p_T mX10_bits) = true), List.mem_filter.mpr ⟨List.mem_of_getElem? (i := 1046) (by decide +kernel), by decide +kernel⟩, by decide +kernel, by decide⟩
theorem okX10_deepOf : p_okM p_Cs p_T mX10_deepOf := ⟨List.all_eq_true.mp (by decide +kernel : tX10_deepOf.all (p_okI p_Cs p_T mX10_deepOf) = true), List.mem_filter.mpr ⟨List.mem_of_getElem? (i := 1027) (by decide +kernel), by decide +kernel⟩, by decide +kernel, by decide⟩
theorem okX10_behind : p_okM p_Cs p_T mX10_behind := ⟨List.all_eq_true.mp (by decide +kernel : tX10_behind.all (p_okI p_Cs p_T mX10_behind) = true), List.mem_filter.mpr ⟨List.mem_of_getElem? (i := 1035) (by decide +kernel), by decide +kernel⟩, by decide +kernel, by decide⟩
theorem okX10_placeOf : p_okM p_Cs p_T mX10_placeOf := ⟨List.all_eq_true.mp (by decide +kernel : tX10_placeOf.all (p_okI p_Cs p_T mX10_placeOf) = true), List.mem_filter.mpr ⟨List.mem_of_getElem? (i := 1031) (by decide +kernel), by decide +kernel⟩, by decide +kernel, by decide⟩
theorem okX10_node : p_okM p_Cs p_T mX10_node := ⟨List.all_eq_true.mp (by decide +kernel : tX10_node.all (p_okI p_Cs p_T mX10_node) = true), List.mem_filter.mpr ⟨List.mem_of_getElem? (i := 1016) (by decide +kernel), by decide +kernel⟩, by decide +kernel, by decide⟩
theorem okX10_child : p_okM p_Cs p_T mX10_child := ⟨List.all_eq_true.mp (by decide +kernel : tX10_child.all (p_okI p_Cs p_T mX10_child) = true), List.mem_filter.mpr ⟨List.mem_of_getElem? (i := 1050) (by decide +kernel), by decide +kernel⟩, by decide +kernel, by decide⟩
theorem okX10_key : p_okM p_Cs p_T mX10_key := ⟨List.all_eq_true.mp (by decide +kernel : tX10_key.all (p_okI p_Cs p_T mX10_key) = true), List.mem_filter.mpr ⟨List.mem_of_getElem? (i := 1054) (by decide +kernel), by decide +kernel⟩, by decide +kernel, by decide⟩
theorem okX10_at : p_okM p_Cs p_T mX10_at := ⟨List.all_eq_true.mp (by decide +kernel : tX10_at.all (p_okI p_Cs p_T mX10_at) = true), List.mem_filter.mpr ⟨List.mem_of_getElem? (i := 1064) (by decide +kernel), by decide +kernel⟩, by decide +kernel, by decide⟩
theorem okX10_lays : p_okM p_Cs p_T mX10_lays := ⟨List.all_eq_true.mp (by decide +kernel : tX10_lays.all (p_okI p_Cs p_T mX10_lays) = true), List.mem_filter.mpr ⟨List.mem_of_getElem? (i := 1079) (by decide +kernel), by decide +kernel⟩, by decide +kernel, by decide⟩
theorem okX10_takes : p_okM p_Cs p_T mX10_takes := ⟨List.all_eq_true.mp (by decide +kernel : tX10_takes.all (p_okI p_Cs p_T mX10_takes) = true), List.mem_filter.mpr ⟨List.mem_of_getElem? (i := 1095) (by decide +kernel), by decide +kernel⟩, by decide +kernel, by decide⟩
theorem okX10_notes : p_okM p_Cs p_T mX10_notes := ⟨List.all_eq_true.mp (by decide +kernel : tX10_notes.all (p_okI p_Cs p_T mX10_notes) = true), List.mem_filter.mpr ⟨List.mem_of_getElem? (i := 1075) (by decide +kernel), by decide +kernel⟩, by decide +kernel, by decide⟩
theorem okX10_grow : p_okM p_Cs p_T mX10_grow := ⟨List.all_eq_true.mp (by decide +kernel : tX10_grow.all (p_okI p_Cs p_T mX10_grow) = true), List.mem_filter.mpr ⟨List.mem_of_getElem? (i := 1068) (by decide +kernel), by decide +kernel⟩, by decide +kernel, by decide⟩
theorem okX10_cut : p_okM p_Cs p_T mX10_cut := ⟨List.all_eq_true.mp (by decide +kernel : tX10_cut.all (p_okI p_Cs p_T mX10_cut) = true), List.mem_filter.mpr ⟨List.mem_of_getElem? (i := 1083) (by decide +kernel), by decide +kernel⟩, by decide +kernel, by decide⟩
theorem okX10_tag : p_okM p_Cs p_T mX10_tag := ⟨List.all_eq_true.mp (by decide +kernel : tX10_tag.all (p_okI p_Cs p_T mX10_tag) = true), List.mem_filter.mpr ⟨List.mem_of_getElem? (i := 1087) (by decide +kernel), by decide +kernel⟩, by decide +kernel, by decide⟩
theorem okX10_undo : p_okM p_Cs p_T mX10_undo := ⟨List.all_eq_true.mp (by decide +kernel : tX10_undo.all (p_okI p_Cs p_T mX10_undo) = true), List.mem_filter.mpr ⟨List.mem_of_getElem? (i := 1091) (by decide +kernel), by decide +kernel⟩, by decide +kernel, by decide⟩
theorem okX10_keep : p_okM p_Cs p_T mX10_keep := ⟨List.all_eq_true.mp (by decide +kernel : tX10_keep.all (p_okI p_Cs p_T mX10_keep) = true), List.mem_filter.mpr ⟨List.mem_of_getElem? (i := 1099) (by decide +kernel), by decide +kernel⟩, by decide +kernel, by decide⟩
theorem okX10_back : p_okM p_Cs p_T mX10_back := ⟨List.all_eq_true.mp (by decide +kernel : tX10_back.all (p_okI p_Cs p_T mX10_back) = true), List.mem_filter.mpr ⟨List.mem_of_getElem? (i := 1103) (by decide +kernel), by decide +kernel⟩, by decide +kernel, by decide⟩
theorem okX10_between : p_okM p_Cs p_T mX10_between := ⟨List.all_eq_true.mp (by decide +kernel : tX10_between.all (p_okI p_Cs p_T mX10_between) = true), List.mem_filter.mpr ⟨List.mem_of_getElem? (i := 1107) (by decide +kernel), by decide +kernel⟩, by decide +kernel, by decide⟩
theorem okX10_ahead : p_okM p_Cs p_T mX10_ahead := ⟨List.all_eq_true.mp (by decide +kernel : tX10_ahead.all (p_okI p_Cs p_T mX10_ahead) = true), List.mem_filter.mpr ⟨List.mem_of_getElem? (i := 1111) (by decide +kernel), by decide +kernel⟩, by decide +kernel, by decide⟩
theorem okX10_above : p_okM p_Cs p_T mX10_above := ⟨List.all_eq_true.mp (by decide +kernel : tX10_above.all (p_okI p_Cs p_T mX10_above) = true), List.mem_filter.mpr ⟨List.mem_of_getElem? (i := 1115) (by decide +kernel), by decide +kernel⟩, by decide +kernel, by decide⟩
theorem okX10_meet : p_okM p_Cs p_T mX10_meet := ⟨List.all_eq_true.mp (by decide +kernel : tX10_meet.all (p_okI p_Cs p_T mX10_meet) = true), List.mem_filter.mpr ⟨List.mem_of_getElem? (i := 1119) (by decide +kernel), by decide +kernel⟩, by decide +kernel, by decide⟩
theorem okX10_write : p_okM p_Cs p_T mX10_write := ⟨List.all_eq_true.mp (by decide +kernel : tX10_write.all (p_okI p_Cs p_T mX10_write) = true), List.mem_filter.mpr ⟨List.mem_of_getElem? (i := 1123) (by decide +kernel), by decide +kernel⟩, by decide +kernel, by decide⟩
theorem okX10_wipe : p_okM p_Cs p_T mX10_wipe := ⟨List.all_eq_true.mp (by decide +kernel : tX10_wipe.all (p_okI p_Cs p_T mX10_wipe) = true), List.mem_filter.mpr ⟨List.mem_of_getElem? (i := 1127) (by decide +kernel), by decide +kernel⟩, by decide +kernel, by decide⟩
theorem okX10_here : p_okM p_Cs p_T mX10_here := ⟨List.all_eq_true.mp (by decide +kernel : tX10_here.all (p_okI p_Cs p_T mX10_here) = true), List.mem_filter.mpr ⟨List.mem_of_getElem? (i := 1143) (by decide +kernel), by decide +kernel⟩, by decide +kernel, by decide⟩
theorem okX10_isFigure : p_okM p_Cs p_T mX10_isFigure := ⟨List.all_eq_true.mp (by decide +kernel : tX10_isFigure.all (p_okI p_Cs p_T mX10_isFigure) = true), List.mem_filter.mpr ⟨List.mem_of_getElem? (i := 1155) (by decide +kernel), by decide +kernel⟩, by decide +kernel, by decide⟩
theorem okX10_number : p_okM p_Cs p_T mX10_number := ⟨List.all_eq_true.mp (by decide +kernel : tX10_number.all (p_okI p_Cs p_T mX10_number) = true), List.mem_filter.mpr ⟨List.mem_of_getElem? (i := 1151) (by decide +kernel), by decide +kernel⟩, by decide +kernel, by decide⟩
theorem okX10_readsKind : p_okM p_Cs p_T mX10_readsKind := ⟨List.all_eq_true.mp (by decide +kernel : tX10_readsKind.all (p_okI p_Cs p_T mX10_readsKind) = true), List.mem_filter.mpr ⟨List.mem_of_getElem? (i := 1147) (by decide +kernel), by decide +kernel⟩, by decide +kernel, by decide⟩
theorem okX10_readsRoot : p_okM p_Cs p_T mX10_readsRoot := ⟨List.all_eq_true.mp (by decide +kernel : tX10_readsRoot.all (p_okI p_Cs p_T mX10_readsRoot) = true), List.mem_filter.mpr ⟨List.mem_of_getElem? (i := 1159) (by decide +kernel), by decide +kernel⟩, by decide +kernel, by decide⟩
theorem okX10_readsNode : p_okM p_Cs p_T mX10_readsNode := ⟨List.all_eq_true.mp (by decide +kernel : tX10_readsNode.all (p_okI p_Cs p_T mX10_readsNode) = true), List.mem_filter.mpr ⟨List.mem_of_getElem? (i := 1163) (by decide +kernel), by decide +kernel⟩, by decide +kernel, by decide⟩
theorem okX10_readsItem : p_okM p_Cs p_T mX10_readsItem := ⟨List.all_eq_true.mp (by decide +kernel : tX10_readsItem.all (p_okI p_Cs p_T mX10_readsItem) = true), List.mem_filter.mpr ⟨List.mem_of_getElem? (i := 1139) (by decide +kernel), by decide +kernel⟩, by decide +kernel, by decide⟩
theorem okX10_reads : p_okM p_Cs p_T mX10_reads := ⟨List.all_eq_true.mp (by decide +kernel : tX10_reads.all (p_okI p_Cs p_T mX10_reads) = true), List.mem_filter.mpr ⟨List.mem_of_getElem? (i := 1135) (by decide +kernel), by decide +kernel⟩, by decide +kernel, by decide⟩
theorem okX10_fault : p_okM p_Cs p_T mX10_fault := ⟨List.all_eq_true.mp (by decide +kernel : tX10_fault.all (p_okI p_Cs p_T mX10_fault) = true), List.mem_filter.mpr ⟨List.mem_of_getElem? (i := 1131) (by decide +kernel), by decide +kernel⟩, by decide +kernel, by decide⟩
theorem okX10_many : p_okM p_Cs p_T mX10_many := ⟨List.all_eq_true.mp (by decide +kernel : tX10_many.all (p_okI p_Cs p_T mX10_many) = true), List.mem_filter.mpr ⟨List.mem_of_getElem? (i := 1170) (by decide +kernel), by decide +kernel⟩, by decide +kernel, by decide⟩
theorem okX10_lay : p_okM p_Cs p_T mX10_lay := ⟨List.all_eq_true.mp (by decide +kernel : tX10_lay.all (p_okI p_Cs p_T mX10_lay) = true), List.mem_filter.mpr ⟨List.mem_of_getElem? (i := 1167) (by decide +kernel), by decide +kernel⟩, by decide +kernel, by decide⟩
theorem okX10_axisBy : p_okM p_Cs p_T mX10_axisBy := ⟨List.all_eq_true.mp (by decide +kernel : tX10_axisBy.all (p_okI p_Cs p_T mX10_axisBy) = true), List.mem_filter.mpr ⟨List.mem_of_getElem? (i := 1185) (by decide +kernel), by decide +kernel⟩, by decide +kernel, by decide⟩
theorem okX10_readsStep : p_okM p_Cs p_T mX10_readsStep := ⟨List.all_eq_true.mp (by decide +kernel : tX10_readsStep.all (p_okI p_Cs p_T mX10_readsStep) = true), List.mem_filter.mpr ⟨List.mem_of_getElem? (i := 1182) (by decide +kernel), by decide +kernel⟩, by decide +kernel, by decide⟩
theorem okX10_readsPattern : p_okM p_Cs p_T mX10_readsPattern := ⟨List.all_eq_true.mp (by decide +kernel : tX10_readsPattern.all (p_okI p_Cs p_T mX10_readsPattern) = true), List.mem_filter.mpr ⟨List.mem_of_getElem? (i := 1178) (by decide +kernel), by decide +kernel⟩, by decide +kernel, by decide⟩
theorem okX10_pattern : p_okM p_Cs p_T mX10_pattern := ⟨List.all_eq_true.mp (by decide +kernel : tX10_pattern.all (p_okI p_Cs p_T mX10_pattern) = true), List.mem_filter.mpr ⟨List.mem_of_getElem? (i := 1174) (by decide +kernel), by decide +kernel⟩, by decide +kernel, by decide⟩
theorem okX10_isStep : p_okM p_Cs p_T mX10_isStep := ⟨List.all_eq_true.mp (by decide +kernel : tX10_isStep.all (p_okI p_Cs p_T mX10_isStep) = true), List.mem_filter.mpr ⟨List.mem_of_getElem? (i := 1193) (by decide +kernel), by decide +kernel⟩, by decide +kernel, by decide⟩
theorem okX10_step : p_okM p_Cs p_T mX10_step := ⟨List.all_eq_true.mp (by decide +kernel : tX10_step.all (p_okI p_Cs p_T mX10_step) = true), List.mem_filter.mpr ⟨List.mem_of_getElem? (i := 1189) (by decide +kernel), by decide +kernel⟩, by decide +kernel, by decide⟩
theorem okX10_stands : p_okM p_Cs p_T mX10_stands := ⟨List.all_eq_true.mp (by decide +kernel : tX10_stands.all (p_okI p_Cs p_T mX10_stands) = true), List.mem_filter.mpr ⟨List.mem_of_getElem? (i := 1210) (by decide +kernel), by decide +kernel⟩, by decide +kernel, by decide⟩
theorem okX10_waysBy : p_okM p_Cs p_T mX10_waysBy := ⟨List.all_eq_true.mp (by decide +kernel : tX10_waysBy.all (p_okI p_Cs p_T mX10_waysBy) = true), List.mem_filter.mpr ⟨List.mem_of_getElem? (i := 1202) (by decide +kernel), by decide +kernel⟩, by decide +kernel, by decide⟩
theorem okX10_sumOf : p_okM p_Cs p_T mX10_sumOf := ⟨List.all_eq_true.mp (by decide +kernel : tX10_sumOf.all (p_okI p_Cs p_T mX10_sumOf) = true), List.mem_filter.mpr ⟨List.mem_of_getElem? (i := 1206) (by decide +kernel), by decide +kernel⟩, by decide +kernel, by decide⟩
theorem okX10_matches : p_okM p_Cs p_T mX10_matches := ⟨List.all_eq_true.mp (by decide +kernel : tX10_matches.all (p_okI p_Cs p_T mX10_matches) = true), List.mem_filter.mpr ⟨List.mem_of_getElem? (i := 1197) (by decide +kernel), by decide +kernel⟩, by decide +kernel, by decide⟩
theorem okX10_puts : p_okM p_Cs p_T mX10_puts := ⟨List.all_eq_true.mp (by decide +kernel : tX10_puts.all (p_okI p_Cs p_T mX10_puts) = true), List.mem_filter.mpr ⟨List.mem_of_getElem? (i := 1214) (by decide +kernel), by decide +kernel⟩, by decide +kernel, by decide⟩
theorem okX10_usefulSet : p_okM p_Cs p_T mX10_usefulSet := ⟨List.all_eq_true.mp (by decide +kernel : tX10_usefulSet.all (p_okI p_Cs p_T mX10_usefulSet) = true), List.mem_filter.mpr ⟨List.mem_of_getElem? (i := 1223) (by decide +kernel), by decide +kernel⟩, by decide +kernel, by decide⟩
theorem okX10_useful : p_okM p_Cs p_T mX10_useful := ⟨List.all_eq_true.mp (by decide +kernel : tX10_useful.all (p_okI p_Cs p_T mX10_useful) = true), List.mem_filter.mpr ⟨List.mem_of_getElem? (i := 1219) (by decide +kernel), by decide +kernel⟩, by decide +kernel, by decide⟩
theorem okX10_end : p_okM p_Cs p_T mX10_end := ⟨List.all_eq_true.mp (by decide +kernel : tX10_end.all (p_okI p_Cs p_T mX10_end) = true), List.mem_filter.mpr ⟨List.mem_of_getElem? (i := 1227) (by decide +kernel), by decide +kernel⟩, by decide +kernel, by decide⟩
theorem okX10_mostFigures : p_okM p_Cs p_T mX10_mostFigures := ⟨List.all_eq_true.mp (by decide +kernel : tX10_mostFigures.all (p_okI p_Cs p_T mX10_mostFigures) = true), List.mem_filter.mpr ⟨List.mem_of_getElem? (i := 1235) (by decide +kernel), by decide +kernel⟩, by decide +kernel, by decide⟩
theorem okX10_mostKeys : p_okM p_Cs p_T mX10_mostKeys := ⟨List.all_eq_true.mp (by decide +kernel : tX10_mostKeys.all (p_okI p_Cs p_T mX10_mostKeys) = true), List.mem_filter.mpr ⟨List.mem_of_getElem? (i := 1239) (by decide +kernel), by decide +kernel⟩, by decide +kernel, by decide⟩
theorem okX10_count : p_okM p_Cs p_T mX10_count := ⟨List.all_eq_true.mp (by decide +kernel : tX10_count.all (p_okI p_Cs p_T mX10_count) = true), List.mem_filter.mpr ⟨List.mem_of_getElem? (i := 1231) (by decide +kernel), by decide +kernel⟩, by decide +kernel, by decide⟩
theorem okJ6_bitCount_0f7a4 : p_okM p_Cs p_T mJ6_bitCount_0f7a4 := ⟨List.all_eq_true.mp (by decide +kernel : tJ6_bitCount_0f7a4.all (p_okI p_Cs p_T mJ6_bitCount_0f7a4) = true), List.mem_filter.mpr ⟨List.mem_of_getElem? (i := 654) (by decide +kernel), by decide +kernel⟩, by decide +kernel, by decide⟩
theorem okJ7_fill_d0a16 : p_okM p_Cs p_T mJ7_fill_d0a16 := ⟨List.all_eq_true.mp (by decide +kernel : tJ7_fill_d0a16.all (p_okI p_Cs p_T mJ7_fill_d0a16) = true), List.mem_filter.mpr ⟨List.mem_of_getElem? (i := 812) (by decide +kernel), by decide +kernel⟩, by decide +kernel, by decide⟩
set_option maxRecDepth 100000 in
theorem p_T_ok : ∀ M ∈ p_T, p_okM p_Cs p_T M := List.forall_mem_cons.mpr ⟨okX0_choose, List.forall_mem_cons.mpr ⟨okX0_pick, List.forall_mem_cons.mpr ⟨okX0_length, List.forall_mem_cons.mpr ⟨okX0_figures, List.forall_mem_cons.mpr ⟨okX1_size, List.forall_mem_cons.mpr ⟨okX1_isFull, List.forall_mem_cons.mpr ⟨okX1_add, List.forall_mem_cons.mpr ⟨okX1_clear, List.forall_mem_cons.mpr ⟨okX1_letterAt, List.forall_mem_cons.mpr ⟨okX2_run, List.forall_mem_cons.mpr ⟨okX2_total, List.forall_mem_cons.mpr ⟨okX2_ways, List.forall_mem_cons.mpr ⟨okX2_countOwn, List.forall_mem_cons.mpr ⟨okX2_product, List.forall_mem_cons.mpr ⟨okX2_countHung, List.forall_mem_cons.mpr ⟨okX2_countRest, List.forall_mem_cons.mpr ⟨okX2_countOther, List.forall_mem_cons.mpr ⟨okX2_sourceOf, List.forall_mem_cons.mpr ⟨okX2_reachesOn, List.forall_mem_cons.mpr ⟨okX3_read, List.forall_mem_cons.mpr ⟨okX3_takeFollower, List.forall_mem_cons.mpr ⟨okX3_take, List.forall_mem_cons.mpr ⟨okX3_isRank, List.forall_mem_cons.mpr ⟨okX3_size, List.forall_mem_cons.mpr ⟨okX3_rankOf, List.forall_mem_cons.mpr ⟨okX3_nodeAt, List.forall_mem_cons.mpr ⟨okX3_parentAt, List.forall_mem_cons.mpr ⟨okX3_elderAt, List.forall_mem_cons.mpr ⟨okX3_levelAt, List.forall_mem_cons.mpr ⟨okX3_kidsAt, List.forall_mem_cons.mpr ⟨okX3_belowAt, List.forall_mem_cons.mpr ⟨okX3_spans, List.forall_mem_cons.mpr ⟨okX3_bitsFrom, List.forall_mem_cons.mpr ⟨okX3_mostLevels, List.forall_mem_cons.mpr ⟨okX4_size, List.forall_mem_cons.mpr ⟨okX4_clear, List.forall_mem_cons.mpr ⟨okX4_record, List.forall_mem_cons.mpr ⟨okX4_forgetFirst, List.forall_mem_cons.mpr ⟨okX4_restore, List.forall_mem_cons.mpr ⟨okX5_clear, List.forall_mem_cons.mpr ⟨okX5_copyFrom, List.forall_mem_cons.mpr ⟨okX5_size, List.forall_mem_cons.mpr ⟨okX5_has, List.forall_mem_cons.mpr ⟨okX5_add, List.forall_mem_cons.mpr ⟨okX5_setLastOutermost, List.forall_mem_cons.mpr ⟨okX5_lastOutermost, List.forall_mem_cons.mpr ⟨okX5_tagOf, List.forall_mem_cons.mpr ⟨okX5_hangOf, List.forall_mem_cons.mpr ⟨okX5_axisOf, List.forall_mem_cons.mpr ⟨okX5_fits, List.forall_mem_cons.mpr ⟨okX6_read, List.forall_mem_cons.mpr ⟨okX6_takes, List.forall_mem_cons.mpr ⟨okX6_takesTag, List.forall_mem_cons.mpr ⟨okX6_takesAxis, List.forall_mem_cons.mpr ⟨okX6_axisFor, List.forall_mem_cons.mpr ⟨okX6_opens, List.forall_mem_cons.mpr ⟨okX6_closes, List.forall_mem_cons.mpr ⟨okX7_clear, List.forall_mem_cons.mpr ⟨okX7_copyFrom, List.forall_mem_cons.mpr ⟨okX7_isNumber, List.forall_mem_cons.mpr ⟨okX7_isThere, List.forall_mem_cons.mpr ⟨okX7_isFull, List.forall_mem_cons.mpr ⟨okX7_came, List.forall_mem_cons.mpr ⟨okX7_kind, List.forall_mem_cons.mpr ⟨okX7_setKind, List.forall_mem_cons.mpr ⟨okX7_bits, List.forall_mem_cons.mpr ⟨okX7_tagOf, List.forall_mem_cons.mpr ⟨okX7_setTag, List.forall_mem_cons.mpr ⟨okX7_parentOf, List.forall_mem_cons.mpr ⟨okX7_spotOf, List.forall_mem_cons.mpr ⟨okX7_add, List.forall_mem_cons.mpr ⟨okX7_remove, List.forall_mem_cons.mpr ⟨okX7_rewind, List.forall_mem_cons.mpr ⟨okX7_kidsOf, List.forall_mem_cons.mpr ⟨okX7_nextKid, List.forall_mem_cons.mpr ⟨okX7_childAt, List.forall_mem_cons.mpr ⟨okX7_spotFor, List.forall_mem_cons.mpr ⟨okX8_read, List.forall_mem_cons.mpr ⟨okX8_numbersBehind, List.forall_mem_cons.mpr ⟨okX8_readNumbers, List.forall_mem_cons.mpr ⟨okX8_readNumber, List.forall_mem_cons.mpr ⟨okX8_figureAt, List.forall_mem_cons.mpr ⟨okX8_apply, List.forall_mem_cons.mpr ⟨okX8_applyKind, List.forall_mem_cons.mpr ⟨okX8_applyRoot, List.forall_mem_cons.mpr ⟨okX8_applyNode, List.forall_mem_cons.mpr ⟨okX9_write, List.forall_mem_cons.mpr ⟨okX9_wipe, List.forall_mem_cons.mpr ⟨okX9_fault, List.forall_mem_cons.mpr ⟨okX9_lay, List.forall_mem_cons.mpr ⟨okX9_node, List.forall_mem_cons.mpr ⟨okX9_child, List.forall_mem_cons.mpr ⟨okX9_key, List.forall_mem_cons.mpr ⟨okX9_at, List.forall_mem_cons.mpr ⟨okX9_grow, List.forall_mem_cons.mpr ⟨okX9_cut, List.forall_mem_cons.mpr ⟨okX9_tag, List.forall_mem_cons.mpr ⟨okX9_undo, List.forall_mem_cons.mpr ⟨okX9_between, List.forall_mem_cons.mpr ⟨okX9_ahead, List.forall_mem_cons.mpr ⟨okX9_above, List.forall_mem_cons.mpr ⟨okX9_meet, List.forall_mem_cons.mpr ⟨okX9_pattern, List.forall_mem_cons.mpr ⟨okX9_step, List.forall_mem_cons.mpr ⟨okX9_matches, List.forall_mem_cons.mpr ⟨okX9_puts, List.forall_mem_cons.mpr ⟨okX9_useful, List.forall_mem_cons.mpr ⟨okX9_end, List.forall_mem_cons.mpr ⟨okX9_keep, List.forall_mem_cons.mpr ⟨okX9_back, List.forall_mem_cons.mpr ⟨okX9_count, List.forall_mem_cons.mpr ⟨okX9_settle, List.forall_mem_cons.mpr ⟨okX9_matchAll, List.forall_mem_cons.mpr ⟨okX9_keptTree, List.forall_mem_cons.mpr ⟨okX9_isPlace, List.forall_mem_cons.mpr ⟨okX9_isTag, List.forall_mem_cons.mpr ⟨okX9_isKeyPart, List.forall_mem_cons.mpr ⟨okX9_keyPart, List.forall_mem_cons.mpr ⟨okX9_climb, List.forall_mem_cons.mpr ⟨okX9_mostFigures, List.forall_mem_cons.mpr ⟨okX10_in, List.forall_mem_cons.mpr ⟨okX10_has, List.forall_mem_cons.mpr ⟨okX10_isNode, List.forall_mem_cons.mpr ⟨okX10_isTag, List.forall_mem_cons.mpr ⟨okX10_root, List.forall_mem_cons.mpr ⟨okX10_childMany, List.forall_mem_cons.mpr ⟨okX10_childBehind, List.forall_mem_cons.mpr ⟨okX10_childAt, List.forall_mem_cons.mpr ⟨okX10_keyBetween, List.forall_mem_cons.mpr ⟨okX10_keyFor, List.forall_mem_cons.mpr ⟨okX10_figuresOf, List.forall_mem_cons.mpr ⟨okX10_numberOf, List.forall_mem_cons.mpr ⟨okX10_comes, List.forall_mem_cons.mpr ⟨okX10_isOver, List.forall_mem_cons.mpr ⟨okX10_belowSet, List.forall_mem_cons.mpr ⟨okX10_bits, List.forall_mem_cons.mpr ⟨okX10_deepOf, List.forall_mem_cons.mpr ⟨okX10_behind, List.forall_mem_cons.mpr ⟨okX10_placeOf, List.forall_mem_cons.mpr ⟨okX10_node, List.forall_mem_cons.mpr ⟨okX10_child, List.forall_mem_cons.mpr ⟨okX10_key, List.forall_mem_cons.mpr ⟨okX10_at, List.forall_mem_cons.mpr ⟨okX10_lays, List.forall_mem_cons.mpr ⟨okX10_takes, List.forall_mem_cons.mpr ⟨okX10_notes, List.forall_mem_cons.mpr ⟨okX10_grow, List.forall_mem_cons.mpr ⟨okX10_cut, List.forall_mem_cons.mpr ⟨okX10_tag, List.forall_mem_cons.mpr ⟨okX10_undo, List.forall_mem_cons.mpr ⟨okX10_keep, List.forall_mem_cons.mpr ⟨okX10_back, List.forall_mem_cons.mpr ⟨okX10_between, List.forall_mem_cons.mpr ⟨okX10_ahead, List.forall_mem_cons.mpr ⟨okX10_above, List.forall_mem_cons.mpr ⟨okX10_meet, List.forall_mem_cons.mpr ⟨okX10_write, List.forall_mem_cons.mpr ⟨okX10_wipe, List.forall_mem_cons.mpr ⟨okX10_here, List.forall_mem_cons.mpr ⟨okX10_isFigure, List.forall_mem_cons.mpr ⟨okX10_number, List.forall_mem_cons.mpr ⟨okX10_readsKind, List.forall_mem_cons.mpr ⟨okX10_readsRoot, List.forall_mem_cons.mpr ⟨okX10_readsNode, List.forall_mem_cons.mpr ⟨okX10_readsItem, List.forall_mem_cons.mpr ⟨okX10_reads, List.forall_mem_cons.mpr ⟨okX10_fault, List.forall_mem_cons.mpr ⟨okX10_many, List.forall_mem_cons.mpr ⟨okX10_lay, List.forall_mem_cons.mpr ⟨okX10_axisBy, List.forall_mem_cons.mpr ⟨okX10_readsStep, List.forall_mem_cons.mpr ⟨okX10_readsPattern, List.forall_mem_cons.mpr ⟨okX10_pattern, List.forall_mem_cons.mpr ⟨okX10_isStep, List.forall_mem_cons.mpr ⟨okX10_step, List.forall_mem_cons.mpr ⟨okX10_stands, List.forall_mem_cons.mpr ⟨okX10_waysBy, List.forall_mem_cons.mpr ⟨okX10_sumOf, List.forall_mem_cons.mpr ⟨okX10_matches, List.forall_mem_cons.mpr ⟨okX10_puts, List.forall_mem_cons.mpr ⟨okX10_usefulSet, List.forall_mem_cons.mpr ⟨okX10_useful, List.forall_mem_cons.mpr ⟨okX10_end, List.forall_mem_cons.mpr ⟨okX10_mostFigures, List.forall_mem_cons.mpr ⟨okX10_mostKeys, List.forall_mem_cons.mpr ⟨okX10_count, List.forall_mem_cons.mpr ⟨okJ6_bitCount_0f7a4, List.forall_mem_cons.mpr ⟨okJ7_fill_d0a16, fun _ h => absurd h List.not_mem_nil⟩⟩⟩⟩⟩⟩⟩⟩⟩⟩⟩⟩⟩⟩⟩⟩⟩⟩⟩⟩⟩⟩⟩⟩⟩⟩⟩⟩⟩⟩⟩⟩⟩⟩⟩⟩⟩⟩⟩⟩⟩⟩⟩⟩⟩⟩⟩⟩⟩⟩⟩⟩⟩⟩⟩⟩⟩⟩⟩⟩⟩⟩⟩⟩⟩⟩⟩⟩⟩⟩⟩⟩⟩⟩⟩⟩⟩⟩⟩⟩⟩⟩⟩⟩⟩⟩⟩⟩⟩⟩⟩⟩⟩⟩⟩⟩⟩⟩⟩⟩⟩⟩⟩⟩⟩⟩⟩⟩⟩⟩⟩⟩⟩⟩⟩⟩⟩⟩⟩⟩⟩⟩⟩⟩⟩⟩⟩⟩⟩⟩⟩⟩⟩⟩⟩⟩⟩⟩⟩⟩⟩⟩⟩⟩⟩⟩⟩⟩⟩⟩⟩⟩⟩⟩⟩⟩⟩⟩⟩⟩⟩⟩⟩⟩⟩⟩⟩⟩⟩⟩⟩⟩⟩⟩⟩⟩⟩⟩⟩⟩⟩⟩⟩⟩⟩⟩⟩⟩
end
section
/-! RUNS OF THE PURE MACHINE over the system's tables: Ev d M s Q: from s the method M comes to its end, at most d calls deep, with an answer and a heap of which Q holds. -/
def pN : Nat := 89
def Ev (d : Nat) (M : pM) (s : pS) (Q : Option Value → pH → Prop) : Prop := ∃ n r h', p_run pN p_Cs p_T n d M s = some (r, h') ∧ Q r h'
theorem p_run_mono {N : Nat} {Cs : List pCi} {Ms : List pM} : ∀ {n k d : Nat} {M : pM} {s : pS} {x : Option Value × pH}, n ≤ k → p_run N Cs Ms n d M s = some x → p_run N Cs Ms k d M s = some x
  | 0, _, _, _, _, _, _, h => by simp [p_run] at h
  | n + 1, 0, _, _, _, _, hk, _ => absurd hk (by omega)
  | n + 1, k + 1, d, M, s, x, hk, h => by
    have hk' : n ≤ k := by omega
    simp only [p_run] at h ⊢
    split at h
    · cases h
    · rename_i i len a ps ks hlook
      split at h
      · split at h
        · exact p_run_mono hk' h
        · cases h
      · exact h
      · split at h
        · cases h
        · rename_i d'
          split at h
          · rename_i hcp
            rw [if_pos hcp]
            split at h
            · exact p_run_mono hk' h
            · cases h
          · rename_i hcp
            rw [if_neg hcp]
            split at h
            · rename_i vs rest hargs
              split at h
              · rename_i M' hM'
                split at h
                · rename_i hlen
                  rw [if_pos hlen]
                  split at h
                  · rename_i r1 h1 hcall
                    rw [p_run_mono hk' hcall]
                    exact p_run_mono hk' h
                  · cases h
                · cases h
              · cases h
            · cases h
/-- k instructions that are no calls and no returns -/
def p_go : Nat → pM → pS → Option pS
  | 0, _, s => some s
  | k + 1, M, s =>
    match List.lookup s.2.1 M.2.2.2.2.2 with
    | none => none
    | some (i, len, a, _, ks) =>
      match p_kd i with
      | 0 => (match p_step pN p_Cs M.2.2.1 i len a (s.1, s.2.1, p_live ks s.2.2.1, s.2.2.2) with
        | some s' => p_go k M s'
        | none => none)
      | _ => none
theorem p_go_run {d : Nat} {M : pM} : ∀ {k n : Nat} {s s' : pS} {x : Option Value × pH}, p_go k M s = some s' → p_run pN p_Cs p_T n d M s' = some x → p_run pN p_Cs p_T (k + n) d M s = some x
  | 0, n, s, s', x, h, hr => by
    cases h
    rw [Nat.zero_add]
    exact hr
  | k + 1, n, s, s', x, h, hr => by
    simp only [p_go] at h
    split at h
    · cases h
    · rename_i i len a ps ks hlook
      split at h
      · rename_i hkd
        split at h
        · rename_i s1 hst
          rw [show k + 1 + n = (k + n) + 1 by omega]
          simp only [p_run, hlook, hkd, hst]
          exact p_go_run h hr
        · cases h
      · cases h
theorem Ev.go {d : Nat} {M : pM} {s s' : pS} {Q : Option Value → pH → Prop} (k : Nat) (h : p_go k M s = some s') (kk : Ev d M s' Q) : Ev d M s Q := by
  obtain ⟨n, r, h', e, q⟩ := kk
  exact ⟨k + n, r, h', p_go_run h e, q⟩
theorem Ev.mono {d : Nat} {M : pM} {s : pS} {Q Q' : Option Value → pH → Prop} (h : Ev d M s Q) (hq : ∀ r h', Q r h' → Q' r h') : Ev d M s Q' := by
  obtain ⟨n, r, h', e, q⟩ := h
  exact ⟨n, r, h', e, hq r h' q⟩
section EVR
variable {d : Nat} {M : pM} {Q : Option Value → pH → Prop} {h : pH} {pc : Nat} {lv : pLv} {st : List Value} {len : Nat} {a : Nat × Nat × Nat} {ps : List Nat}
theorem Ev.one {i : Instr} {s' : pS} (hf : List.lookup pc M.2.2.2.2.2 = some (i, len, a, ps, [])) (hk : p_kd i = 0) (hs : p_step pN p_Cs M.2.2.1 i len a (h, pc, lv, st) = some s') (kk : Ev d M s' Q) : Ev d M (h, pc, lv, st) Q := by
  refine Ev.go 1 ?_ kk
  simp only [p_go, hf, hk, p_live, hs]
theorem Ev.ret {i : Instr} {r : Option Value} (hf : List.lookup pc M.2.2.2.2.2 = some (i, len, a, ps, [])) (hk : p_kd i = 1) (hs : p_ret M.2.2.2.1 i (h, pc, lv, st) = some (r, h)) (kk : Q r h) : Ev d M (h, pc, lv, st) Q :=
  ⟨1, r, h, by simp only [p_run, hf, hk, p_live, hs], kk⟩
theorem Ev.if1 {c : ClassFile.Cond} {off : Int} {x : Int32} {r : List Value} (hf : List.lookup pc M.2.2.2.2.2 = some (.ifCond c off, len, a, ps, [])) (kt : p_cd c x 0 → Ev d M (h, a.1, lv, r) Q) (kf : ¬ p_cd c x 0 → Ev d M (h, pc + len, lv, r) Q) : Ev d M (h, pc, lv, .int x :: r) Q := by
  by_cases hc : p_cd c x 0
  · refine Ev.one hf rfl ?_ (kt hc)
    simp only [p_step, p_if1, if_pos ((p_cb_iff c x 0).mpr hc)]
  · refine Ev.one hf rfl ?_ (kf hc)
    simp only [p_step, p_if1, if_neg (fun q => hc ((p_cb_iff c x 0).mp q))]
theorem Ev.if2 {c : ClassFile.Cond} {off : Int} {x y : Int32} {r : List Value} (hf : List.lookup pc M.2.2.2.2.2 = some (.if_icmp c off, len, a, ps, [])) (kt : p_cd c x y → Ev d M (h, a.1, lv, r) Q) (kf : ¬ p_cd c x y → Ev d M (h, pc + len, lv, r) Q) : Ev d M (h, pc, lv, .int y :: .int x :: r) Q := by
  by_cases hc : p_cd c x y
  · refine Ev.one hf rfl ?_ (kt hc)
    simp only [p_step, p_if2, if_pos ((p_cb_iff c x y).mpr hc)]
  · refine Ev.one hf rfl ?_ (kf hc)
    simp only [p_step, p_if2, if_neg (fun q => hc ((p_cb_iff c x y).mp q))]
theorem Ev.idiv {x y : Int32} {r : List Value} (hf : List.lookup pc M.2.2.2.2.2 = some (.idiv, len, a, ps, [])) (hy : ¬ y = 0) (kk : Ev d M (h, pc + len, lv, .int (x / y) :: r) Q) : Ev d M (h, pc, lv, .int y :: .int x :: r) Q := by
  refine Ev.one hf rfl ?_ kk
  simp only [p_step, p_bD, if_neg hy]
theorem Ev.irem {x y : Int32} {r : List Value} (hf : List.lookup pc M.2.2.2.2.2 = some (.irem, len, a, ps, [])) (hy : ¬ y = 0) (kk : Ev d M (h, pc + len, lv, .int (x - x / y * y) :: r) Q) : Ev d M (h, pc, lv, .int y :: .int x :: r) Q := by
  refine Ev.one hf rfl ?_ kk
  simp only [p_step, p_bD, if_neg hy]
theorem Ev.get {b idx : Nat} {fs : List Value} {v : Value} {r : List Value} (hf : List.lookup pc M.2.2.2.2.2 = some (.getfield idx, len, a, ps, [])) (hb : b < pN) (hh : h b = eO a.1 fs) (hv : fs[a.2.1]? = some v) (kk : Ev d M (h, pc + len, lv, v :: r) Q) : Ev d M (h, pc, lv, .ref b :: r) Q := by
  refine Ev.one hf rfl ?_ kk
  simp only [p_step, p_get, if_pos hb, hh, if_true, hv]
theorem Ev.put {b idx : Nat} {fs : List Value} {v : Value} {r : List Value} {C : pCi} (hf : List.lookup pc M.2.2.2.2.2 = some (.putfield idx, len, a, ps, [])) (hC : p_Cs[a.1]? = some C) (hb : b < pN) (hh : h b = eO a.1 fs) (hl : a.2.1 < fs.length) (hn : narrow (C.2 a.2.1) v = v) (hfi : fits (C.2 a.2.1) v = true) {fs' : List Value} (hs : fs.set a.2.1 v = fs') (kk : Ev d M (pu h b (eO a.1 fs'), pc + len, lv, r) Q) : Ev d M (h, pc, lv, v :: .ref b :: r) Q := by
  refine Ev.one hf rfl ?_ kk
  simp only [p_step, hC, p_put, if_pos hb, hh, hs]
  rw [if_pos ⟨trivial, hl, hn, hfi⟩]
theorem Ev.iald {b n : Nat} {f : Nat → Int32} {i : Int32} {r : List Value} (hf : List.lookup pc M.2.2.2.2.2 = some (.iaload, len, a, ps, [])) (hb : b < pN) (hh : h b = eI n f) (hi : vp_in i n) (kk : Ev d M (h, pc + len, lv, .int (f i.toNatClampNeg) :: r) Q) : Ev d M (h, pc, lv, .int i :: .ref b :: r) Q := by
  refine Ev.one hf rfl ?_ kk
  simp only [p_step, p_iald, if_pos hb, hh]
  rw [if_neg hi]
theorem Ev.lald {b n : Nat} {f : Nat → Int64} {i : Int32} {r : List Value} (hf : List.lookup pc M.2.2.2.2.2 = some (.laload, len, a, ps, [])) (hb : b < pN) (hh : h b = eJ n f) (hi : vp_in i n) (kk : Ev d M (h, pc + len, lv, .long (f i.toNatClampNeg) :: r) Q) : Ev d M (h, pc, lv, .int i :: .ref b :: r) Q := by
  refine Ev.one hf rfl ?_ kk
  simp only [p_step, p_lald, if_pos hb, hh]
  rw [if_neg hi]
theorem Ev.aald {b n q : Nat} {f : Nat → Option Nat} {i : Int32} {r : List Value} (hf : List.lookup pc M.2.2.2.2.2 = some (.aaload, len, a, ps, [])) (hb : b < pN) (hh : h b = eR n f) (hi : vp_in i n) (hq : f i.toNatClampNeg = some q) (kk : Ev d M (h, pc + len, lv, .ref q :: r) Q) : Ev d M (h, pc, lv, .int i :: .ref b :: r) Q := by
  refine Ev.one hf rfl ?_ kk
  simp only [p_step, p_aald, if_pos hb, hh]
  rw [if_neg hi, hq]
theorem Ev.iast {b n : Nat} {f : Nat → Int32} {i x : Int32} {r : List Value} (hf : List.lookup pc M.2.2.2.2.2 = some (.iastore, len, a, ps, [])) (hb : b < pN) (hh : h b = eI n f) (hi : vp_in i n) (kk : Ev d M (pu h b (eI n (upd f i.toNatClampNeg x)), pc + len, lv, r) Q) : Ev d M (h, pc, lv, .int x :: .int i :: .ref b :: r) Q := by
  refine Ev.one hf rfl ?_ kk
  simp only [p_step, p_iast, if_pos hb, hh]
  rw [if_neg hi]
theorem Ev.last {b n : Nat} {f : Nat → Int64} {i : Int32} {x : Int64} {r : List Value} (hf : List.lookup pc M.2.2.2.2.2 = some (.lastore, len, a, ps, [])) (hb : b < pN) (hh : h b = eJ n f) (hi : vp_in i n) (kk : Ev d M (pu h b (eJ n (vp_updL f i.toNatClampNeg x)), pc + len, lv, r) Q) : Ev d M (h, pc, lv, .long x :: .int i :: .ref b :: r) Q := by
  refine Ev.one hf rfl ?_ kk
  simp only [p_step, p_last, if_pos hb, hh]
  rw [if_neg hi]
theorem Ev.alen {b n : Nat} {r : List Value} (hf : List.lookup pc M.2.2.2.2.2 = some (.arraylength, len, a, ps, [])) (hb : b < pN) (hh : p_len (h b) = some n) (kk : Ev d M (h, pc + len, lv, .int (Int32.ofNat n) :: r) Q) : Ev d M (h, pc, lv, .ref b :: r) Q := by
  refine Ev.one hf rfl ?_ kk
  simp only [p_step, p_alen, if_pos hb, hh]
theorem Ev.tsw {dflt lo hi : Int} {offs : Array Int} {x : Int32} {r : List Value} {s' : pS} (hf : List.lookup pc M.2.2.2.2.2 = some (.tableswitch dflt lo hi offs, len, a, ps, [])) (hs : p_tsw dflt lo hi offs (h, pc, lv, .int x :: r) = some s') (kk : Ev d M s' Q) : Ev d M (h, pc, lv, .int x :: r) Q :=
  Ev.one hf rfl hs kk
theorem Ev.cpy {b c n0 n1 idx : Nat} {f g : Nat → Int32} {n dp sp : Int32} {r : List Value} (hf : List.lookup pc M.2.2.2.2.2 = some (.invokestatic idx, len, a, ps, [])) (hc : a.2.2 = 2) (hb : b < pN) (hc2 : c < pN) (h0 : h b = eI n0 f) (h1 : h c = eI n1 g) (c1 : ¬ sp < 0) (c2 : ¬ dp < 0) (c3 : ¬ n < 0) (c4 : sp.toNatClampNeg + n.toNatClampNeg ≤ n0) (c5 : dp.toNatClampNeg + n.toNatClampNeg ≤ n1) (c6 : (r.map fun v => v.category).sum ≤ 8)
    (kk : Ev (d + 1) M (pu h c (eI n1 (va_cpy f g sp.toNatClampNeg dp.toNatClampNeg n.toNatClampNeg)), pc + 3, lv, r) Q) : Ev (d + 1) M (h, pc, lv, .int n :: .int dp :: .ref c :: .int sp :: .ref b :: r) Q := by
  obtain ⟨k, r', h', e, q⟩ := kk
  refine ⟨k + 1, r', h', ?_, q⟩
  have e1 : p_nat pN a.2.2 (h, pc, lv, .int n :: .int dp :: .ref c :: .int sp :: .ref b :: r) = some (pu h c (eI n1 (va_cpy f g sp.toNatClampNeg dp.toNatClampNeg n.toNatClampNeg)), pc + 3, lv, r) := by
    simp only [p_nat, hc, if_true, p_copy, if_pos (show b < pN ∧ c < pN from ⟨hb, hc2⟩), h0, h1]
    rw [if_neg]
    simp only [not_or, Nat.not_lt]
    exact ⟨⟨c1, c2, c3⟩, c4, c5, c6⟩
  have e2 : p_isCp (.invokestatic idx) a.2.2 = true := by simp [p_isCp, hc]
  simp only [p_run, hf, p_kd, p_live]
  rw [if_pos e2, e1]
  exact e
theorem Ev.mmax {idx : Nat} {x y : Int32} {r : List Value} (hf : List.lookup pc M.2.2.2.2.2 = some (.invokestatic idx, len, a, ps, [])) (hc : a.2.2 = 3) (c6 : (r.map fun v => v.category).sum ≤ 8) (kk : Ev (d + 1) M (h, pc + 3, lv, .int (if x < y then y else x) :: r) Q) : Ev (d + 1) M (h, pc, lv, .int y :: .int x :: r) Q := by
  obtain ⟨k, r', h', e, q⟩ := kk
  refine ⟨k + 1, r', h', ?_, q⟩
  have e1 : p_nat pN a.2.2 (h, pc, lv, .int y :: .int x :: r) = some (h, pc + 3, lv, .int (if x < y then y else x) :: r) := by
    simp only [p_nat, hc, p_mm, if_neg (show ¬ 3 = 2 by decide), if_true]
    rw [if_neg (by omega)]
  have e2 : p_isCp (.invokestatic idx) a.2.2 = true := by simp [p_isCp, hc]
  simp only [p_run, hf, p_kd, p_live]
  rw [if_pos e2, e1]
  exact e
theorem Ev.mmin {idx : Nat} {x y : Int32} {r : List Value} (hf : List.lookup pc M.2.2.2.2.2 = some (.invokestatic idx, len, a, ps, [])) (hc : a.2.2 = 4) (c6 : (r.map fun v => v.category).sum ≤ 8) (kk : Ev (d + 1) M (h, pc + 3, lv, .int (if y < x then y else x) :: r) Q) : Ev (d + 1) M (h, pc, lv, .int y :: .int x :: r) Q := by
  obtain ⟨k, r', h', e, q⟩ := kk
  refine ⟨k + 1, r', h', ?_, q⟩
  have e1 : p_nat pN a.2.2 (h, pc, lv, .int y :: .int x :: r) = some (h, pc + 3, lv, .int (if y < x then y else x) :: r) := by
    simp only [p_nat, hc, p_mm, if_neg (show ¬ 4 = 2 by decide), if_neg (show ¬ 4 = 3 by decide), if_true]
    rw [if_neg (by omega)]
    rfl
  have e2 : p_isCp (.invokestatic idx) a.2.2 = true := by simp [p_isCp, hc]
  simp only [p_run, hf, p_kd, p_live]
  rw [if_pos e2, e1]
  exact e
/-- a call: the callee's run, then on -/
theorem Ev.call {i : Instr} {M' : pM} {vs rest : List Value} (hf : List.lookup pc M.2.2.2.2.2 = some (i, len, a, ps, [])) (hk : p_kd i = 2) (hc : p_isCp i a.2.2 = false) (ha : p_args pN i a.2.1 a.2.2 (h, pc, lv, st) = some (vs, rest)) (hM : p_T[a.1]? = some M') (hl : (lg_sl vs).length ≤ M'.2.2.1)
    (kk : Ev d M' (h, 0, lv_args 0 vs, []) (fun r h1 => Ev (d + 1) M (h1, pc + 3, lv, r.toList ++ rest) Q)) : Ev (d + 1) M (h, pc, lv, st) Q := by
  obtain ⟨n1, r1, h1, e1, n2, r2, h2, e2, q⟩ := kk
  refine ⟨max n1 n2 + 1, r2, h2, ?_, q⟩
  have e3 := p_run_mono (Nat.le_max_left n1 n2) e1
  have e4 := p_run_mono (Nat.le_max_right n1 n2) e2
  simp only [p_run, hf, hk, p_live]
  rw [if_neg (by rw [hc]; decide), ha, hM]
  simp only [if_pos hl, e3]
  exact e4
end EVR
theorem pu_s {h : pH} {k : Nat} {c : pE} : pu h k c k = c := if_pos rfl
theorem pu_n {h : pH} {k j : Nat} {c x : pE} (hj : j ≠ k) (hx : h j = x) : pu h k c j = x := (if_neg hj).trans hx
theorem p_retZ {h : pH} {pc : Nat} {lv : pLv} {v : Int32} {rt : Option FieldType} {t : FieldType} (e : narrow t (.int v) = .int v) (hr : rt = some t := by rfl) : p_ret rt .ireturn (h, pc, lv, [.int v]) = some (some (.int v), h) := by
  subst hr
  simp only [p_ret, if_pos e]
theorem p_argsV {idx na ci r pc : Nat} {h : pH} {lv : pLv} {st rest fs : List Value} (hr : r < pN) (hh : h r = eO ci fs) (hc : (rest.map fun v => v.category).sum ≤ 8) (hd : st.drop na = .ref r :: rest := by rfl) (hl : na ≤ st.length := by exact Nat.le_of_ble_eq_true rfl) : p_args pN (.invokevirtual idx) na ci (h, pc, lv, st) = some (.ref r :: (st.take na).reverse, rest) := by
  simp only [p_args, hd, if_pos (show r < pN ∧ na ≤ st.length ∧ (rest.map fun v => v.category).sum ≤ 8 from ⟨hr, hl, hc⟩), hh, if_true]
/-- a call of a method that reads alone, with a known answer -/
theorem Ev.callE {d : Nat} {M : pM} {Q : Option Value → pH → Prop} {h : pH} {pc : Nat} {lv : pLv} {st : List Value} {len : Nat} {a : Nat × Nat × Nat} {ps : List Nat} {i : Instr} {M' : pM} {vs rest : List Value} {x : Option Value} (hf : List.lookup pc M.2.2.2.2.2 = some (i, len, a, ps, [])) (hk : p_kd i = 2) (hc : p_isCp i a.2.2 = false) (ha : p_args pN i a.2.1 a.2.2 (h, pc, lv, st) = some (vs, rest)) (hM : p_T[a.1]? = some M') (hl : (lg_sl vs).length ≤ M'.2.2.1)
    (he : Ev d M' (h, 0, lv_args 0 vs, []) (fun r h1 => r = x ∧ h1 = h)) (kk : Ev (d + 1) M (h, pc + 3, lv, x.toList ++ rest) Q) : Ev (d + 1) M (h, pc, lv, st) Q := by
  refine Ev.call hf hk hc ha hM hl (he.mono (fun r h1 hq => ?_))
  obtain ⟨rfl, rfl⟩ := hq
  exact kk
/-- a row of a two-dimensional array -/
theorem p_rowAt {n b : Nat} {i : Int32} (h : vp_in i n) : (fun j => if j < n then some (b + j) else none) i.toNatClampNeg = some (b + i.toNatClampNeg) := if_pos (Nat.not_le.mp fun q => h (Or.inr q))
theorem vi_of {v : Int32} {n : Nat} {m : Int32} (hm : m.toInt = n) (h0 : ¬ v < 0) (h1 : v < m) : vp_in v n := by
  rw [vp_in_iff]
  rw [Int32.lt_iff_toInt_lt] at h0 h1
  have e : (0 : Int32).toInt = 0 := rfl
  omega
end
section
/-! PICTURES of the objects: what the places hold; a frame: what stays -/
def fr (L : List (Nat × Nat)) (h h1 : pH) : Prop := ∀ k, (∀ q ∈ L, k < q.1 ∨ q.2 ≤ k) → h1 k = h k
theorem pu_x {h : pH} {k j : Nat} {c : pE} (hj : j ≠ k) : pu h k c j = h j := if_neg hj
theorem Ev.live {d : Nat} {M : pM} {Q : Option Value → pH → Prop} {h : pH} {pc : Nat} {lv lv' : pLv} {st : List Value} {len : Nat} {a : Nat × Nat × Nat} {ps ks : List Nat} {i : Instr} (hf : List.lookup pc M.2.2.2.2.2 = some (i, len, a, ps, ks)) (hl : p_live ks lv = lv') (kk : Ev d M (h, pc, lv', st) Q) : Ev d M (h, pc, lv, st) Q := by
  subst hl
  obtain ⟨n, r, h', e, q⟩ := kk
  refine ⟨n, r, h', ?_, q⟩
  cases n with
  | zero => simp [p_run] at e
  | succ n =>
    have e2 : p_live ks (p_live ks lv) = p_live ks lv := by
      cases ks with
      | nil => rfl
      | cons x r =>
        show List.filter _ (List.filter _ lv) = List.filter _ lv
        rw [List.filter_filter]
        congr 1
        funext q
        exact Bool.and_self _
    simp only [p_run, hf] at e ⊢
    rw [e2] at e
    exact e
theorem fr0 {lo hi : Nat} : ∀ q ∈ ([] : List (Nat × Nat)), hi ≤ q.1 ∨ q.2 ≤ lo := fun _ q => absurd q List.not_mem_nil
theorem fr1 {lo hi a0 b0 : Nat} (h0 : hi ≤ a0 ∨ b0 ≤ lo) : ∀ q ∈ [(a0, b0)], hi ≤ q.1 ∨ q.2 ≤ lo := List.forall_mem_cons.mpr ⟨h0, fr0 ⟩
theorem fr2 {lo hi a0 b0 a1 b1 : Nat} (h0 : hi ≤ a0 ∨ b0 ≤ lo) (h1 : hi ≤ a1 ∨ b1 ≤ lo) : ∀ q ∈ [(a0, b0), (a1, b1)], hi ≤ q.1 ∨ q.2 ≤ lo := List.forall_mem_cons.mpr ⟨h0, fr1 h1⟩
theorem fr3 {lo hi a0 b0 a1 b1 a2 b2 : Nat} (h0 : hi ≤ a0 ∨ b0 ≤ lo) (h1 : hi ≤ a1 ∨ b1 ≤ lo) (h2 : hi ≤ a2 ∨ b2 ≤ lo) : ∀ q ∈ [(a0, b0), (a1, b1), (a2, b2)], hi ≤ q.1 ∨ q.2 ≤ lo := List.forall_mem_cons.mpr ⟨h0, fr2 h1 h2⟩
theorem fr4 {lo hi a0 b0 a1 b1 a2 b2 a3 b3 : Nat} (h0 : hi ≤ a0 ∨ b0 ≤ lo) (h1 : hi ≤ a1 ∨ b1 ≤ lo) (h2 : hi ≤ a2 ∨ b2 ≤ lo) (h3 : hi ≤ a3 ∨ b3 ≤ lo) : ∀ q ∈ [(a0, b0), (a1, b1), (a2, b2), (a3, b3)], hi ≤ q.1 ∨ q.2 ≤ lo := List.forall_mem_cons.mpr ⟨h0, fr3 h1 h2 h3⟩
theorem fr5 {lo hi a0 b0 a1 b1 a2 b2 a3 b3 a4 b4 : Nat} (h0 : hi ≤ a0 ∨ b0 ≤ lo) (h1 : hi ≤ a1 ∨ b1 ≤ lo) (h2 : hi ≤ a2 ∨ b2 ≤ lo) (h3 : hi ≤ a3 ∨ b3 ≤ lo) (h4 : hi ≤ a4 ∨ b4 ≤ lo) : ∀ q ∈ [(a0, b0), (a1, b1), (a2, b2), (a3, b3), (a4, b4)], hi ≤ q.1 ∨ q.2 ≤ lo := List.forall_mem_cons.mpr ⟨h0, fr4 h1 h2 h3 h4⟩
theorem fr6 {lo hi a0 b0 a1 b1 a2 b2 a3 b3 a4 b4 a5 b5 : Nat} (h0 : hi ≤ a0 ∨ b0 ≤ lo) (h1 : hi ≤ a1 ∨ b1 ≤ lo) (h2 : hi ≤ a2 ∨ b2 ≤ lo) (h3 : hi ≤ a3 ∨ b3 ≤ lo) (h4 : hi ≤ a4 ∨ b4 ≤ lo) (h5 : hi ≤ a5 ∨ b5 ≤ lo) : ∀ q ∈ [(a0, b0), (a1, b1), (a2, b2), (a3, b3), (a4, b4), (a5, b5)], hi ≤ q.1 ∨ q.2 ≤ lo := List.forall_mem_cons.mpr ⟨h0, fr5 h1 h2 h3 h4 h5⟩
theorem fr7 {lo hi a0 b0 a1 b1 a2 b2 a3 b3 a4 b4 a5 b5 a6 b6 : Nat} (h0 : hi ≤ a0 ∨ b0 ≤ lo) (h1 : hi ≤ a1 ∨ b1 ≤ lo) (h2 : hi ≤ a2 ∨ b2 ≤ lo) (h3 : hi ≤ a3 ∨ b3 ≤ lo) (h4 : hi ≤ a4 ∨ b4 ≤ lo) (h5 : hi ≤ a5 ∨ b5 ≤ lo) (h6 : hi ≤ a6 ∨ b6 ≤ lo) : ∀ q ∈ [(a0, b0), (a1, b1), (a2, b2), (a3, b3), (a4, b4), (a5, b5), (a6, b6)], hi ≤ q.1 ∨ q.2 ≤ lo := List.forall_mem_cons.mpr ⟨h0, fr6 h1 h2 h3 h4 h5 h6⟩
theorem fr8 {lo hi a0 b0 a1 b1 a2 b2 a3 b3 a4 b4 a5 b5 a6 b6 a7 b7 : Nat} (h0 : hi ≤ a0 ∨ b0 ≤ lo) (h1 : hi ≤ a1 ∨ b1 ≤ lo) (h2 : hi ≤ a2 ∨ b2 ≤ lo) (h3 : hi ≤ a3 ∨ b3 ≤ lo) (h4 : hi ≤ a4 ∨ b4 ≤ lo) (h5 : hi ≤ a5 ∨ b5 ≤ lo) (h6 : hi ≤ a6 ∨ b6 ≤ lo) (h7 : hi ≤ a7 ∨ b7 ≤ lo) : ∀ q ∈ [(a0, b0), (a1, b1), (a2, b2), (a3, b3), (a4, b4), (a5, b5), (a6, b6), (a7, b7)], hi ≤ q.1 ∨ q.2 ≤ lo := List.forall_mem_cons.mpr ⟨h0, fr7 h1 h2 h3 h4 h5 h6 h7⟩
theorem fr9 {lo hi a0 b0 a1 b1 a2 b2 a3 b3 a4 b4 a5 b5 a6 b6 a7 b7 a8 b8 : Nat} (h0 : hi ≤ a0 ∨ b0 ≤ lo) (h1 : hi ≤ a1 ∨ b1 ≤ lo) (h2 : hi ≤ a2 ∨ b2 ≤ lo) (h3 : hi ≤ a3 ∨ b3 ≤ lo) (h4 : hi ≤ a4 ∨ b4 ≤ lo) (h5 : hi ≤ a5 ∨ b5 ≤ lo) (h6 : hi ≤ a6 ∨ b6 ≤ lo) (h7 : hi ≤ a7 ∨ b7 ≤ lo) (h8 : hi ≤ a8 ∨ b8 ≤ lo) : ∀ q ∈ [(a0, b0), (a1, b1), (a2, b2), (a3, b3), (a4, b4), (a5, b5), (a6, b6), (a7, b7), (a8, b8)], hi ≤ q.1 ∨ q.2 ≤ lo := List.forall_mem_cons.mpr ⟨h0, fr8 h1 h2 h3 h4 h5 h6 h7 h8⟩
abbrev tT : Type := (Nat → Int32) × (Nat → Int32) × (Nat → Int32) × Int32 × Int32 × Int32
def isT (h : pH) (t : Nat) (X : tT) : Prop := h t = eO 6 [.ref (t + 1), .ref (t + 2), .ref (t + 3), .int X.2.2.2.1, .int X.2.2.2.2.1, .int X.2.2.2.2.2] ∧ h (t + 1) = eI 24 X.1 ∧ h (t + 2) = eI 24 X.2.1 ∧ h (t + 3) = eI 24 X.2.2.1 ∧ t + 3 < pN
theorem isT.fr {L : List (Nat × Nat)} {h h1 : pH} {t : Nat} {X : tT} (f : fr L h h1) (hd : ∀ q ∈ L, t + 4 ≤ q.1 ∨ q.2 ≤ t) (hx : isT h t X) : isT h1 t X := ⟨(f _ (fun q hq => by have := hd q hq; omega)).trans hx.1, (f _ (fun q hq => by have := hd q hq; omega)).trans hx.2.1, (f _ (fun q hq => by have := hd q hq; omega)).trans hx.2.2.1, (f _ (fun q hq => by have := hd q hq; omega)).trans hx.2.2.2.1, hx.2.2.2.2⟩
abbrev tL : Type := (Nat → Int32) × Int32
def isL (h : pH) (X : tL) : Prop := h 1 = eO 0 [.ref 2, .int X.2] ∧ h 2 = eI 200 X.1
theorem isL.fr {L : List (Nat × Nat)} {h h1 : pH} {X : tL} (f : fr L h h1) (hd : ∀ q ∈ L, 3 ≤ q.1 ∨ q.2 ≤ 1) (hx : isL h X) : isL h1 X := ⟨(f _ (fun q hq => by have := hd q hq; omega)).trans hx.1, (f _ (fun q hq => by have := hd q hq; omega)).trans hx.2⟩
abbrev tK : Type := (Nat → Int32) × Int32 × Int32
def isK (h : pH) (X : tK) : Prop := h 3 = eO 7 [.ref 4, .int X.2.1, .int X.2.2] ∧ h 4 = eI 3 X.1
theorem isK.fr {L : List (Nat × Nat)} {h h1 : pH} {X : tK} (f : fr L h h1) (hd : ∀ q ∈ L, 5 ≤ q.1 ∨ q.2 ≤ 3) (hx : isK h X) : isK h1 X := ⟨(f _ (fun q hq => by have := hd q hq; omega)).trans hx.1, (f _ (fun q hq => by have := hd q hq; omega)).trans hx.2⟩
abbrev tU : Type := (Nat → Int32) × Int32 × Int32 × Int32 × Int32
def isU (h : pH) (X : tU) : Prop := h 5 = eO 5 [.ref 6, .int X.2.1, .int X.2.2.1, .int X.2.2.2.1, .int X.2.2.2.2] ∧ h 6 = eI 8 X.1
theorem isU.fr {L : List (Nat × Nat)} {h h1 : pH} {X : tU} (f : fr L h h1) (hd : ∀ q ∈ L, 7 ≤ q.1 ∨ q.2 ≤ 5) (hx : isU h X) : isU h1 X := ⟨(f _ (fun q hq => by have := hd q hq; omega)).trans hx.1, (f _ (fun q hq => by have := hd q hq; omega)).trans hx.2⟩
abbrev tO : Type := (Nat → Int32) × (Nat → Int32) × (Nat → Int32) × (Nat → Int32) × (Nat → Int32) × (Nat → Int32) × (Nat → Int32) × Int32
def isO (h : pH) (X : tO) : Prop := h 15 = eO 2 [.ref 16, .ref 17, .ref 18, .ref 19, .ref 20, .ref 21, .ref 22, .int X.2.2.2.2.2.2.2] ∧ h 16 = eI 24 X.1 ∧ h 17 = eI 24 X.2.1 ∧ h 18 = eI 24 X.2.2.1 ∧ h 19 = eI 24 X.2.2.2.1 ∧ h 20 = eI 24 X.2.2.2.2.1 ∧ h 21 = eI 24 X.2.2.2.2.2.1 ∧ h 22 = eI 24 X.2.2.2.2.2.2.1
theorem isO.fr {L : List (Nat × Nat)} {h h1 : pH} {X : tO} (f : fr L h h1) (hd : ∀ q ∈ L, 23 ≤ q.1 ∨ q.2 ≤ 15) (hx : isO h X) : isO h1 X := ⟨(f _ (fun q hq => by have := hd q hq; omega)).trans hx.1, (f _ (fun q hq => by have := hd q hq; omega)).trans hx.2.1, (f _ (fun q hq => by have := hd q hq; omega)).trans hx.2.2.1, (f _ (fun q hq => by have := hd q hq; omega)).trans hx.2.2.2.1, (f _ (fun q hq => by have := hd q hq; omega)).trans hx.2.2.2.2.1, (f _ (fun q hq => by have := hd q hq; omega)).trans hx.2.2.2.2.2.1, (f _ (fun q hq => by have := hd q hq; omega)).trans hx.2.2.2.2.2.2.1, (f _ (fun q hq => by have := hd q hq; omega)).trans hx.2.2.2.2.2.2.2⟩
abbrev tP : Type := (Nat → Int32) × (Nat → Int32) × (Nat → Int32) × (Nat → Int32) × Int32
def isP (h : pH) (X : tP) : Prop := h 23 = eO 3 [.ref 24, .ref 25, .ref 26, .ref 27, .int X.2.2.2.2] ∧ h 24 = eI 8 X.1 ∧ h 25 = eI 8 X.2.1 ∧ h 26 = eI 8 X.2.2.1 ∧ h 27 = eI 8 X.2.2.2.1
theorem isP.fr {L : List (Nat × Nat)} {h h1 : pH} {X : tP} (f : fr L h h1) (hd : ∀ q ∈ L, 28 ≤ q.1 ∨ q.2 ≤ 23) (hx : isP h X) : isP h1 X := ⟨(f _ (fun q hq => by have := hd q hq; omega)).trans hx.1, (f _ (fun q hq => by have := hd q hq; omega)).trans hx.2.1, (f _ (fun q hq => by have := hd q hq; omega)).trans hx.2.2.1, (f _ (fun q hq => by have := hd q hq; omega)).trans hx.2.2.2.1, (f _ (fun q hq => by have := hd q hq; omega)).trans hx.2.2.2.2⟩
abbrev tS : Type := (Nat → Int32) × (Nat → Int32) × (Nat → Int32) × Int32 × Int32
def isS (h : pH) (t : Nat) (X : tS) : Prop := h t = eO 4 [.ref (t + 1), .ref (t + 2), .ref (t + 3), .int X.2.2.2.1, .int X.2.2.2.2] ∧ h (t + 1) = eI 8 X.1 ∧ h (t + 2) = eI 8 X.2.1 ∧ h (t + 3) = eI 8 X.2.2.1 ∧ t + 3 < pN
theorem isS.fr {L : List (Nat × Nat)} {h h1 : pH} {t : Nat} {X : tS} (f : fr L h h1) (hd : ∀ q ∈ L, t + 4 ≤ q.1 ∨ q.2 ≤ t) (hx : isS h t X) : isS h1 t X := ⟨(f _ (fun q hq => by have := hd q hq; omega)).trans hx.1, (f _ (fun q hq => by have := hd q hq; omega)).trans hx.2.1, (f _ (fun q hq => by have := hd q hq; omega)).trans hx.2.2.1, (f _ (fun q hq => by have := hd q hq; omega)).trans hx.2.2.2.1, hx.2.2.2.2⟩
abbrev tM : Type := (Nat → Int32) × (Nat → Nat → Int32) × (Nat → Int64)
def isM (h : pH) (X : tM) : Prop := h 73 = eO 9 [.int (X.1 0), .int (X.1 1), .int (X.1 2), .ref 74, .ref 75, .ref 76, .ref 77, .int (X.1 7), .ref 78, .int (X.1 9), .ref 79, .int (X.1 11), .int (X.1 12), .int (X.1 13), .ref 80, .int (X.1 15), .int (X.1 16), .ref 81, .ref 82, .ref 83, .int (X.1 20), .int (X.1 21), .ref 84, .ref 85, .ref 86, .ref 87, .ref 88] ∧ h 74 = eI 24 (X.2.1 3) ∧ h 75 = eI 24 (X.2.1 4) ∧ h 76 = eI 24 (X.2.1 5) ∧ h 77 = eI 600 (X.2.1 6) ∧ h 78 = eI 150 (X.2.1 8) ∧ h 79 = eI 200 (X.2.1 10) ∧ h 80 = eI 75 (X.2.1 14) ∧ h 81 = eI 8 (X.2.1 17) ∧ h 82 = eI 8 (X.2.1 18) ∧ h 83 = eI 8 (X.2.1 19) ∧ h 84 = eI 8 (X.2.1 22) ∧ h 85 = eI 8 (X.2.1 23) ∧ h 86 = eI 8 (X.2.1 24) ∧ h 87 = eI 10 (X.2.1 25) ∧ h 88 = eJ 192 X.2.2
theorem isM.fr {L : List (Nat × Nat)} {h h1 : pH} {X : tM} (f : fr L h h1) (hd : ∀ q ∈ L, 89 ≤ q.1 ∨ q.2 ≤ 73) (hx : isM h X) : isM h1 X := ⟨(f _ (fun q hq => by have := hd q hq; omega)).trans hx.1, (f _ (fun q hq => by have := hd q hq; omega)).trans hx.2.1, (f _ (fun q hq => by have := hd q hq; omega)).trans hx.2.2.1, (f _ (fun q hq => by have := hd q hq; omega)).trans hx.2.2.2.1, (f _ (fun q hq => by have := hd q hq; omega)).trans hx.2.2.2.2.1, (f _ (fun q hq => by have := hd q hq; omega)).trans hx.2.2.2.2.2.1, (f _ (fun q hq => by have := hd q hq; omega)).trans hx.2.2.2.2.2.2.1, (f _ (fun q hq => by have := hd q hq; omega)).trans hx.2.2.2.2.2.2.2.1, (f _ (fun q hq => by have := hd q hq; omega)).trans hx.2.2.2.2.2.2.2.2.1, (f _ (fun q hq => by have := hd q hq; omega)).trans hx.2.2.2.2.2.2.2.2.2.1, (f _ (fun q hq => by have := hd q hq; omega)).trans hx.2.2.2.2.2.2.2.2.2.2.1, (f _ (fun q hq => by have := hd q hq; omega)).trans hx.2.2.2.2.2.2.2.2.2.2.2.1, (f _ (fun q hq => by have := hd q hq; omega)).trans hx.2.2.2.2.2.2.2.2.2.2.2.2.1, (f _ (fun q hq => by have := hd q hq; omega)).trans hx.2.2.2.2.2.2.2.2.2.2.2.2.2.1, (f _ (fun q hq => by have := hd q hq; omega)).trans hx.2.2.2.2.2.2.2.2.2.2.2.2.2.2.1, (f _ (fun q hq => by have := hd q hq; omega)).trans hx.2.2.2.2.2.2.2.2.2.2.2.2.2.2.2⟩
abbrev tX : Type := Int32 × Int32
def isX (h : pH) (X : tX) : Prop := h 0 = eO 8 [.ref 1, .ref 3, .ref 5, .ref 7, .ref 11, .ref 15, .ref 23, .ref 28, .ref 32, .int X.1, .ref 36, .ref 40, .ref 44, .int X.2]
theorem isX.fr {L : List (Nat × Nat)} {h h1 : pH} {X : tX} (f : fr L h h1) (hd : ∀ q ∈ L, 1 ≤ q.1 ∨ q.2 ≤ 0) (hx : isX h X) : isX h1 X := (f _ (fun q hq => by have := hd q hq; omega)).trans hx
abbrev tG : Type := (Nat → Nat → Int64) × (Nat → Nat → Int64) × (Nat → Nat → Int64) × (Nat → Int64)
def isG (h : pH) (X : tG) : Prop := h 44 = eO 1 [.ref 45, .ref 54, .ref 63, .ref 72, .ref 7, .ref 15, .ref 36] ∧ h 45 = eR 8 (fun j => if j < 8 then some (46 + j) else none) ∧ (∀ i, i < 8 → h (46 + i) = eJ 24 (X.1 i)) ∧ h 54 = eR 8 (fun j => if j < 8 then some (55 + j) else none) ∧ (∀ i, i < 8 → h (55 + i) = eJ 24 (X.2.1 i)) ∧ h 63 = eR 8 (fun j => if j < 8 then some (64 + j) else none) ∧ (∀ i, i < 8 → h (64 + i) = eJ 24 (X.2.2.1 i)) ∧ h 72 = eJ 24 X.2.2.2
theorem isG.fr {L : List (Nat × Nat)} {h h1 : pH} {X : tG} (f : fr L h h1) (hd : ∀ q ∈ L, 73 ≤ q.1 ∨ q.2 ≤ 44) (hx : isG h X) : isG h1 X := ⟨(f _ (fun q hq => by have := hd q hq; omega)).trans hx.1, (f _ (fun q hq => by have := hd q hq; omega)).trans hx.2.1, fun i hi => (f _ (fun q hq => by have := hd q hq; omega)).trans (hx.2.2.1 i hi), (f _ (fun q hq => by have := hd q hq; omega)).trans hx.2.2.2.1, fun i hi => (f _ (fun q hq => by have := hd q hq; omega)).trans (hx.2.2.2.2.1 i hi), (f _ (fun q hq => by have := hd q hq; omega)).trans hx.2.2.2.2.2.1, fun i hi => (f _ (fun q hq => by have := hd q hq; omega)).trans (hx.2.2.2.2.2.2.1 i hi), (f _ (fun q hq => by have := hd q hq; omega)).trans hx.2.2.2.2.2.2.2⟩
theorem vp_lt {i : Int32} {n : Nat} (h : vp_in i n) : i.toNatClampNeg < n := Nat.not_le.mp fun q => h (Or.inr q)
theorem rw_put {h : pH} {b X : Nat} {f : Nat → Nat → Int64} {r : Nat → Int64} (H : ∀ i, i < 8 → h (b + i) = eJ 24 (f i)) (hX : X < 8) : ∀ i, i < 8 → pu h (b + X) (eJ 24 r) (b + i) = eJ 24 (va_up f X r i) := fun i hi => by
  by_cases e : i = X
  · subst e
    rw [va_up_self]
    exact pu_s
  · rw [va_up_ne f r e]
    exact pu_n (by omega) (H i hi)
theorem rw_keep {h : pH} {b p : Nat} {c : pE} {f : Nat → Nat → Int64} (H : ∀ i, i < 8 → h (b + i) = eJ 24 (f i)) (hp : p < b ∨ b + 8 ≤ p) : ∀ i, i < 8 → pu h p c (b + i) = eJ 24 (f i) := fun i hi => pu_n (by omega) (H i hi)
/-- Arrays.fill of a row of 24 -/
def p_fill (f : Nat → Int64) (x : Int64) : Nat → Int64 := fun j => if j < 24 then x else f j
/-- a call of a method without an answer, the heap behind it known -/
theorem Ev.callU {d : Nat} {M : pM} {Q : Option Value → pH → Prop} {h h2 : pH} {pc : Nat} {lv : pLv} {st : List Value} {len : Nat} {a : Nat × Nat × Nat} {ps : List Nat} {i : Instr} {M' : pM} {vs rest : List Value} (hf : List.lookup pc M.2.2.2.2.2 = some (i, len, a, ps, [])) (hk : p_kd i = 2) (hc : p_isCp i a.2.2 = false) (ha : p_args pN i a.2.1 a.2.2 (h, pc, lv, st) = some (vs, rest)) (hM : p_T[a.1]? = some M') (hl : (lg_sl vs).length ≤ M'.2.2.1)
    (he : Ev d M' (h, 0, lv_args 0 vs, []) (fun r h1 => r = none ∧ h1 = h2)) (kk : Ev (d + 1) M (h2, pc + 3, lv, rest) Q) : Ev (d + 1) M (h, pc, lv, st) Q := by
  refine Ev.call hf hk hc ha hM hl (he.mono (fun r h1 hq => ?_))
  obtain ⟨rfl, rfl⟩ := hq
  exact kk
theorem p_swt {N : Nat} {Cs : List pCi} {mx len pc tgt : Nat} {a : Nat × Nat × Nat} {h : pH} {lv : pLv} {r : List Value} {dflt lo hi : Int} {offs : Array Int} {x : Int32} (hx : x.toInt < lo ∨ hi < x.toInt) (ht : (pc : Int) + dflt = (tgt : Int) := by decide) : p_step N Cs mx (.tableswitch dflt lo hi offs) len a (h, pc, lv, .int x :: r) = some (h, tgt, lv, r) := by
  have e0 : 0 ≤ (pc : Int) + dflt := by omega
  have e1 : ((pc : Int) + dflt).toNat = tgt := by omega
  simp only [p_step, p_tsw]
  rw [if_pos hx, if_pos e0, e1]
theorem p_swl {N : Nat} {Cs : List pCi} {mx len pc tgt : Nat} {a : Nat × Nat × Nat} {h : pH} {lv : pLv} {r : List Value} {dflt : Int} {ps : Array (Int × Int)} {x : Int32} (hx : Op.lookupswitch.offset ps.toList dflt x.toInt = dflt) (hp : (ps.toList.zip (ps.toList.drop 1)).all (fun (a, next) => a.1 < next.1) = true := by decide) (ht : (pc : Int) + dflt = (tgt : Int) := by decide) : p_step N Cs mx (.lookupswitch dflt ps) len a (h, pc, lv, .int x :: r) = some (h, tgt, lv, r) := by
  have e0 : 0 ≤ (pc : Int) + dflt := by omega
  have e1 : ((pc : Int) + dflt).toNat = tgt := by omega
  simp only [p_step, p_lsw]
  rw [hx, if_pos ⟨hp, e0⟩, e1]
theorem p_sw_1_3 {x : Int32} (c1 : ¬ x = 1) (c2 : ¬ x = 2) (c3 : ¬ x = 3) : x.toInt < 1 ∨ 3 < x.toInt := by
  rcases Classical.em (x.toInt < 1 ∨ 3 < x.toInt) with h | h
  · exact h
  · have e : x.toInt = 1 ∨ x.toInt = 2 ∨ x.toInt = 3 := by omega
    rcases e with e | e | e
    · exact absurd (Int32.toInt_inj.mp (e.trans (show (1 : Int) = (1 : Int32).toInt from rfl))) c1
    · exact absurd (Int32.toInt_inj.mp (e.trans (show (2 : Int) = (2 : Int32).toInt from rfl))) c2
    · exact absurd (Int32.toInt_inj.mp (e.trans (show (3 : Int) = (3 : Int32).toInt from rfl))) c3
theorem p_sw_0_5 {x : Int32} (c0 : ¬ x = 0) (c1 : ¬ x = 1) (c2 : ¬ x = 2) (c3 : ¬ x = 3) (c4 : ¬ x = 4) (c5 : ¬ x = 5) : x.toInt < 0 ∨ 5 < x.toInt := by
  rcases Classical.em (x.toInt < 0 ∨ 5 < x.toInt) with h | h
  · exact h
  · have e : x.toInt = 0 ∨ x.toInt = 1 ∨ x.toInt = 2 ∨ x.toInt = 3 ∨ x.toInt = 4 ∨ x.toInt = 5 := by omega
    rcases e with e | e | e | e | e | e
    · exact absurd (Int32.toInt_inj.mp (e.trans (show (0 : Int) = (0 : Int32).toInt from rfl))) c0
    · exact absurd (Int32.toInt_inj.mp (e.trans (show (1 : Int) = (1 : Int32).toInt from rfl))) c1
    · exact absurd (Int32.toInt_inj.mp (e.trans (show (2 : Int) = (2 : Int32).toInt from rfl))) c2
    · exact absurd (Int32.toInt_inj.mp (e.trans (show (3 : Int) = (3 : Int32).toInt from rfl))) c3
    · exact absurd (Int32.toInt_inj.mp (e.trans (show (4 : Int) = (4 : Int32).toInt from rfl))) c4
    · exact absurd (Int32.toInt_inj.mp (e.trans (show (5 : Int) = (5 : Int32).toInt from rfl))) c5
theorem p_sw_0_2 {x : Int32} (c0 : ¬ x = 0) (c1 : ¬ x = 1) (c2 : ¬ x = 2) : x.toInt < 0 ∨ 2 < x.toInt := by
  rcases Classical.em (x.toInt < 0 ∨ 2 < x.toInt) with h | h
  · exact h
  · have e : x.toInt = 0 ∨ x.toInt = 1 ∨ x.toInt = 2 := by omega
    rcases e with e | e | e
    · exact absurd (Int32.toInt_inj.mp (e.trans (show (0 : Int) = (0 : Int32).toInt from rfl))) c0
    · exact absurd (Int32.toInt_inj.mp (e.trans (show (1 : Int) = (1 : Int32).toInt from rfl))) c1
    · exact absurd (Int32.toInt_inj.mp (e.trans (show (2 : Int) = (2 : Int32).toInt from rfl))) c2
theorem p_sw_0_8 {x : Int32} (c0 : ¬ x = 0) (c1 : ¬ x = 1) (c2 : ¬ x = 2) (c3 : ¬ x = 3) (c4 : ¬ x = 4) (c5 : ¬ x = 5) (c6 : ¬ x = 6) (c7 : ¬ x = 7) (c8 : ¬ x = 8) : x.toInt < 0 ∨ 8 < x.toInt := by
  rcases Classical.em (x.toInt < 0 ∨ 8 < x.toInt) with h | h
  · exact h
  · have e : x.toInt = 0 ∨ x.toInt = 1 ∨ x.toInt = 2 ∨ x.toInt = 3 ∨ x.toInt = 4 ∨ x.toInt = 5 ∨ x.toInt = 6 ∨ x.toInt = 7 ∨ x.toInt = 8 := by omega
    rcases e with e | e | e | e | e | e | e | e | e
    · exact absurd (Int32.toInt_inj.mp (e.trans (show (0 : Int) = (0 : Int32).toInt from rfl))) c0
    · exact absurd (Int32.toInt_inj.mp (e.trans (show (1 : Int) = (1 : Int32).toInt from rfl))) c1
    · exact absurd (Int32.toInt_inj.mp (e.trans (show (2 : Int) = (2 : Int32).toInt from rfl))) c2
    · exact absurd (Int32.toInt_inj.mp (e.trans (show (3 : Int) = (3 : Int32).toInt from rfl))) c3
    · exact absurd (Int32.toInt_inj.mp (e.trans (show (4 : Int) = (4 : Int32).toInt from rfl))) c4
    · exact absurd (Int32.toInt_inj.mp (e.trans (show (5 : Int) = (5 : Int32).toInt from rfl))) c5
    · exact absurd (Int32.toInt_inj.mp (e.trans (show (6 : Int) = (6 : Int32).toInt from rfl))) c6
    · exact absurd (Int32.toInt_inj.mp (e.trans (show (7 : Int) = (7 : Int32).toInt from rfl))) c7
    · exact absurd (Int32.toInt_inj.mp (e.trans (show (8 : Int) = (8 : Int32).toInt from rfl))) c8
theorem p_sw_0_4 {x : Int32} (c0 : ¬ x = 0) (c1 : ¬ x = 1) (c2 : ¬ x = 2) (c3 : ¬ x = 3) (c4 : ¬ x = 4) : x.toInt < 0 ∨ 4 < x.toInt := by
  rcases Classical.em (x.toInt < 0 ∨ 4 < x.toInt) with h | h
  · exact h
  · have e : x.toInt = 0 ∨ x.toInt = 1 ∨ x.toInt = 2 ∨ x.toInt = 3 ∨ x.toInt = 4 := by omega
    rcases e with e | e | e | e | e
    · exact absurd (Int32.toInt_inj.mp (e.trans (show (0 : Int) = (0 : Int32).toInt from rfl))) c0
    · exact absurd (Int32.toInt_inj.mp (e.trans (show (1 : Int) = (1 : Int32).toInt from rfl))) c1
    · exact absurd (Int32.toInt_inj.mp (e.trans (show (2 : Int) = (2 : Int32).toInt from rfl))) c2
    · exact absurd (Int32.toInt_inj.mp (e.trans (show (3 : Int) = (3 : Int32).toInt from rfl))) c3
    · exact absurd (Int32.toInt_inj.mp (e.trans (show (4 : Int) = (4 : Int32).toInt from rfl))) c4
theorem p_sw_0_7 {x : Int32} (c0 : ¬ x = 0) (c1 : ¬ x = 1) (c2 : ¬ x = 2) (c3 : ¬ x = 3) (c4 : ¬ x = 4) (c5 : ¬ x = 5) (c6 : ¬ x = 6) (c7 : ¬ x = 7) : x.toInt < 0 ∨ 7 < x.toInt := by
  rcases Classical.em (x.toInt < 0 ∨ 7 < x.toInt) with h | h
  · exact h
  · have e : x.toInt = 0 ∨ x.toInt = 1 ∨ x.toInt = 2 ∨ x.toInt = 3 ∨ x.toInt = 4 ∨ x.toInt = 5 ∨ x.toInt = 6 ∨ x.toInt = 7 := by omega
    rcases e with e | e | e | e | e | e | e | e
    · exact absurd (Int32.toInt_inj.mp (e.trans (show (0 : Int) = (0 : Int32).toInt from rfl))) c0
    · exact absurd (Int32.toInt_inj.mp (e.trans (show (1 : Int) = (1 : Int32).toInt from rfl))) c1
    · exact absurd (Int32.toInt_inj.mp (e.trans (show (2 : Int) = (2 : Int32).toInt from rfl))) c2
    · exact absurd (Int32.toInt_inj.mp (e.trans (show (3 : Int) = (3 : Int32).toInt from rfl))) c3
    · exact absurd (Int32.toInt_inj.mp (e.trans (show (4 : Int) = (4 : Int32).toInt from rfl))) c4
    · exact absurd (Int32.toInt_inj.mp (e.trans (show (5 : Int) = (5 : Int32).toInt from rfl))) c5
    · exact absurd (Int32.toInt_inj.mp (e.trans (show (6 : Int) = (6 : Int32).toInt from rfl))) c6
    · exact absurd (Int32.toInt_inj.mp (e.trans (show (7 : Int) = (7 : Int32).toInt from rfl))) c7
theorem p_sw_43_126 {x : Int32} (c0 : ¬ x = 43) (c1 : ¬ x = 47) (c2 : ¬ x = 58) (c3 : ¬ x = 126) {o0 o1 o2 o3 d : Int} : Op.lookupswitch.offset (#[(43, o0), (47, o1), (58, o2), (126, o3)] : Array (Int × Int)).toList d x.toInt = d := by
  show Op.lookupswitch.offset [(43, o0), (47, o1), (58, o2), (126, o3)] d x.toInt = d
  rw [lv_osw (a := 43) c0 rfl, lv_osw (a := 47) c1 rfl, lv_osw (a := 58) c2 rfl, lv_osw (a := 126) c3 rfl]
  first | rfl | simp [Op.lookupswitch.offset]
end
section
/-! Tree: its methods as functions -/
def fX7_isNumber (v : Int32) : Int32 := (if v < 0 then 0 else (if 24 ≤ v then 0 else 1))
theorem spX7_isNumber {d : Nat} {h : pH}  (v : Int32) : Ev d mX7_isNumber (h, 0, [(0, .int v)], []) (fun r h1 => r = some (.int (fX7_isNumber v)) ∧ h1 = h) := by
  refine Ev.go 1 (s' := (h, 1, [(0, .int v)], [.int v])) rfl ?_
  refine Ev.if1 rfl (fun c1 => ?_) (fun c1 => ?_)
  · have c1 : v < 0 := c1
    refine Ev.go 1 (s' := (h, 15, [(0, .int v)], [.int 0])) rfl ?_
    exact Ev.ret rfl rfl (p_retZ rfl) ⟨congrArg (fun z => some (Value.int z)) (by rw [fX7_isNumber, if_pos c1]), rfl⟩
  · have c1 : ¬ (v < 0) := c1
    refine Ev.go 2 (s' := (h, 7, [(0, .int v)], [.int 24, .int v])) rfl ?_
    refine Ev.if2 rfl (fun c2 => ?_) (fun c2 => ?_)
    · have c2 : 24 ≤ v := c2
      refine Ev.go 1 (s' := (h, 15, [(0, .int v)], [.int 0])) rfl ?_
      exact Ev.ret rfl rfl (p_retZ rfl) ⟨congrArg (fun z => some (Value.int z)) (by rw [fX7_isNumber, if_neg c1, if_pos c2]), rfl⟩
    · have c2 : ¬ (24 ≤ v) := c2
      refine Ev.go 2 (s' := (h, 15, [(0, .int v)], [.int 1])) rfl ?_
      exact Ev.ret rfl rfl (p_retZ rfl) ⟨congrArg (fun z => some (Value.int z)) (by rw [fX7_isNumber, if_neg c1, if_neg c2]), rfl⟩
theorem vnX7 {v : Int32} (c : ¬ fX7_isNumber v = 0) : vp_in v 24 := by
  unfold fX7_isNumber at c
  split at c
  · exact absurd rfl c
  · split at c
    · exact absurd rfl c
    · rename_i h0 h1
      exact vi_of (m := 24) rfl h0 (by rw [Int32.lt_iff_toInt_lt]; rw [Int32.le_iff_toInt_le] at h1; omega)
def fX7_isThere (T : tT) (v : Int32) : Int32 := (if (fX7_isNumber v) = 0 then 0 else (if ¬ ((T.2.2.2.1 >>> (v &&& 31)) &&& 1) = 1 then 0 else 1))
theorem spX7_isThere {d : Nat} {h : pH} {t : Nat} {T : tT} (xT : isT h t T) (v : Int32) : Ev (d + 1) mX7_isThere (h, 0, [(0, .ref t), (1, .int v)], []) (fun r h1 => r = some (.int (fX7_isThere T v)) ∧ h1 = h) := by
  refine Ev.go 1 (s' := (h, 1, [(0, .ref t), (1, .int v)], [.int v])) rfl ?_
  refine Ev.callE rfl rfl rfl rfl rfl (Nat.le_of_ble_eq_true rfl) (spX7_isNumber  v) ?_
  refine Ev.if1 rfl (fun c1 => ?_) (fun c1 => ?_)
  · have c1 : (fX7_isNumber v) = 0 := c1
    refine Ev.go 1 (s' := (h, 24, [(0, .ref t), (1, .int v)], [.int 0])) rfl ?_
    exact Ev.ret rfl rfl (p_retZ rfl) ⟨congrArg (fun z => some (Value.int z)) (by rw [fX7_isThere, if_pos c1]), rfl⟩
  · have c1 : ¬ ((fX7_isNumber v) = 0) := c1
    refine Ev.go 1 (s' := (h, 8, [(0, .ref t), (1, .int v)], [.ref t])) rfl ?_
    refine Ev.get rfl (by have := xT.2.2.2.2; omega) xT.1 rfl ?_
    refine Ev.go 5 (s' := (h, 16, [(0, .ref t), (1, .int v)], [.int 1, .int ((T.2.2.2.1 >>> (v &&& 31)) &&& 1)])) rfl ?_
    refine Ev.if2 rfl (fun c2 => ?_) (fun c2 => ?_)
    · have c2 : ¬ ((T.2.2.2.1 >>> (v &&& 31)) &&& 1) = 1 := c2
      refine Ev.go 1 (s' := (h, 24, [(0, .ref t), (1, .int v)], [.int 0])) rfl ?_
      exact Ev.ret rfl rfl (p_retZ rfl) ⟨congrArg (fun z => some (Value.int z)) (by rw [fX7_isThere, if_neg c1, if_pos c2]), rfl⟩
    · have c2 : ¬ (¬ ((T.2.2.2.1 >>> (v &&& 31)) &&& 1) = 1) := c2
      refine Ev.go 2 (s' := (h, 24, [(0, .ref t), (1, .int v)], [.int 1])) rfl ?_
      exact Ev.ret rfl rfl (p_retZ rfl) ⟨congrArg (fun z => some (Value.int z)) (by rw [fX7_isThere, if_neg c1, if_neg c2]), rfl⟩
def fX7_isFull (T : tT) : Int32 := (if T.2.2.2.2.1 < 24 then 0 else 1)
theorem spX7_isFull {d : Nat} {h : pH} {t : Nat} {T : tT} (xT : isT h t T) : Ev d mX7_isFull (h, 0, [(0, .ref t)], []) (fun r h1 => r = some (.int (fX7_isFull T)) ∧ h1 = h) := by
  refine Ev.go 1 (s' := (h, 1, [(0, .ref t)], [.ref t])) rfl ?_
  refine Ev.get rfl (by have := xT.2.2.2.2; omega) xT.1 rfl ?_
  refine Ev.go 1 (s' := (h, 6, [(0, .ref t)], [.int 24, .int T.2.2.2.2.1])) rfl ?_
  refine Ev.if2 rfl (fun c1 => ?_) (fun c1 => ?_)
  · have c1 : T.2.2.2.2.1 < 24 := c1
    refine Ev.go 1 (s' := (h, 14, [(0, .ref t)], [.int 0])) rfl ?_
    exact Ev.ret rfl rfl (p_retZ rfl) ⟨congrArg (fun z => some (Value.int z)) (by rw [fX7_isFull, if_pos c1]), rfl⟩
  · have c1 : ¬ (T.2.2.2.2.1 < 24) := c1
    refine Ev.go 2 (s' := (h, 14, [(0, .ref t)], [.int 1])) rfl ?_
    exact Ev.ret rfl rfl (p_retZ rfl) ⟨congrArg (fun z => some (Value.int z)) (by rw [fX7_isFull, if_neg c1]), rfl⟩
def fX7_came (T : tT) : Int32 := T.2.2.2.2.1
theorem spX7_came {d : Nat} {h : pH} {t : Nat} {T : tT} (xT : isT h t T) : Ev d mX7_came (h, 0, [(0, .ref t)], []) (fun r h1 => r = some (.int (fX7_came T)) ∧ h1 = h) := by
  refine Ev.go 1 (s' := (h, 1, [(0, .ref t)], [.ref t])) rfl ?_
  refine Ev.get rfl (by have := xT.2.2.2.2; omega) xT.1 rfl ?_
  exact Ev.ret rfl rfl (p_retZ rfl) ⟨congrArg (fun z => some (Value.int z)) (by rw [fX7_came]), rfl⟩
def fX7_kind (T : tT) : Int32 := T.2.2.2.2.2
theorem spX7_kind {d : Nat} {h : pH} {t : Nat} {T : tT} (xT : isT h t T) : Ev d mX7_kind (h, 0, [(0, .ref t)], []) (fun r h1 => r = some (.int (fX7_kind T)) ∧ h1 = h) := by
  refine Ev.go 1 (s' := (h, 1, [(0, .ref t)], [.ref t])) rfl ?_
  refine Ev.get rfl (by have := xT.2.2.2.2; omega) xT.1 rfl ?_
  exact Ev.ret rfl rfl (p_retZ rfl) ⟨congrArg (fun z => some (Value.int z)) (by rw [fX7_kind]), rfl⟩
def fX7_bits (T : tT) : Int32 := T.2.2.2.1
theorem spX7_bits {d : Nat} {h : pH} {t : Nat} {T : tT} (xT : isT h t T) : Ev d mX7_bits (h, 0, [(0, .ref t)], []) (fun r h1 => r = some (.int (fX7_bits T)) ∧ h1 = h) := by
  refine Ev.go 1 (s' := (h, 1, [(0, .ref t)], [.ref t])) rfl ?_
  refine Ev.get rfl (by have := xT.2.2.2.2; omega) xT.1 rfl ?_
  exact Ev.ret rfl rfl (p_retZ rfl) ⟨congrArg (fun z => some (Value.int z)) (by rw [fX7_bits]), rfl⟩
def fX7_tagOf (T : tT) (v : Int32) : Int32 := (if (fX7_isNumber v) = 0 then (-1) else T.1 v.toNatClampNeg)
theorem spX7_tagOf {d : Nat} {h : pH} {t : Nat} {T : tT} (xT : isT h t T) (v : Int32) : Ev (d + 1) mX7_tagOf (h, 0, [(0, .ref t), (1, .int v)], []) (fun r h1 => r = some (.int (fX7_tagOf T v)) ∧ h1 = h) := by
  refine Ev.go 1 (s' := (h, 1, [(0, .ref t), (1, .int v)], [.int v])) rfl ?_
  refine Ev.callE rfl rfl rfl rfl rfl (Nat.le_of_ble_eq_true rfl) (spX7_isNumber  v) ?_
  refine Ev.if1 rfl (fun c1 => ?_) (fun c1 => ?_)
  · have c1 : (fX7_isNumber v) = 0 := c1
    refine Ev.go 1 (s' := (h, 17, [(0, .ref t), (1, .int v)], [.int ((-1))])) rfl ?_
    exact Ev.ret rfl rfl (p_retZ rfl) ⟨congrArg (fun z => some (Value.int z)) (by rw [fX7_tagOf, if_pos c1]), rfl⟩
  · have c1 : ¬ ((fX7_isNumber v) = 0) := c1
    refine Ev.go 1 (s' := (h, 8, [(0, .ref t), (1, .int v)], [.ref t])) rfl ?_
    refine Ev.get rfl (by have := xT.2.2.2.2; omega) xT.1 rfl ?_
    refine Ev.go 1 (s' := (h, 12, [(0, .ref t), (1, .int v)], [.int v, .ref (t + 1)])) rfl ?_
    refine Ev.iald rfl (by have := xT.2.2.2.2; omega) xT.2.1 (vnX7 c1) ?_
    refine Ev.go 1 (s' := (h, 17, [(0, .ref t), (1, .int v)], [.int (T.1 v.toNatClampNeg)])) rfl ?_
    exact Ev.ret rfl rfl (p_retZ rfl) ⟨congrArg (fun z => some (Value.int z)) (by rw [fX7_tagOf, if_neg c1]), rfl⟩
def fX7_parentOf (T : tT) (v : Int32) : Int32 := (if (fX7_isNumber v) = 0 then (-1) else T.2.1 v.toNatClampNeg)
theorem spX7_parentOf {d : Nat} {h : pH} {t : Nat} {T : tT} (xT : isT h t T) (v : Int32) : Ev (d + 1) mX7_parentOf (h, 0, [(0, .ref t), (1, .int v)], []) (fun r h1 => r = some (.int (fX7_parentOf T v)) ∧ h1 = h) := by
  refine Ev.go 1 (s' := (h, 1, [(0, .ref t), (1, .int v)], [.int v])) rfl ?_
  refine Ev.callE rfl rfl rfl rfl rfl (Nat.le_of_ble_eq_true rfl) (spX7_isNumber  v) ?_
  refine Ev.if1 rfl (fun c1 => ?_) (fun c1 => ?_)
  · have c1 : (fX7_isNumber v) = 0 := c1
    refine Ev.go 1 (s' := (h, 17, [(0, .ref t), (1, .int v)], [.int ((-1))])) rfl ?_
    exact Ev.ret rfl rfl (p_retZ rfl) ⟨congrArg (fun z => some (Value.int z)) (by rw [fX7_parentOf, if_pos c1]), rfl⟩
  · have c1 : ¬ ((fX7_isNumber v) = 0) := c1
    refine Ev.go 1 (s' := (h, 8, [(0, .ref t), (1, .int v)], [.ref t])) rfl ?_
    refine Ev.get rfl (by have := xT.2.2.2.2; omega) xT.1 rfl ?_
    refine Ev.go 1 (s' := (h, 12, [(0, .ref t), (1, .int v)], [.int v, .ref (t + 2)])) rfl ?_
    refine Ev.iald rfl (by have := xT.2.2.2.2; omega) xT.2.2.1 (vnX7 c1) ?_
    refine Ev.go 1 (s' := (h, 17, [(0, .ref t), (1, .int v)], [.int (T.2.1 v.toNatClampNeg)])) rfl ?_
    exact Ev.ret rfl rfl (p_retZ rfl) ⟨congrArg (fun z => some (Value.int z)) (by rw [fX7_parentOf, if_neg c1]), rfl⟩
def fX7_spotOf (T : tT) (v : Int32) : Int32 := (if (fX7_isNumber v) = 0 then 0 else T.2.2.1 v.toNatClampNeg)
theorem spX7_spotOf {d : Nat} {h : pH} {t : Nat} {T : tT} (xT : isT h t T) (v : Int32) : Ev (d + 1) mX7_spotOf (h, 0, [(0, .ref t), (1, .int v)], []) (fun r h1 => r = some (.int (fX7_spotOf T v)) ∧ h1 = h) := by
  refine Ev.go 1 (s' := (h, 1, [(0, .ref t), (1, .int v)], [.int v])) rfl ?_
  refine Ev.callE rfl rfl rfl rfl rfl (Nat.le_of_ble_eq_true rfl) (spX7_isNumber  v) ?_
  refine Ev.if1 rfl (fun c1 => ?_) (fun c1 => ?_)
  · have c1 : (fX7_isNumber v) = 0 := c1
    refine Ev.go 1 (s' := (h, 17, [(0, .ref t), (1, .int v)], [.int 0])) rfl ?_
    exact Ev.ret rfl rfl (p_retZ rfl) ⟨congrArg (fun z => some (Value.int z)) (by rw [fX7_spotOf, if_pos c1]), rfl⟩
  · have c1 : ¬ ((fX7_isNumber v) = 0) := c1
    refine Ev.go 1 (s' := (h, 8, [(0, .ref t), (1, .int v)], [.ref t])) rfl ?_
    refine Ev.get rfl (by have := xT.2.2.2.2; omega) xT.1 rfl ?_
    refine Ev.go 1 (s' := (h, 12, [(0, .ref t), (1, .int v)], [.int v, .ref (t + 3)])) rfl ?_
    refine Ev.iald rfl (by have := xT.2.2.2.2; omega) xT.2.2.2.1 (vnX7 c1) ?_
    refine Ev.go 1 (s' := (h, 17, [(0, .ref t), (1, .int v)], [.int (T.2.2.1 v.toNatClampNeg)])) rfl ?_
    exact Ev.ret rfl rfl (p_retZ rfl) ⟨congrArg (fun z => some (Value.int z)) (by rw [fX7_spotOf, if_neg c1]), rfl⟩
def lX7_kidsOf_4 (n : Nat) (T : tT) : Nat → Int32 → Int32 → Int32 → Option (Int32)
  | 0, _, _, _ => none
  | m + 1, x1, x2, x3 => (if 24 ≤ x3 then some x2 else (if (fX7_isThere T x3) = 0 then lX7_kidsOf_4 n T m x1 x2 (x3 + 1) else (if x3 < 0 ∨ 24 ≤ x3.toNatClampNeg then none else (if ¬ (T.2.1 x3.toNatClampNeg) = x1 then lX7_kidsOf_4 n T m x1 x2 (x3 + 1) else lX7_kidsOf_4 n T m x1 (x2 + 1) (x3 + 1)))))
theorem llX7_kidsOf_4 {d n : Nat} {t : Nat} {T : tT} : ∀ (m : Nat) (h : pH) (x1 : Int32) (x2 : Int32) (x3 : Int32) (res : Int32), lX7_kidsOf_4 n T m x1 x2 x3 = some res → isT h t T → Ev (d + 2) mX7_kidsOf (h, 4, [(0, .ref t), (1, .int x1), (2, .int x2), (3, .int x3)], []) (fun r h1 => r = some (.int res) ∧ h1 = h)
  | 0, h, x1, x2, x3, res, H, _ => by cases H
  | m + 1, h, x1, x2, x3, res, H, xT => by
    have H : (if 24 ≤ x3 then some x2 else (if (fX7_isThere T x3) = 0 then lX7_kidsOf_4 n T m x1 x2 (x3 + 1) else (if x3 < 0 ∨ 24 ≤ x3.toNatClampNeg then none else (if ¬ (T.2.1 x3.toNatClampNeg) = x1 then lX7_kidsOf_4 n T m x1 x2 (x3 + 1) else lX7_kidsOf_4 n T m x1 (x2 + 1) (x3 + 1))))) = some res := H
    refine Ev.go 2 (s' := (h, 7, [(0, .ref t), (1, .int x1), (2, .int x2), (3, .int x3)], [.int 24, .int x3])) rfl ?_
    refine Ev.if2 rfl (fun c1 => ?_) (fun c1 => ?_)
    · have c1 : 24 ≤ x3 := c1
      rw [if_pos c1] at H
      refine Ev.go 1 (s' := (h, 38, [(0, .ref t), (1, .int x1), (2, .int x2), (3, .int x3)], [.int x2])) rfl ?_
      cases H
      exact Ev.ret rfl rfl (p_retZ rfl) ⟨rfl, rfl⟩
    · have c1 : ¬ (24 ≤ x3) := c1
      rw [if_neg c1] at H
      refine Ev.go 2 (s' := (h, 12, [(0, .ref t), (1, .int x1), (2, .int x2), (3, .int x3)], [.int x3, .ref t])) rfl ?_
      refine Ev.callE rfl rfl rfl (p_argsV (by have := xT.2.2.2.2; omega) xT.1 (Nat.le_of_ble_eq_true rfl)) rfl (Nat.le_of_ble_eq_true rfl) (spX7_isThere xT x3) ?_
      refine Ev.if1 rfl (fun c2 => ?_) (fun c2 => ?_)
      · have c2 : (fX7_isThere T x3) = 0 := c2
        rw [if_pos c2] at H
        refine Ev.go 2 (s' := (h, 4, [(0, .ref t), (1, .int x1), (2, .int x2), (3, .int (x3 + 1))], [])) rfl ?_
        refine Ev.live rfl (lv' := [(0, .ref t), (1, .int x1), (2, .int x2), (3, .int (x3 + 1))]) rfl ?_
        exact llX7_kidsOf_4 m h x1 x2 (x3 + 1) _ H xT
      · have c2 : ¬ ((fX7_isThere T x3) = 0) := c2
        rw [if_neg c2] at H
        refine Ev.go 1 (s' := (h, 19, [(0, .ref t), (1, .int x1), (2, .int x2), (3, .int x3)], [.ref t])) rfl ?_
        refine Ev.get rfl (by have := xT.2.2.2.2; omega) xT.1 rfl ?_
        refine Ev.go 1 (s' := (h, 23, [(0, .ref t), (1, .int x1), (2, .int x2), (3, .int x3)], [.int x3, .ref (t + 2)])) rfl ?_
        have v3 : vp_in x3 24 := fun q => by rw [if_pos q] at H; cases H
        rw [if_neg v3] at H
        refine Ev.iald rfl (by have := xT.2.2.2.2; omega) xT.2.2.1 v3 ?_
        refine Ev.go 1 (s' := (h, 25, [(0, .ref t), (1, .int x1), (2, .int x2), (3, .int x3)], [.int x1, .int (T.2.1 x3.toNatClampNeg)])) rfl ?_
        refine Ev.if2 rfl (fun c4 => ?_) (fun c4 => ?_)
        · have c4 : ¬ (T.2.1 x3.toNatClampNeg) = x1 := c4
          rw [if_pos c4] at H
          refine Ev.go 2 (s' := (h, 4, [(0, .ref t), (1, .int x1), (2, .int x2), (3, .int (x3 + 1))], [])) rfl ?_
          refine Ev.live rfl (lv' := [(0, .ref t), (1, .int x1), (2, .int x2), (3, .int (x3 + 1))]) rfl ?_
          exact llX7_kidsOf_4 m h x1 x2 (x3 + 1) _ H xT
        · have c4 : ¬ (¬ (T.2.1 x3.toNatClampNeg) = x1) := c4
          rw [if_neg c4] at H
          refine Ev.go 3 (s' := (h, 4, [(0, .ref t), (1, .int x1), (2, .int (x2 + 1)), (3, .int (x3 + 1))], [])) rfl ?_
          refine Ev.live rfl (lv' := [(0, .ref t), (1, .int x1), (2, .int (x2 + 1)), (3, .int (x3 + 1))]) rfl ?_
          exact llX7_kidsOf_4 m h x1 (x2 + 1) (x3 + 1) _ H xT
def fX7_kidsOf (n : Nat) (T : tT) (p : Int32) : Option (Int32) := lX7_kidsOf_4 n T n p 0 1
theorem spX7_kidsOf {d n : Nat} {h : pH} {t : Nat} {T : tT} (xT : isT h t T) (p : Int32) {res : Int32} (H : fX7_kidsOf n T p = some res) : Ev (d + 2) mX7_kidsOf (h, 0, [(0, .ref t), (1, .int p)], []) (fun r h1 => r = some (.int res) ∧ h1 = h) := by
  unfold fX7_kidsOf at H
  refine Ev.go 4 (s' := (h, 4, [(0, .ref t), (1, .int p), (2, .int 0), (3, .int 1)], [])) rfl ?_
  refine Ev.live rfl (lv' := [(0, .ref t), (1, .int p), (2, .int 0), (3, .int 1)]) rfl ?_
  exact llX7_kidsOf_4 n h p 0 1 _ H xT
def lX7_nextKid_9 (n : Nat) (T : tT) : Nat → Int32 → Int32 → Int32 → Int32 → Int32 → Option (Int32)
  | 0, _, _, _, _, _ => none
  | m + 1, x1, x2, x3, x4, x5 => (if 24 ≤ x5 then some x3 else (if ¬ ((T.2.2.2.1 >>> (x5 &&& 31)) &&& 1) = 1 then lX7_nextKid_9 n T m x1 x2 x3 x4 (x5 + 1) else (if x5 < 0 ∨ 24 ≤ x5.toNatClampNeg then none else (if ¬ (T.2.1 x5.toNatClampNeg) = x1 then lX7_nextKid_9 n T m x1 x2 x3 x4 (x5 + 1) else (if (T.2.2.1 x5.toNatClampNeg) ≤ x2 then lX7_nextKid_9 n T m x1 x2 x3 x4 (x5 + 1) else (if x4 ≤ (T.2.2.1 x5.toNatClampNeg) then lX7_nextKid_9 n T m x1 x2 x3 x4 (x5 + 1) else lX7_nextKid_9 n T m x1 x2 x5 (T.2.2.1 x5.toNatClampNeg) (x5 + 1)))))))
theorem llX7_nextKid_9 {d n : Nat} {t : Nat} {T : tT} : ∀ (m : Nat) (h : pH) (x1 : Int32) (x2 : Int32) (x3 : Int32) (x4 : Int32) (x5 : Int32) (res : Int32), lX7_nextKid_9 n T m x1 x2 x3 x4 x5 = some res → isT h t T → Ev d mX7_nextKid (h, 9, [(0, .ref t), (1, .int x1), (2, .int x2), (3, .int x3), (4, .int x4), (5, .int x5)], []) (fun r h1 => r = some (.int res) ∧ h1 = h)
  | 0, h, x1, x2, x3, x4, x5, res, H, _ => by cases H
  | m + 1, h, x1, x2, x3, x4, x5, res, H, xT => by
    have H : (if 24 ≤ x5 then some x3 else (if ¬ ((T.2.2.2.1 >>> (x5 &&& 31)) &&& 1) = 1 then lX7_nextKid_9 n T m x1 x2 x3 x4 (x5 + 1) else (if x5 < 0 ∨ 24 ≤ x5.toNatClampNeg then none else (if ¬ (T.2.1 x5.toNatClampNeg) = x1 then lX7_nextKid_9 n T m x1 x2 x3 x4 (x5 + 1) else (if (T.2.2.1 x5.toNatClampNeg) ≤ x2 then lX7_nextKid_9 n T m x1 x2 x3 x4 (x5 + 1) else (if x4 ≤ (T.2.2.1 x5.toNatClampNeg) then lX7_nextKid_9 n T m x1 x2 x3 x4 (x5 + 1) else lX7_nextKid_9 n T m x1 x2 x5 (T.2.2.1 x5.toNatClampNeg) (x5 + 1))))))) = some res := H
    refine Ev.go 2 (s' := (h, 13, [(0, .ref t), (1, .int x1), (2, .int x2), (3, .int x3), (4, .int x4), (5, .int x5)], [.int 24, .int x5])) rfl ?_
    refine Ev.if2 rfl (fun c1 => ?_) (fun c1 => ?_)
    · have c1 : 24 ≤ x5 := c1
      rw [if_pos c1] at H
      refine Ev.go 1 (s' := (h, 82, [(0, .ref t), (1, .int x1), (2, .int x2), (3, .int x3), (4, .int x4), (5, .int x5)], [.int x3])) rfl ?_
      cases H
      exact Ev.ret rfl rfl (p_retZ rfl) ⟨rfl, rfl⟩
    · have c1 : ¬ (24 ≤ x5) := c1
      rw [if_neg c1] at H
      refine Ev.go 1 (s' := (h, 17, [(0, .ref t), (1, .int x1), (2, .int x2), (3, .int x3), (4, .int x4), (5, .int x5)], [.ref t])) rfl ?_
      refine Ev.get rfl (by have := xT.2.2.2.2; omega) xT.1 rfl ?_
      refine Ev.go 5 (s' := (h, 26, [(0, .ref t), (1, .int x1), (2, .int x2), (3, .int x3), (4, .int x4), (5, .int x5)], [.int 1, .int ((T.2.2.2.1 >>> (x5 &&& 31)) &&& 1)])) rfl ?_
      refine Ev.if2 rfl (fun c2 => ?_) (fun c2 => ?_)
      · have c2 : ¬ ((T.2.2.2.1 >>> (x5 &&& 31)) &&& 1) = 1 := c2
        rw [if_pos c2] at H
        refine Ev.go 2 (s' := (h, 9, [(0, .ref t), (1, .int x1), (2, .int x2), (3, .int x3), (4, .int x4), (5, .int (x5 + 1))], [])) rfl ?_
        refine Ev.live rfl (lv' := [(0, .ref t), (1, .int x1), (2, .int x2), (3, .int x3), (4, .int x4), (5, .int (x5 + 1))]) rfl ?_
        exact llX7_nextKid_9 m h x1 x2 x3 x4 (x5 + 1) _ H xT
      · have c2 : ¬ (¬ ((T.2.2.2.1 >>> (x5 &&& 31)) &&& 1) = 1) := c2
        rw [if_neg c2] at H
        refine Ev.go 1 (s' := (h, 30, [(0, .ref t), (1, .int x1), (2, .int x2), (3, .int x3), (4, .int x4), (5, .int x5)], [.ref t])) rfl ?_
        refine Ev.get rfl (by have := xT.2.2.2.2; omega) xT.1 rfl ?_
        refine Ev.go 1 (s' := (h, 35, [(0, .ref t), (1, .int x1), (2, .int x2), (3, .int x3), (4, .int x4), (5, .int x5)], [.int x5, .ref (t + 2)])) rfl ?_
        have v3 : vp_in x5 24 := fun q => by rw [if_pos q] at H; cases H
        rw [if_neg v3] at H
        refine Ev.iald rfl (by have := xT.2.2.2.2; omega) xT.2.2.1 v3 ?_
        refine Ev.go 1 (s' := (h, 37, [(0, .ref t), (1, .int x1), (2, .int x2), (3, .int x3), (4, .int x4), (5, .int x5)], [.int x1, .int (T.2.1 x5.toNatClampNeg)])) rfl ?_
        refine Ev.if2 rfl (fun c4 => ?_) (fun c4 => ?_)
        · have c4 : ¬ (T.2.1 x5.toNatClampNeg) = x1 := c4
          rw [if_pos c4] at H
          refine Ev.go 2 (s' := (h, 9, [(0, .ref t), (1, .int x1), (2, .int x2), (3, .int x3), (4, .int x4), (5, .int (x5 + 1))], [])) rfl ?_
          refine Ev.live rfl (lv' := [(0, .ref t), (1, .int x1), (2, .int x2), (3, .int x3), (4, .int x4), (5, .int (x5 + 1))]) rfl ?_
          exact llX7_nextKid_9 m h x1 x2 x3 x4 (x5 + 1) _ H xT
        · have c4 : ¬ (¬ (T.2.1 x5.toNatClampNeg) = x1) := c4
          rw [if_neg c4] at H
          refine Ev.go 1 (s' := (h, 41, [(0, .ref t), (1, .int x1), (2, .int x2), (3, .int x3), (4, .int x4), (5, .int x5)], [.ref t])) rfl ?_
          refine Ev.get rfl (by have := xT.2.2.2.2; omega) xT.1 rfl ?_
          refine Ev.go 1 (s' := (h, 46, [(0, .ref t), (1, .int x1), (2, .int x2), (3, .int x3), (4, .int x4), (5, .int x5)], [.int x5, .ref (t + 3)])) rfl ?_
          refine Ev.iald rfl (by have := xT.2.2.2.2; omega) xT.2.2.2.1 v3 ?_
          refine Ev.go 1 (s' := (h, 48, [(0, .ref t), (1, .int x1), (2, .int x2), (3, .int x3), (4, .int x4), (5, .int x5)], [.int x2, .int (T.2.2.1 x5.toNatClampNeg)])) rfl ?_
          refine Ev.if2 rfl (fun c5 => ?_) (fun c5 => ?_)
          · have c5 : (T.2.2.1 x5.toNatClampNeg) ≤ x2 := c5
            rw [if_pos c5] at H
            refine Ev.go 2 (s' := (h, 9, [(0, .ref t), (1, .int x1), (2, .int x2), (3, .int x3), (4, .int x4), (5, .int (x5 + 1))], [])) rfl ?_
            refine Ev.live rfl (lv' := [(0, .ref t), (1, .int x1), (2, .int x2), (3, .int x3), (4, .int x4), (5, .int (x5 + 1))]) rfl ?_
            exact llX7_nextKid_9 m h x1 x2 x3 x4 (x5 + 1) _ H xT
          · have c5 : ¬ ((T.2.2.1 x5.toNatClampNeg) ≤ x2) := c5
            rw [if_neg c5] at H
            refine Ev.go 1 (s' := (h, 52, [(0, .ref t), (1, .int x1), (2, .int x2), (3, .int x3), (4, .int x4), (5, .int x5)], [.ref t])) rfl ?_
            refine Ev.get rfl (by have := xT.2.2.2.2; omega) xT.1 rfl ?_
            refine Ev.go 1 (s' := (h, 57, [(0, .ref t), (1, .int x1), (2, .int x2), (3, .int x3), (4, .int x4), (5, .int x5)], [.int x5, .ref (t + 3)])) rfl ?_
            refine Ev.iald rfl (by have := xT.2.2.2.2; omega) xT.2.2.2.1 v3 ?_
            refine Ev.go 1 (s' := (h, 60, [(0, .ref t), (1, .int x1), (2, .int x2), (3, .int x3), (4, .int x4), (5, .int x5)], [.int x4, .int (T.2.2.1 x5.toNatClampNeg)])) rfl ?_
            refine Ev.if2 rfl (fun c6 => ?_) (fun c6 => ?_)
            · have c6 : x4 ≤ (T.2.2.1 x5.toNatClampNeg) := c6
              rw [if_pos c6] at H
              refine Ev.go 2 (s' := (h, 9, [(0, .ref t), (1, .int x1), (2, .int x2), (3, .int x3), (4, .int x4), (5, .int (x5 + 1))], [])) rfl ?_
              refine Ev.live rfl (lv' := [(0, .ref t), (1, .int x1), (2, .int x2), (3, .int x3), (4, .int x4), (5, .int (x5 + 1))]) rfl ?_
              exact llX7_nextKid_9 m h x1 x2 x3 x4 (x5 + 1) _ H xT
            · have c6 : ¬ (x4 ≤ (T.2.2.1 x5.toNatClampNeg)) := c6
              rw [if_neg c6] at H
              refine Ev.go 3 (s' := (h, 67, [(0, .ref t), (1, .int x1), (2, .int x2), (3, .int x5), (4, .int x4), (5, .int x5)], [.ref t])) rfl ?_
              refine Ev.get rfl (by have := xT.2.2.2.2; omega) xT.1 rfl ?_
              refine Ev.go 1 (s' := (h, 72, [(0, .ref t), (1, .int x1), (2, .int x2), (3, .int x5), (4, .int x4), (5, .int x5)], [.int x5, .ref (t + 3)])) rfl ?_
              refine Ev.iald rfl (by have := xT.2.2.2.2; omega) xT.2.2.2.1 v3 ?_
              refine Ev.go 3 (s' := (h, 9, [(0, .ref t), (1, .int x1), (2, .int x2), (3, .int x5), (4, .int (T.2.2.1 x5.toNatClampNeg)), (5, .int (x5 + 1))], [])) rfl ?_
              refine Ev.live rfl (lv' := [(0, .ref t), (1, .int x1), (2, .int x2), (3, .int x5), (4, .int (T.2.2.1 x5.toNatClampNeg)), (5, .int (x5 + 1))]) rfl ?_
              exact llX7_nextKid_9 m h x1 x2 x5 (T.2.2.1 x5.toNatClampNeg) (x5 + 1) _ H xT
def fX7_nextKid (n : Nat) (T : tT) (p : Int32) (spot : Int32) : Option (Int32) := lX7_nextKid_9 n T n p spot (-1) 1000000000 1
theorem spX7_nextKid {d n : Nat} {h : pH} {t : Nat} {T : tT} (xT : isT h t T) (p : Int32) (spot : Int32) {res : Int32} (H : fX7_nextKid n T p spot = some res) : Ev d mX7_nextKid (h, 0, [(0, .ref t), (1, .int p), (2, .int spot)], []) (fun r h1 => r = some (.int res) ∧ h1 = h) := by
  unfold fX7_nextKid at H
  refine Ev.go 6 (s' := (h, 9, [(0, .ref t), (1, .int p), (2, .int spot), (3, .int ((-1))), (4, .int 1000000000), (5, .int 1)], [])) rfl ?_
  refine Ev.live rfl (lv' := [(0, .ref t), (1, .int p), (2, .int spot), (3, .int ((-1))), (4, .int 1000000000), (5, .int 1)]) rfl ?_
  exact llX7_nextKid_9 n h p spot (-1) 1000000000 1 _ H xT
def lX7_childAt_10 (n : Nat) (T : tT) : Nat → Int32 → Int32 → Int32 → Int32 → Option (Int32)
  | 0, _, _, _, _ => none
  | m + 1, x1, x2, x3, x4 => (if x2 ≤ x4 then some x3 else (if x3 < 0 then some x3 else ((fX7_nextKid n T x1 (fX7_spotOf T x3)).bind fun y6 => lX7_childAt_10 n T m x1 x2 y6 (x4 + 1))))
theorem llX7_childAt_10 {d n : Nat} {t : Nat} {T : tT} : ∀ (m : Nat) (h : pH) (x1 : Int32) (x2 : Int32) (x3 : Int32) (x4 : Int32) (res : Int32), lX7_childAt_10 n T m x1 x2 x3 x4 = some res → isT h t T → Ev (d + 2) mX7_childAt (h, 10, [(0, .ref t), (1, .int x1), (2, .int x2), (3, .int x3), (4, .int x4)], []) (fun r h1 => r = some (.int res) ∧ h1 = h)
  | 0, h, x1, x2, x3, x4, res, H, _ => by cases H
  | m + 1, h, x1, x2, x3, x4, res, H, xT => by
    have H : (if x2 ≤ x4 then some x3 else (if x3 < 0 then some x3 else ((fX7_nextKid n T x1 (fX7_spotOf T x3)).bind fun y6 => lX7_childAt_10 n T m x1 x2 y6 (x4 + 1)))) = some res := H
    refine Ev.go 2 (s' := (h, 13, [(0, .ref t), (1, .int x1), (2, .int x2), (3, .int x3), (4, .int x4)], [.int x2, .int x4])) rfl ?_
    refine Ev.if2 rfl (fun c3 => ?_) (fun c3 => ?_)
    · have c3 : x2 ≤ x4 := c3
      rw [if_pos c3] at H
      refine Ev.go 1 (s' := (h, 38, [(0, .ref t), (1, .int x1), (2, .int x2), (3, .int x3), (4, .int x4)], [.int x3])) rfl ?_
      cases H
      exact Ev.ret rfl rfl (p_retZ rfl) ⟨rfl, rfl⟩
    · have c3 : ¬ (x2 ≤ x4) := c3
      rw [if_neg c3] at H
      refine Ev.go 1 (s' := (h, 17, [(0, .ref t), (1, .int x1), (2, .int x2), (3, .int x3), (4, .int x4)], [.int x3])) rfl ?_
      refine Ev.if1 rfl (fun c4 => ?_) (fun c4 => ?_)
      · have c4 : x3 < 0 := c4
        rw [if_pos c4] at H
        refine Ev.go 1 (s' := (h, 38, [(0, .ref t), (1, .int x1), (2, .int x2), (3, .int x3), (4, .int x4)], [.int x3])) rfl ?_
        cases H
        exact Ev.ret rfl rfl (p_retZ rfl) ⟨rfl, rfl⟩
      · have c4 : ¬ (x3 < 0) := c4
        rw [if_neg c4] at H
        refine Ev.go 4 (s' := (h, 24, [(0, .ref t), (1, .int x1), (2, .int x2), (3, .int x3), (4, .int x4)], [.int x3, .ref t, .int x1, .ref t])) rfl ?_
        refine Ev.callE rfl rfl rfl (p_argsV (by have := xT.2.2.2.2; omega) xT.1 (Nat.le_of_ble_eq_true rfl)) rfl (Nat.le_of_ble_eq_true rfl) (spX7_spotOf xT x3) ?_
        obtain ⟨y6, e5, H⟩ := Option.bind_eq_some_iff.mp H
        refine Ev.callE rfl rfl rfl (p_argsV (by have := xT.2.2.2.2; omega) xT.1 (Nat.le_of_ble_eq_true rfl)) rfl (Nat.le_of_ble_eq_true rfl) (spX7_nextKid xT x1 (fX7_spotOf T x3) e5) ?_
        refine Ev.go 3 (s' := (h, 10, [(0, .ref t), (1, .int x1), (2, .int x2), (3, .int y6), (4, .int (x4 + 1))], [])) rfl ?_
        refine Ev.live rfl (lv' := [(0, .ref t), (1, .int x1), (2, .int x2), (3, .int y6), (4, .int (x4 + 1))]) rfl ?_
        exact llX7_childAt_10 m h x1 x2 y6 (x4 + 1) _ H xT
def fX7_childAt (n : Nat) (T : tT) (p : Int32) (place : Int32) : Option (Int32) := ((fX7_nextKid n T p 0).bind fun y2 => lX7_childAt_10 n T n p place y2 0)
theorem spX7_childAt {d n : Nat} {h : pH} {t : Nat} {T : tT} (xT : isT h t T) (p : Int32) (place : Int32) {res : Int32} (H : fX7_childAt n T p place = some res) : Ev (d + 2) mX7_childAt (h, 0, [(0, .ref t), (1, .int p), (2, .int place)], []) (fun r h1 => r = some (.int res) ∧ h1 = h) := by
  unfold fX7_childAt at H
  refine Ev.go 3 (s' := (h, 3, [(0, .ref t), (1, .int p), (2, .int place)], [.int 0, .int p, .ref t])) rfl ?_
  obtain ⟨y2, e1, H⟩ := Option.bind_eq_some_iff.mp H
  refine Ev.callE rfl rfl rfl (p_argsV (by have := xT.2.2.2.2; omega) xT.1 (Nat.le_of_ble_eq_true rfl)) rfl (Nat.le_of_ble_eq_true rfl) (spX7_nextKid xT p 0 e1) ?_
  refine Ev.go 3 (s' := (h, 10, [(0, .ref t), (1, .int p), (2, .int place), (3, .int y2), (4, .int 0)], [])) rfl ?_
  refine Ev.live rfl (lv' := [(0, .ref t), (1, .int p), (2, .int place), (3, .int y2), (4, .int 0)]) rfl ?_
  exact llX7_childAt_10 n h p place y2 0 _ H xT
def fX7_clear (T : tT) : Option (tT) := some (T.1, T.2.1, T.2.2.1, 0, 0, 0)
theorem spX7_clear {d : Nat} {h : pH} {t : Nat} {T : tT} (xT : isT h t T) {res : tT} (H : fX7_clear T = some res) : Ev d mX7_clear (h, 0, [(0, .ref t)], []) (fun r h1 => r = none ∧ isT h1 t res ∧ fr [(t, t + 4)] h h1) := by
  unfold fX7_clear at H
  refine Ev.go 2 (s' := (h, 2, [(0, .ref t)], [.int 0, .ref t])) rfl ?_
  refine Ev.put rfl rfl (by have := xT.2.2.2.2; omega) xT.1 (Nat.le_of_ble_eq_true rfl) rfl rfl (fs' := [.ref (t + 1), .ref (t + 2), .ref (t + 3), .int 0, .int T.2.2.2.2.1, .int T.2.2.2.2.2]) rfl ?_
  refine Ev.go 2 (s' := ((pu h t (eO 6 [.ref (t + 1), .ref (t + 2), .ref (t + 3), .int 0, .int T.2.2.2.2.1, .int T.2.2.2.2.2])), 7, [(0, .ref t)], [.int 0, .ref t])) rfl ?_
  refine Ev.put rfl rfl (by have := xT.2.2.2.2; omega) pu_s (Nat.le_of_ble_eq_true rfl) rfl rfl (fs' := [.ref (t + 1), .ref (t + 2), .ref (t + 3), .int 0, .int 0, .int T.2.2.2.2.2]) rfl ?_
  refine Ev.go 2 (s' := ((pu (pu h t (eO 6 [.ref (t + 1), .ref (t + 2), .ref (t + 3), .int 0, .int T.2.2.2.2.1, .int T.2.2.2.2.2])) t (eO 6 [.ref (t + 1), .ref (t + 2), .ref (t + 3), .int 0, .int 0, .int T.2.2.2.2.2])), 12, [(0, .ref t)], [.int 0, .ref t])) rfl ?_
  refine Ev.put rfl rfl (by have := xT.2.2.2.2; omega) pu_s (Nat.le_of_ble_eq_true rfl) rfl rfl (fs' := [.ref (t + 1), .ref (t + 2), .ref (t + 3), .int 0, .int 0, .int 0]) rfl ?_
  cases H
  exact Ev.ret rfl rfl rfl ⟨rfl, ⟨pu_s, (pu_n (by omega) (pu_n (by omega) (pu_n (by omega) xT.2.1))), (pu_n (by omega) (pu_n (by omega) (pu_n (by omega) xT.2.2.1))), (pu_n (by omega) (pu_n (by omega) (pu_n (by omega) xT.2.2.2.1))), (by have := xT.2.2.2.2; omega)⟩, (fun k hk => by rw [pu_x (show k ≠ t from fun e => by have := hk; simp at this; omega)]; rw [pu_x (show k ≠ t from fun e => by have := hk; simp at this; omega)]; rw [pu_x (show k ≠ t from fun e => by have := hk; simp at this; omega)])⟩
def fX7_setKind (T : tT) (number : Int32) : Option (tT) := some (T.1, T.2.1, T.2.2.1, T.2.2.2.1, T.2.2.2.2.1, number)
theorem spX7_setKind {d : Nat} {h : pH} {t : Nat} {T : tT} (xT : isT h t T) (number : Int32) {res : tT} (H : fX7_setKind T number = some res) : Ev d mX7_setKind (h, 0, [(0, .ref t), (1, .int number)], []) (fun r h1 => r = none ∧ isT h1 t res ∧ fr [(t, t + 4)] h h1) := by
  unfold fX7_setKind at H
  refine Ev.go 2 (s' := (h, 2, [(0, .ref t), (1, .int number)], [.int number, .ref t])) rfl ?_
  refine Ev.put rfl rfl (by have := xT.2.2.2.2; omega) xT.1 (Nat.le_of_ble_eq_true rfl) rfl rfl (fs' := [.ref (t + 1), .ref (t + 2), .ref (t + 3), .int T.2.2.2.1, .int T.2.2.2.2.1, .int number]) rfl ?_
  cases H
  exact Ev.ret rfl rfl rfl ⟨rfl, ⟨pu_s, (pu_n (by omega) xT.2.1), (pu_n (by omega) xT.2.2.1), (pu_n (by omega) xT.2.2.2.1), (by have := xT.2.2.2.2; omega)⟩, (fun k hk => by rw [pu_x (show k ≠ t from fun e => by have := hk; simp at this; omega)])⟩
def fX7_setTag (T : tT) (v : Int32) (number : Int32) : Option (tT) := (if (fX7_isNumber v) = 0 then some T else (if v < 0 ∨ 24 ≤ v.toNatClampNeg then none else some (upd T.1 v.toNatClampNeg number, T.2.1, T.2.2.1, T.2.2.2.1, T.2.2.2.2.1, T.2.2.2.2.2)))
theorem spX7_setTag {d : Nat} {h : pH} {t : Nat} {T : tT} (xT : isT h t T) (v : Int32) (number : Int32) {res : tT} (H : fX7_setTag T v number = some res) : Ev (d + 1) mX7_setTag (h, 0, [(0, .ref t), (1, .int v), (2, .int number)], []) (fun r h1 => r = none ∧ isT h1 t res ∧ fr [(t, t + 4)] h h1) := by
  unfold fX7_setTag at H
  refine Ev.go 1 (s' := (h, 1, [(0, .ref t), (1, .int v), (2, .int number)], [.int v])) rfl ?_
  refine Ev.callE rfl rfl rfl rfl rfl (Nat.le_of_ble_eq_true rfl) (spX7_isNumber  v) ?_
  refine Ev.if1 rfl (fun c1 => ?_) (fun c1 => ?_)
  · have c1 : (fX7_isNumber v) = 0 := c1
    rw [if_pos c1] at H
    cases H
    exact Ev.ret rfl rfl rfl ⟨rfl, xT, (fun k _ => rfl)⟩
  · have c1 : ¬ ((fX7_isNumber v) = 0) := c1
    rw [if_neg c1] at H
    refine Ev.go 1 (s' := (h, 8, [(0, .ref t), (1, .int v), (2, .int number)], [.ref t])) rfl ?_
    refine Ev.get rfl (by have := xT.2.2.2.2; omega) xT.1 rfl ?_
    refine Ev.go 2 (s' := (h, 13, [(0, .ref t), (1, .int v), (2, .int number)], [.int number, .int v, .ref (t + 1)])) rfl ?_
    have v2 : vp_in v 24 := fun q => by rw [if_pos q] at H; cases H
    rw [if_neg v2] at H
    refine Ev.iast rfl (by have := xT.2.2.2.2; omega) xT.2.1 v2 ?_
    cases H
    exact Ev.ret rfl rfl rfl ⟨rfl, ⟨(pu_n (by omega) xT.1), pu_s, (pu_n (by omega) xT.2.2.1), (pu_n (by omega) xT.2.2.2.1), (by have := xT.2.2.2.2; omega)⟩, (fun k hk => by rw [pu_x (show k ≠ t + 1 from fun e => by have := hk; simp at this; omega)])⟩
def fX7_add (T : tT) (parent : Int32) (spot : Int32) (number : Int32) : Option (Int32 × tT) := (if (fX7_isFull T) = 0 then (if T.2.2.2.2.1 < 0 ∨ 24 ≤ T.2.2.2.2.1.toNatClampNeg then none else some (T.2.2.2.2.1, (upd T.1 T.2.2.2.2.1.toNatClampNeg number, upd T.2.1 T.2.2.2.2.1.toNatClampNeg parent, upd T.2.2.1 T.2.2.2.2.1.toNatClampNeg spot, T.2.2.2.1 ||| (1 <<< (T.2.2.2.2.1 &&& 31)), T.2.2.2.2.1 + 1, T.2.2.2.2.2))) else some ((-1), T))
theorem spX7_add {d : Nat} {h : pH} {t : Nat} {T : tT} (xT : isT h t T) (parent : Int32) (spot : Int32) (number : Int32) {res : Int32 × tT} (H : fX7_add T parent spot number = some res) : Ev (d + 1) mX7_add (h, 0, [(0, .ref t), (1, .int parent), (2, .int spot), (3, .int number)], []) (fun r h1 => r = some (.int res.1) ∧ isT h1 t res.2 ∧ fr [(t, t + 4)] h h1) := by
  unfold fX7_add at H
  refine Ev.go 1 (s' := (h, 1, [(0, .ref t), (1, .int parent), (2, .int spot), (3, .int number)], [.ref t])) rfl ?_
  refine Ev.callE rfl rfl rfl (p_argsV (by have := xT.2.2.2.2; omega) xT.1 (Nat.le_of_ble_eq_true rfl)) rfl (Nat.le_of_ble_eq_true rfl) (spX7_isFull xT ) ?_
  refine Ev.if1 rfl (fun c1 => ?_) (fun c1 => ?_)
  · have c1 : (fX7_isFull T) = 0 := c1
    rw [if_pos c1] at H
    refine Ev.go 1 (s' := (h, 10, [(0, .ref t), (1, .int parent), (2, .int spot), (3, .int number)], [.ref t])) rfl ?_
    refine Ev.get rfl (by have := xT.2.2.2.2; omega) xT.1 rfl ?_
    refine Ev.go 2 (s' := (h, 16, [(0, .ref t), (1, .int parent), (2, .int spot), (3, .int number), (4, .int T.2.2.2.2.1)], [.ref t])) rfl ?_
    refine Ev.get rfl (by have := xT.2.2.2.2; omega) xT.1 rfl ?_
    refine Ev.go 2 (s' := (h, 22, [(0, .ref t), (1, .int parent), (2, .int spot), (3, .int number), (4, .int T.2.2.2.2.1)], [.int number, .int T.2.2.2.2.1, .ref (t + 1)])) rfl ?_
    have v2 : vp_in T.2.2.2.2.1 24 := fun q => by rw [if_pos q] at H; cases H
    rw [if_neg v2] at H
    refine Ev.iast rfl (by have := xT.2.2.2.2; omega) xT.2.1 v2 ?_
    refine Ev.go 1 (s' := ((pu h (t + 1) (eI 24 (upd T.1 T.2.2.2.2.1.toNatClampNeg number))), 24, [(0, .ref t), (1, .int parent), (2, .int spot), (3, .int number), (4, .int T.2.2.2.2.1)], [.ref t])) rfl ?_
    refine Ev.get rfl (by have := xT.2.2.2.2; omega) (pu_n (by omega) xT.1) rfl ?_
    refine Ev.go 2 (s' := ((pu h (t + 1) (eI 24 (upd T.1 T.2.2.2.2.1.toNatClampNeg number))), 30, [(0, .ref t), (1, .int parent), (2, .int spot), (3, .int number), (4, .int T.2.2.2.2.1)], [.int parent, .int T.2.2.2.2.1, .ref (t + 2)])) rfl ?_
    refine Ev.iast rfl (by have := xT.2.2.2.2; omega) (pu_n (by omega) xT.2.2.1) v2 ?_
    refine Ev.go 1 (s' := ((pu (pu h (t + 1) (eI 24 (upd T.1 T.2.2.2.2.1.toNatClampNeg number))) (t + 2) (eI 24 (upd T.2.1 T.2.2.2.2.1.toNatClampNeg parent))), 32, [(0, .ref t), (1, .int parent), (2, .int spot), (3, .int number), (4, .int T.2.2.2.2.1)], [.ref t])) rfl ?_
    refine Ev.get rfl (by have := xT.2.2.2.2; omega) (pu_n (by omega) (pu_n (by omega) xT.1)) rfl ?_
    refine Ev.go 2 (s' := ((pu (pu h (t + 1) (eI 24 (upd T.1 T.2.2.2.2.1.toNatClampNeg number))) (t + 2) (eI 24 (upd T.2.1 T.2.2.2.2.1.toNatClampNeg parent))), 38, [(0, .ref t), (1, .int parent), (2, .int spot), (3, .int number), (4, .int T.2.2.2.2.1)], [.int spot, .int T.2.2.2.2.1, .ref (t + 3)])) rfl ?_
    refine Ev.iast rfl (by have := xT.2.2.2.2; omega) (pu_n (by omega) (pu_n (by omega) xT.2.2.2.1)) v2 ?_
    refine Ev.go 2 (s' := ((pu (pu (pu h (t + 1) (eI 24 (upd T.1 T.2.2.2.2.1.toNatClampNeg number))) (t + 2) (eI 24 (upd T.2.1 T.2.2.2.2.1.toNatClampNeg parent))) (t + 3) (eI 24 (upd T.2.2.1 T.2.2.2.2.1.toNatClampNeg spot))), 41, [(0, .ref t), (1, .int parent), (2, .int spot), (3, .int number), (4, .int T.2.2.2.2.1)], [.ref t, .ref t])) rfl ?_
    refine Ev.get rfl (by have := xT.2.2.2.2; omega) (pu_n (by omega) (pu_n (by omega) (pu_n (by omega) xT.1))) rfl ?_
    refine Ev.go 4 (s' := ((pu (pu (pu h (t + 1) (eI 24 (upd T.1 T.2.2.2.2.1.toNatClampNeg number))) (t + 2) (eI 24 (upd T.2.1 T.2.2.2.2.1.toNatClampNeg parent))) (t + 3) (eI 24 (upd T.2.2.1 T.2.2.2.2.1.toNatClampNeg spot))), 49, [(0, .ref t), (1, .int parent), (2, .int spot), (3, .int number), (4, .int T.2.2.2.2.1)], [.int (T.2.2.2.1 ||| (1 <<< (T.2.2.2.2.1 &&& 31))), .ref t])) rfl ?_
    refine Ev.put rfl rfl (by have := xT.2.2.2.2; omega) (pu_n (by omega) (pu_n (by omega) (pu_n (by omega) xT.1))) (Nat.le_of_ble_eq_true rfl) rfl rfl (fs' := [.ref (t + 1), .ref (t + 2), .ref (t + 3), .int (T.2.2.2.1 ||| (1 <<< (T.2.2.2.2.1 &&& 31))), .int T.2.2.2.2.1, .int T.2.2.2.2.2]) rfl ?_
    refine Ev.go 2 (s' := ((pu (pu (pu (pu h (t + 1) (eI 24 (upd T.1 T.2.2.2.2.1.toNatClampNeg number))) (t + 2) (eI 24 (upd T.2.1 T.2.2.2.2.1.toNatClampNeg parent))) (t + 3) (eI 24 (upd T.2.2.1 T.2.2.2.2.1.toNatClampNeg spot))) t (eO 6 [.ref (t + 1), .ref (t + 2), .ref (t + 3), .int (T.2.2.2.1 ||| (1 <<< (T.2.2.2.2.1 &&& 31))), .int T.2.2.2.2.1, .int T.2.2.2.2.2])), 54, [(0, .ref t), (1, .int parent), (2, .int spot), (3, .int number), (4, .int T.2.2.2.2.1)], [.ref t, .ref t])) rfl ?_
    refine Ev.get rfl (by have := xT.2.2.2.2; omega) pu_s rfl ?_
    refine Ev.go 2 (s' := ((pu (pu (pu (pu h (t + 1) (eI 24 (upd T.1 T.2.2.2.2.1.toNatClampNeg number))) (t + 2) (eI 24 (upd T.2.1 T.2.2.2.2.1.toNatClampNeg parent))) (t + 3) (eI 24 (upd T.2.2.1 T.2.2.2.2.1.toNatClampNeg spot))) t (eO 6 [.ref (t + 1), .ref (t + 2), .ref (t + 3), .int (T.2.2.2.1 ||| (1 <<< (T.2.2.2.2.1 &&& 31))), .int T.2.2.2.2.1, .int T.2.2.2.2.2])), 59, [(0, .ref t), (1, .int parent), (2, .int spot), (3, .int number), (4, .int T.2.2.2.2.1)], [.int (T.2.2.2.2.1 + 1), .ref t])) rfl ?_
    refine Ev.put rfl rfl (by have := xT.2.2.2.2; omega) pu_s (Nat.le_of_ble_eq_true rfl) rfl rfl (fs' := [.ref (t + 1), .ref (t + 2), .ref (t + 3), .int (T.2.2.2.1 ||| (1 <<< (T.2.2.2.2.1 &&& 31))), .int (T.2.2.2.2.1 + 1), .int T.2.2.2.2.2]) rfl ?_
    refine Ev.go 1 (s' := ((pu (pu (pu (pu (pu h (t + 1) (eI 24 (upd T.1 T.2.2.2.2.1.toNatClampNeg number))) (t + 2) (eI 24 (upd T.2.1 T.2.2.2.2.1.toNatClampNeg parent))) (t + 3) (eI 24 (upd T.2.2.1 T.2.2.2.2.1.toNatClampNeg spot))) t (eO 6 [.ref (t + 1), .ref (t + 2), .ref (t + 3), .int (T.2.2.2.1 ||| (1 <<< (T.2.2.2.2.1 &&& 31))), .int T.2.2.2.2.1, .int T.2.2.2.2.2])) t (eO 6 [.ref (t + 1), .ref (t + 2), .ref (t + 3), .int (T.2.2.2.1 ||| (1 <<< (T.2.2.2.2.1 &&& 31))), .int (T.2.2.2.2.1 + 1), .int T.2.2.2.2.2])), 64, [(0, .ref t), (1, .int parent), (2, .int spot), (3, .int number), (4, .int T.2.2.2.2.1)], [.int T.2.2.2.2.1])) rfl ?_
    cases H
    exact Ev.ret rfl rfl (p_retZ rfl) ⟨rfl, ⟨pu_s, (pu_n (by omega) (pu_n (by omega) (pu_n (by omega) (pu_n (by omega) pu_s)))), (pu_n (by omega) (pu_n (by omega) (pu_n (by omega) pu_s))), (pu_n (by omega) (pu_n (by omega) pu_s)), (by have := xT.2.2.2.2; omega)⟩, (fun k hk => by rw [pu_x (show k ≠ t from fun e => by have := hk; simp at this; omega)]; rw [pu_x (show k ≠ t from fun e => by have := hk; simp at this; omega)]; rw [pu_x (show k ≠ t + 3 from fun e => by have := hk; simp at this; omega)]; rw [pu_x (show k ≠ t + 2 from fun e => by have := hk; simp at this; omega)]; rw [pu_x (show k ≠ t + 1 from fun e => by have := hk; simp at this; omega)])⟩
  · have c1 : ¬ ((fX7_isFull T) = 0) := c1
    rw [if_neg c1] at H
    refine Ev.go 1 (s' := (h, 8, [(0, .ref t), (1, .int parent), (2, .int spot), (3, .int number)], [.int ((-1))])) rfl ?_
    cases H
    exact Ev.ret rfl rfl (p_retZ rfl) ⟨rfl, xT, (fun k _ => rfl)⟩
def fX7_remove (T : tT) (bits : Int32) : Option (tT) := some (T.1, T.2.1, T.2.2.1, T.2.2.2.1 &&& (bits ^^^ (-1)), T.2.2.2.2.1, T.2.2.2.2.2)
theorem spX7_remove {d : Nat} {h : pH} {t : Nat} {T : tT} (xT : isT h t T) (bits : Int32) {res : tT} (H : fX7_remove T bits = some res) : Ev d mX7_remove (h, 0, [(0, .ref t), (1, .int bits)], []) (fun r h1 => r = none ∧ isT h1 t res ∧ fr [(t, t + 4)] h h1) := by
  unfold fX7_remove at H
  refine Ev.go 2 (s' := (h, 2, [(0, .ref t), (1, .int bits)], [.ref t, .ref t])) rfl ?_
  refine Ev.get rfl (by have := xT.2.2.2.2; omega) xT.1 rfl ?_
  refine Ev.go 4 (s' := (h, 9, [(0, .ref t), (1, .int bits)], [.int (T.2.2.2.1 &&& (bits ^^^ (-1))), .ref t])) rfl ?_
  refine Ev.put rfl rfl (by have := xT.2.2.2.2; omega) xT.1 (Nat.le_of_ble_eq_true rfl) rfl rfl (fs' := [.ref (t + 1), .ref (t + 2), .ref (t + 3), .int (T.2.2.2.1 &&& (bits ^^^ (-1))), .int T.2.2.2.2.1, .int T.2.2.2.2.2]) rfl ?_
  cases H
  exact Ev.ret rfl rfl rfl ⟨rfl, ⟨pu_s, (pu_n (by omega) xT.2.1), (pu_n (by omega) xT.2.2.1), (pu_n (by omega) xT.2.2.2.1), (by have := xT.2.2.2.2; omega)⟩, (fun k hk => by rw [pu_x (show k ≠ t from fun e => by have := hk; simp at this; omega)])⟩
def fX7_rewind (T : tT) (bits : Int32) (number : Int32) : Option (tT) := some (T.1, T.2.1, T.2.2.1, bits, number, T.2.2.2.2.2)
theorem spX7_rewind {d : Nat} {h : pH} {t : Nat} {T : tT} (xT : isT h t T) (bits : Int32) (number : Int32) {res : tT} (H : fX7_rewind T bits number = some res) : Ev d mX7_rewind (h, 0, [(0, .ref t), (1, .int bits), (2, .int number)], []) (fun r h1 => r = none ∧ isT h1 t res ∧ fr [(t, t + 4)] h h1) := by
  unfold fX7_rewind at H
  refine Ev.go 2 (s' := (h, 2, [(0, .ref t), (1, .int bits), (2, .int number)], [.int bits, .ref t])) rfl ?_
  refine Ev.put rfl rfl (by have := xT.2.2.2.2; omega) xT.1 (Nat.le_of_ble_eq_true rfl) rfl rfl (fs' := [.ref (t + 1), .ref (t + 2), .ref (t + 3), .int bits, .int T.2.2.2.2.1, .int T.2.2.2.2.2]) rfl ?_
  refine Ev.go 2 (s' := ((pu h t (eO 6 [.ref (t + 1), .ref (t + 2), .ref (t + 3), .int bits, .int T.2.2.2.2.1, .int T.2.2.2.2.2])), 7, [(0, .ref t), (1, .int bits), (2, .int number)], [.int number, .ref t])) rfl ?_
  refine Ev.put rfl rfl (by have := xT.2.2.2.2; omega) pu_s (Nat.le_of_ble_eq_true rfl) rfl rfl (fs' := [.ref (t + 1), .ref (t + 2), .ref (t + 3), .int bits, .int number, .int T.2.2.2.2.2]) rfl ?_
  cases H
  exact Ev.ret rfl rfl rfl ⟨rfl, ⟨pu_s, (pu_n (by omega) (pu_n (by omega) xT.2.1)), (pu_n (by omega) (pu_n (by omega) xT.2.2.1)), (pu_n (by omega) (pu_n (by omega) xT.2.2.2.1)), (by have := xT.2.2.2.2; omega)⟩, (fun k hk => by rw [pu_x (show k ≠ t from fun e => by have := hk; simp at this; omega)]; rw [pu_x (show k ≠ t from fun e => by have := hk; simp at this; omega)])⟩
def fX7_copyFrom (T : tT) (U : tT) : Option (tT) := some (va_cpy U.1 T.1 0 0 24, va_cpy U.2.1 T.2.1 0 0 24, va_cpy U.2.2.1 T.2.2.1 0 0 24, U.2.2.2.1, U.2.2.2.2.1, U.2.2.2.2.2)
theorem spX7_copyFrom {d : Nat} {h : pH} {t u : Nat} {T : tT} {U : tT} (xT : isT h t T) (xU : isT h u U) (hd : t + 3 < u ∨ u + 3 < t) {res : tT} (H : fX7_copyFrom T U = some res) : Ev (d + 1) mX7_copyFrom (h, 0, [(0, .ref t), (1, .ref u)], []) (fun r h1 => r = none ∧ isT h1 t res ∧ fr [(t, t + 4)] h h1) := by
  unfold fX7_copyFrom at H
  refine Ev.go 1 (s' := (h, 1, [(0, .ref t), (1, .ref u)], [.ref u])) rfl ?_
  refine Ev.get rfl (by have := xU.2.2.2.2; omega) xU.1 rfl ?_
  refine Ev.go 2 (s' := (h, 6, [(0, .ref t), (1, .ref u)], [.ref t, .int 0, .ref (u + 1)])) rfl ?_
  refine Ev.get rfl (by have := xT.2.2.2.2; omega) xT.1 rfl ?_
  refine Ev.go 2 (s' := (h, 12, [(0, .ref t), (1, .ref u)], [.int 24, .int 0, .ref (t + 1), .int 0, .ref (u + 1)])) rfl ?_
  refine Ev.cpy rfl rfl (by have := xU.2.2.2.2; omega) (by have := xT.2.2.2.2; omega) xU.2.1 xT.2.1 (by decide) (by decide) (by decide) (by decide) (by decide) (Nat.le_of_ble_eq_true rfl) ?_
  refine Ev.go 1 (s' := ((pu h (t + 1) (eI 24 (va_cpy U.1 T.1 0 0 24))), 16, [(0, .ref t), (1, .ref u)], [.ref u])) rfl ?_
  refine Ev.get rfl (by have := xU.2.2.2.2; omega) (pu_n (by omega) xU.1) rfl ?_
  refine Ev.go 2 (s' := ((pu h (t + 1) (eI 24 (va_cpy U.1 T.1 0 0 24))), 21, [(0, .ref t), (1, .ref u)], [.ref t, .int 0, .ref (u + 2)])) rfl ?_
  refine Ev.get rfl (by have := xT.2.2.2.2; omega) (pu_n (by omega) xT.1) rfl ?_
  refine Ev.go 2 (s' := ((pu h (t + 1) (eI 24 (va_cpy U.1 T.1 0 0 24))), 27, [(0, .ref t), (1, .ref u)], [.int 24, .int 0, .ref (t + 2), .int 0, .ref (u + 2)])) rfl ?_
  refine Ev.cpy rfl rfl (by have := xU.2.2.2.2; omega) (by have := xT.2.2.2.2; omega) (pu_n (by omega) xU.2.2.1) (pu_n (by omega) xT.2.2.1) (by decide) (by decide) (by decide) (by decide) (by decide) (Nat.le_of_ble_eq_true rfl) ?_
  refine Ev.go 1 (s' := ((pu (pu h (t + 1) (eI 24 (va_cpy U.1 T.1 0 0 24))) (t + 2) (eI 24 (va_cpy U.2.1 T.2.1 0 0 24))), 31, [(0, .ref t), (1, .ref u)], [.ref u])) rfl ?_
  refine Ev.get rfl (by have := xU.2.2.2.2; omega) (pu_n (by omega) (pu_n (by omega) xU.1)) rfl ?_
  refine Ev.go 2 (s' := ((pu (pu h (t + 1) (eI 24 (va_cpy U.1 T.1 0 0 24))) (t + 2) (eI 24 (va_cpy U.2.1 T.2.1 0 0 24))), 36, [(0, .ref t), (1, .ref u)], [.ref t, .int 0, .ref (u + 3)])) rfl ?_
  refine Ev.get rfl (by have := xT.2.2.2.2; omega) (pu_n (by omega) (pu_n (by omega) xT.1)) rfl ?_
  refine Ev.go 2 (s' := ((pu (pu h (t + 1) (eI 24 (va_cpy U.1 T.1 0 0 24))) (t + 2) (eI 24 (va_cpy U.2.1 T.2.1 0 0 24))), 42, [(0, .ref t), (1, .ref u)], [.int 24, .int 0, .ref (t + 3), .int 0, .ref (u + 3)])) rfl ?_
  refine Ev.cpy rfl rfl (by have := xU.2.2.2.2; omega) (by have := xT.2.2.2.2; omega) (pu_n (by omega) (pu_n (by omega) xU.2.2.2.1)) (pu_n (by omega) (pu_n (by omega) xT.2.2.2.1)) (by decide) (by decide) (by decide) (by decide) (by decide) (Nat.le_of_ble_eq_true rfl) ?_
  refine Ev.go 2 (s' := ((pu (pu (pu h (t + 1) (eI 24 (va_cpy U.1 T.1 0 0 24))) (t + 2) (eI 24 (va_cpy U.2.1 T.2.1 0 0 24))) (t + 3) (eI 24 (va_cpy U.2.2.1 T.2.2.1 0 0 24))), 47, [(0, .ref t), (1, .ref u)], [.ref u, .ref t])) rfl ?_
  refine Ev.get rfl (by have := xU.2.2.2.2; omega) (pu_n (by omega) (pu_n (by omega) (pu_n (by omega) xU.1))) rfl ?_
  refine Ev.put rfl rfl (by have := xT.2.2.2.2; omega) (pu_n (by omega) (pu_n (by omega) (pu_n (by omega) xT.1))) (Nat.le_of_ble_eq_true rfl) rfl rfl (fs' := [.ref (t + 1), .ref (t + 2), .ref (t + 3), .int U.2.2.2.1, .int T.2.2.2.2.1, .int T.2.2.2.2.2]) rfl ?_
  refine Ev.go 2 (s' := ((pu (pu (pu (pu h (t + 1) (eI 24 (va_cpy U.1 T.1 0 0 24))) (t + 2) (eI 24 (va_cpy U.2.1 T.2.1 0 0 24))) (t + 3) (eI 24 (va_cpy U.2.2.1 T.2.2.1 0 0 24))) t (eO 6 [.ref (t + 1), .ref (t + 2), .ref (t + 3), .int U.2.2.2.1, .int T.2.2.2.2.1, .int T.2.2.2.2.2])), 55, [(0, .ref t), (1, .ref u)], [.ref u, .ref t])) rfl ?_
  refine Ev.get rfl (by have := xU.2.2.2.2; omega) (pu_n (by omega) (pu_n (by omega) (pu_n (by omega) (pu_n (by omega) xU.1)))) rfl ?_
  refine Ev.put rfl rfl (by have := xT.2.2.2.2; omega) pu_s (Nat.le_of_ble_eq_true rfl) rfl rfl (fs' := [.ref (t + 1), .ref (t + 2), .ref (t + 3), .int U.2.2.2.1, .int U.2.2.2.2.1, .int T.2.2.2.2.2]) rfl ?_
  refine Ev.go 2 (s' := ((pu (pu (pu (pu (pu h (t + 1) (eI 24 (va_cpy U.1 T.1 0 0 24))) (t + 2) (eI 24 (va_cpy U.2.1 T.2.1 0 0 24))) (t + 3) (eI 24 (va_cpy U.2.2.1 T.2.2.1 0 0 24))) t (eO 6 [.ref (t + 1), .ref (t + 2), .ref (t + 3), .int U.2.2.2.1, .int T.2.2.2.2.1, .int T.2.2.2.2.2])) t (eO 6 [.ref (t + 1), .ref (t + 2), .ref (t + 3), .int U.2.2.2.1, .int U.2.2.2.2.1, .int T.2.2.2.2.2])), 63, [(0, .ref t), (1, .ref u)], [.ref u, .ref t])) rfl ?_
  refine Ev.get rfl (by have := xU.2.2.2.2; omega) (pu_n (by omega) (pu_n (by omega) (pu_n (by omega) (pu_n (by omega) (pu_n (by omega) xU.1))))) rfl ?_
  refine Ev.put rfl rfl (by have := xT.2.2.2.2; omega) pu_s (Nat.le_of_ble_eq_true rfl) rfl rfl (fs' := [.ref (t + 1), .ref (t + 2), .ref (t + 3), .int U.2.2.2.1, .int U.2.2.2.2.1, .int U.2.2.2.2.2]) rfl ?_
  cases H
  exact Ev.ret rfl rfl rfl ⟨rfl, ⟨pu_s, (pu_n (by omega) (pu_n (by omega) (pu_n (by omega) (pu_n (by omega) (pu_n (by omega) pu_s))))), (pu_n (by omega) (pu_n (by omega) (pu_n (by omega) (pu_n (by omega) pu_s)))), (pu_n (by omega) (pu_n (by omega) (pu_n (by omega) pu_s))), (by have := xT.2.2.2.2; omega)⟩, (fun k hk => by rw [pu_x (show k ≠ t from fun e => by have := hk; simp at this; omega)]; rw [pu_x (show k ≠ t from fun e => by have := hk; simp at this; omega)]; rw [pu_x (show k ≠ t from fun e => by have := hk; simp at this; omega)]; rw [pu_x (show k ≠ t + 3 from fun e => by have := hk; simp at this; omega)]; rw [pu_x (show k ≠ t + 2 from fun e => by have := hk; simp at this; omega)]; rw [pu_x (show k ≠ t + 1 from fun e => by have := hk; simp at this; omega)])⟩
def fX0_pick (kd : Int32) (least : Int32) (greatest : Int32) : Int32 := (if kd = 1 then least else (if kd = 2 then greatest else (if kd = 3 then if greatest < (least + 1) then greatest else (least + 1) else least + ((greatest - least) / 2))))
theorem spX0_pick {d : Nat} {h : pH}  (kd : Int32) (least : Int32) (greatest : Int32) : Ev (d + 1) mX0_pick (h, 0, [(0, .int kd), (1, .int least), (2, .int greatest)], []) (fun r h1 => r = some (.int (fX0_pick kd least greatest)) ∧ h1 = h) := by
  refine Ev.go 1 (s' := (h, 1, [(0, .int kd), (1, .int least), (2, .int greatest)], [.int kd])) rfl ?_
  rcases Classical.em (kd = 1) with c1 | c1
  · skip
    refine Ev.one (s' := (h, 28, [(0, .int kd), (1, .int least), (2, .int greatest)], [])) rfl rfl (by rw [c1]; rfl) ?_
    refine Ev.go 1 (s' := (h, 29, [(0, .int kd), (1, .int least), (2, .int greatest)], [.int least])) rfl ?_
    exact Ev.ret rfl rfl (p_retZ rfl) ⟨congrArg (fun z => some (Value.int z)) (by rw [fX0_pick, if_pos c1]), rfl⟩
  · skip
    rcases Classical.em (kd = 2) with c2 | c2
    · skip
      refine Ev.one (s' := (h, 30, [(0, .int kd), (1, .int least), (2, .int greatest)], [])) rfl rfl (by rw [c2]; rfl) ?_
      refine Ev.go 1 (s' := (h, 31, [(0, .int kd), (1, .int least), (2, .int greatest)], [.int greatest])) rfl ?_
      exact Ev.ret rfl rfl (p_retZ rfl) ⟨congrArg (fun z => some (Value.int z)) (by rw [fX0_pick, if_neg c1, if_pos c2]), rfl⟩
    · skip
      rcases Classical.em (kd = 3) with c3 | c3
      · skip
        refine Ev.one (s' := (h, 32, [(0, .int kd), (1, .int least), (2, .int greatest)], [])) rfl rfl (by rw [c3]; rfl) ?_
        refine Ev.go 4 (s' := (h, 36, [(0, .int kd), (1, .int least), (2, .int greatest)], [.int greatest, .int (least + 1)])) rfl ?_
        refine Ev.mmin rfl rfl (Nat.le_of_ble_eq_true rfl) ?_
        exact Ev.ret rfl rfl (p_retZ rfl) ⟨congrArg (fun z => some (Value.int z)) (by rw [fX0_pick, if_neg c1, if_neg c2, if_pos c3]), rfl⟩
      · skip
        refine Ev.one (s' := (h, 40, [(0, .int kd), (1, .int least), (2, .int greatest)], [])) rfl rfl (p_swt (p_sw_1_3 c1 c2 c3)) ?_
        refine Ev.go 5 (s' := (h, 45, [(0, .int kd), (1, .int least), (2, .int greatest)], [.int 2, .int (greatest - least), .int least])) rfl ?_
        refine Ev.idiv rfl (by decide) ?_
        refine Ev.go 1 (s' := (h, 47, [(0, .int kd), (1, .int least), (2, .int greatest)], [.int (least + ((greatest - least) / 2))])) rfl ?_
        exact Ev.ret rfl rfl (p_retZ rfl) ⟨congrArg (fun z => some (Value.int z)) (by rw [fX0_pick, if_neg c1, if_neg c2, if_neg c3]), rfl⟩
def lX0_choose_3 (n : Nat) : Nat → Int32 → Int32 → Int32 → Int32 → Option (Int32)
  | 0, _, _, _, _ => none
  | m + 1, x0, x1, x2, x3 => (if x3 ≤ 0 then some 0 else (if x3 = 0 then none else (if x3 = 0 then none else (if ((x2 - 1) / x3) < ((x1 / x3) + 1) then lX0_choose_3 n m x0 x1 x2 (x3 / 10) else some ((fX0_pick x0 ((x1 / x3) + 1) ((x2 - 1) / x3)) * x3)))))
theorem llX0_choose_3 {d n : Nat} : ∀ (m : Nat) (h : pH) (x0 : Int32) (x1 : Int32) (x2 : Int32) (x3 : Int32) (res : Int32), lX0_choose_3 n m x0 x1 x2 x3 = some res → True → Ev (d + 2) mX0_choose (h, 3, [(0, .int x0), (1, .int x1), (2, .int x2), (3, .int x3)], []) (fun r h1 => r = some (.int res) ∧ h1 = h)
  | 0, h, x0, x1, x2, x3, res, H, _ => by cases H
  | m + 1, h, x0, x1, x2, x3, res, H, _ => by
    have H : (if x3 ≤ 0 then some 0 else (if x3 = 0 then none else (if x3 = 0 then none else (if ((x2 - 1) / x3) < ((x1 / x3) + 1) then lX0_choose_3 n m x0 x1 x2 (x3 / 10) else some ((fX0_pick x0 ((x1 / x3) + 1) ((x2 - 1) / x3)) * x3))))) = some res := H
    refine Ev.go 1 (s' := (h, 4, [(0, .int x0), (1, .int x1), (2, .int x2), (3, .int x3)], [.int x3])) rfl ?_
    refine Ev.if1 rfl (fun c1 => ?_) (fun c1 => ?_)
    · have c1 : x3 ≤ 0 := c1
      rw [if_pos c1] at H
      refine Ev.go 1 (s' := (h, 48, [(0, .int x0), (1, .int x1), (2, .int x2), (3, .int x3)], [.int 0])) rfl ?_
      cases H
      exact Ev.ret rfl rfl (p_retZ rfl) ⟨rfl, rfl⟩
    · have c1 : ¬ (x3 ≤ 0) := c1
      rw [if_neg c1] at H
      refine Ev.go 2 (s' := (h, 9, [(0, .int x0), (1, .int x1), (2, .int x2), (3, .int x3)], [.int x3, .int x1])) rfl ?_
      have v2 : ¬ (x3 = 0) := fun q => by rw [if_pos q] at H; cases H
      rw [if_neg v2] at H
      refine Ev.idiv rfl v2 ?_
      refine Ev.go 7 (s' := (h, 18, [(0, .int x0), (1, .int x1), (2, .int x2), (3, .int x3), (4, .int ((x1 / x3) + 1))], [.int x3, .int (x2 - 1)])) rfl ?_
      have v3 : ¬ (x3 = 0) := fun q => by rw [if_pos q] at H; cases H
      rw [if_neg v3] at H
      refine Ev.idiv rfl v3 ?_
      refine Ev.go 3 (s' := (h, 25, [(0, .int x0), (1, .int x1), (2, .int x2), (3, .int x3), (4, .int ((x1 / x3) + 1)), (5, .int ((x2 - 1) / x3))], [.int ((x2 - 1) / x3), .int ((x1 / x3) + 1)])) rfl ?_
      refine Ev.if2 rfl (fun c4 => ?_) (fun c4 => ?_)
      · have c4 : ((x2 - 1) / x3) < ((x1 / x3) + 1) := c4
        rw [if_pos c4] at H
        refine Ev.go 2 (s' := (h, 42, [(0, .int x0), (1, .int x1), (2, .int x2), (3, .int x3), (4, .int ((x1 / x3) + 1)), (5, .int ((x2 - 1) / x3))], [.int 10, .int x3])) rfl ?_
        refine Ev.idiv rfl (by decide) ?_
        refine Ev.go 2 (s' := (h, 3, [(0, .int x0), (1, .int x1), (2, .int x2), (3, .int (x3 / 10)), (4, .int ((x1 / x3) + 1)), (5, .int ((x2 - 1) / x3))], [])) rfl ?_
        refine Ev.live rfl (lv' := [(0, .int x0), (1, .int x1), (2, .int x2), (3, .int (x3 / 10))]) rfl ?_
        exact llX0_choose_3 m h x0 x1 x2 (x3 / 10) _ H trivial
      · have c4 : ¬ (((x2 - 1) / x3) < ((x1 / x3) + 1)) := c4
        rw [if_neg c4] at H
        refine Ev.go 3 (s' := (h, 33, [(0, .int x0), (1, .int x1), (2, .int x2), (3, .int x3), (4, .int ((x1 / x3) + 1)), (5, .int ((x2 - 1) / x3))], [.int ((x2 - 1) / x3), .int ((x1 / x3) + 1), .int x0])) rfl ?_
        refine Ev.callE rfl rfl rfl rfl rfl (Nat.le_of_ble_eq_true rfl) (spX0_pick  x0 ((x1 / x3) + 1) ((x2 - 1) / x3)) ?_
        refine Ev.go 2 (s' := (h, 38, [(0, .int x0), (1, .int x1), (2, .int x2), (3, .int x3), (4, .int ((x1 / x3) + 1)), (5, .int ((x2 - 1) / x3))], [.int ((fX0_pick x0 ((x1 / x3) + 1) ((x2 - 1) / x3)) * x3)])) rfl ?_
        cases H
        exact Ev.ret rfl rfl (p_retZ rfl) ⟨rfl, rfl⟩
def fX0_choose (n : Nat) (kd : Int32) (low : Int32) (high : Int32) : Option (Int32) := lX0_choose_3 n n kd low high 100000000
theorem spX0_choose {d n : Nat} {h : pH}  (kd : Int32) (low : Int32) (high : Int32) {res : Int32} (H : fX0_choose n kd low high = some res) : Ev (d + 2) mX0_choose (h, 0, [(0, .int kd), (1, .int low), (2, .int high)], []) (fun r h1 => r = some (.int res) ∧ h1 = h) := by
  unfold fX0_choose at H
  refine Ev.go 2 (s' := (h, 3, [(0, .int kd), (1, .int low), (2, .int high), (3, .int 100000000)], [])) rfl ?_
  refine Ev.live rfl (lv' := [(0, .int kd), (1, .int low), (2, .int high), (3, .int 100000000)]) rfl ?_
  exact llX0_choose_3 n h kd low high 100000000 _ H trivial
def lX0_length_5 (n : Nat) : Nat → Int32 → Int32 → Option (Int32)
  | 0, _, _ => none
  | m + 1, x1, x2 => (if x1 ≤ 1 then some x1 else (if ¬ (x2 - x2 / 10 * 10) = 0 then some x1 else lX0_length_5 n m (x1 + (-1)) (x2 / 10)))
theorem llX0_length_5 {d n : Nat} : ∀ (m : Nat) (h : pH) (x1 : Int32) (x2 : Int32) (res : Int32), lX0_length_5 n m x1 x2 = some res → True → Ev d mX0_length (h, 5, [(1, .int x1), (2, .int x2)], []) (fun r h1 => r = some (.int res) ∧ h1 = h)
  | 0, h, x1, x2, res, H, _ => by cases H
  | m + 1, h, x1, x2, res, H, _ => by
    have H : (if x1 ≤ 1 then some x1 else (if ¬ (x2 - x2 / 10 * 10) = 0 then some x1 else lX0_length_5 n m (x1 + (-1)) (x2 / 10))) = some res := H
    refine Ev.go 2 (s' := (h, 7, [(1, .int x1), (2, .int x2)], [.int 1, .int x1])) rfl ?_
    refine Ev.if2 rfl (fun c1 => ?_) (fun c1 => ?_)
    · have c1 : x1 ≤ 1 := c1
      rw [if_pos c1] at H
      refine Ev.go 1 (s' := (h, 29, [(1, .int x1), (2, .int x2)], [.int x1])) rfl ?_
      cases H
      exact Ev.ret rfl rfl (p_retZ rfl) ⟨rfl, rfl⟩
    · have c1 : ¬ (x1 ≤ 1) := c1
      rw [if_neg c1] at H
      refine Ev.go 2 (s' := (h, 13, [(1, .int x1), (2, .int x2)], [.int 10, .int x2])) rfl ?_
      refine Ev.irem rfl (by decide) ?_
      refine Ev.if1 rfl (fun c2 => ?_) (fun c2 => ?_)
      · have c2 : ¬ (x2 - x2 / 10 * 10) = 0 := c2
        rw [if_pos c2] at H
        refine Ev.go 1 (s' := (h, 29, [(1, .int x1), (2, .int x2)], [.int x1])) rfl ?_
        cases H
        exact Ev.ret rfl rfl (p_retZ rfl) ⟨rfl, rfl⟩
      · have c2 : ¬ (¬ (x2 - x2 / 10 * 10) = 0) := c2
        rw [if_neg c2] at H
        refine Ev.go 2 (s' := (h, 20, [(1, .int x1), (2, .int x2)], [.int 10, .int x2])) rfl ?_
        refine Ev.idiv rfl (by decide) ?_
        refine Ev.go 3 (s' := (h, 5, [(1, .int (x1 + (-1))), (2, .int (x2 / 10))], [])) rfl ?_
        refine Ev.live rfl (lv' := [(1, .int (x1 + (-1))), (2, .int (x2 / 10))]) rfl ?_
        exact llX0_length_5 m h (x1 + (-1)) (x2 / 10) _ H trivial
def fX0_length (n : Nat) (spot : Int32) : Option (Int32) := lX0_length_5 n n 9 spot
theorem spX0_length {d n : Nat} {h : pH}  (spot : Int32) {res : Int32} (H : fX0_length n spot = some res) : Ev d mX0_length (h, 0, [(0, .int spot)], []) (fun r h1 => r = some (.int res) ∧ h1 = h) := by
  unfold fX0_length at H
  refine Ev.go 4 (s' := (h, 5, [(0, .int spot), (1, .int 9), (2, .int spot)], [])) rfl ?_
  refine Ev.live rfl (lv' := [(1, .int 9), (2, .int spot)]) rfl ?_
  exact llX0_length_5 n h 9 spot _ H trivial
def lX0_figures_7 (n : Nat) : Nat → Int32 → Int32 → Option (Int32)
  | 0, _, _ => none
  | m + 1, x1, x2 => (if 9 ≤ x2 then some x1 else lX0_figures_7 n m (x1 / 10) (x2 + 1))
theorem llX0_figures_7 {d n : Nat} : ∀ (m : Nat) (h : pH) (x1 : Int32) (x2 : Int32) (res : Int32), lX0_figures_7 n m x1 x2 = some res → True → Ev (d + 1) mX0_figures (h, 7, [(1, .int x1), (2, .int x2)], []) (fun r h1 => r = some (.int res) ∧ h1 = h)
  | 0, h, x1, x2, res, H, _ => by cases H
  | m + 1, h, x1, x2, res, H, _ => by
    have H : (if 9 ≤ x2 then some x1 else lX0_figures_7 n m (x1 / 10) (x2 + 1)) = some res := H
    refine Ev.go 2 (s' := (h, 10, [(1, .int x1), (2, .int x2)], [.int 9, .int x2])) rfl ?_
    refine Ev.if2 rfl (fun c3 => ?_) (fun c3 => ?_)
    · have c3 : 9 ≤ x2 := c3
      rw [if_pos c3] at H
      refine Ev.go 1 (s' := (h, 25, [(1, .int x1), (2, .int x2)], [.int x1])) rfl ?_
      cases H
      exact Ev.ret rfl rfl (p_retZ rfl) ⟨rfl, rfl⟩
    · have c3 : ¬ (9 ≤ x2) := c3
      rw [if_neg c3] at H
      refine Ev.go 2 (s' := (h, 16, [(1, .int x1), (2, .int x2)], [.int 10, .int x1])) rfl ?_
      refine Ev.idiv rfl (by decide) ?_
      refine Ev.go 3 (s' := (h, 7, [(1, .int (x1 / 10)), (2, .int (x2 + 1))], [])) rfl ?_
      refine Ev.live rfl (lv' := [(1, .int (x1 / 10)), (2, .int (x2 + 1))]) rfl ?_
      exact llX0_figures_7 m h (x1 / 10) (x2 + 1) _ H trivial
def fX0_figures (n : Nat) (spot : Int32) : Option (Int32) := ((fX0_length n spot).bind fun y2 => lX0_figures_7 n n spot y2)
theorem spX0_figures {d n : Nat} {h : pH}  (spot : Int32) {res : Int32} (H : fX0_figures n spot = some res) : Ev (d + 1) mX0_figures (h, 0, [(0, .int spot)], []) (fun r h1 => r = some (.int res) ∧ h1 = h) := by
  unfold fX0_figures at H
  refine Ev.go 3 (s' := (h, 3, [(0, .int spot), (1, .int spot)], [.int spot])) rfl ?_
  obtain ⟨y2, e1, H⟩ := Option.bind_eq_some_iff.mp H
  refine Ev.callE rfl rfl rfl rfl rfl (Nat.le_of_ble_eq_true rfl) (spX0_length  spot e1) ?_
  refine Ev.go 1 (s' := (h, 7, [(0, .int spot), (1, .int spot), (2, .int y2)], [])) rfl ?_
  refine Ev.live rfl (lv' := [(1, .int spot), (2, .int y2)]) rfl ?_
  exact llX0_figures_7 n h spot y2 _ H trivial
def fX7_spotFor (n : Nat) (T : tT) (p : Int32) (place : Int32) : Option (Int32) := (if place ≤ 0 then ((fX7_nextKid n T p 0).bind fun y3 => (if 0 ≤ y3 then ((fX0_choose n T.2.2.2.2.2 0 (fX7_spotOf T y3)).bind fun y6 => some y6) else ((fX0_choose n T.2.2.2.2.2 0 1000000000).bind fun y8 => some y8))) else ((fX7_childAt n T p (place - 1)).bind fun y10 => ((fX7_nextKid n T p (fX7_spotOf T y10)).bind fun y12 => (if 0 ≤ y12 then ((fX0_choose n T.2.2.2.2.2 (fX7_spotOf T y10) (fX7_spotOf T y12)).bind fun y15 => some y15) else ((fX0_choose n T.2.2.2.2.2 (fX7_spotOf T y10) 1000000000).bind fun y17 => some y17)))))
theorem spX7_spotFor {d n : Nat} {h : pH} {t : Nat} {T : tT} (xT : isT h t T) (p : Int32) (place : Int32) {res : Int32} (H : fX7_spotFor n T p place = some res) : Ev (d + 3) mX7_spotFor (h, 0, [(0, .ref t), (1, .int p), (2, .int place)], []) (fun r h1 => r = some (.int res) ∧ h1 = h) := by
  unfold fX7_spotFor at H
  refine Ev.go 1 (s' := (h, 1, [(0, .ref t), (1, .int p), (2, .int place)], [.int place])) rfl ?_
  refine Ev.if1 rfl (fun c1 => ?_) (fun c1 => ?_)
  · have c1 : place ≤ 0 := c1
    rw [if_pos c1] at H
    refine Ev.go 5 (s' := (h, 24, [(0, .ref t), (1, .int p), (2, .int place), (3, .int 0)], [.int 0, .int p, .ref t])) rfl ?_
    obtain ⟨y3, e2, H⟩ := Option.bind_eq_some_iff.mp H
    refine Ev.callE rfl rfl rfl (p_argsV (by have := xT.2.2.2.2; omega) xT.1 (Nat.le_of_ble_eq_true rfl)) rfl (Nat.le_of_ble_eq_true rfl) (spX7_nextKid xT p 0 e2) ?_
    refine Ev.go 2 (s' := (h, 30, [(0, .ref t), (1, .int p), (2, .int place), (3, .int 0), (4, .int y3)], [.ref t])) rfl ?_
    refine Ev.get rfl (by have := xT.2.2.2.2; omega) xT.1 rfl ?_
    refine Ev.go 2 (s' := (h, 36, [(0, .ref t), (1, .int p), (2, .int place), (3, .int 0), (4, .int y3)], [.int y3, .int 0, .int T.2.2.2.2.2])) rfl ?_
    refine Ev.if1 rfl (fun c4 => ?_) (fun c4 => ?_)
    · have c4 : 0 ≤ y3 := c4
      rw [if_pos c4] at H
      refine Ev.go 2 (s' := (h, 47, [(0, .ref t), (1, .int p), (2, .int place), (3, .int 0), (4, .int y3)], [.int y3, .ref t, .int 0, .int T.2.2.2.2.2])) rfl ?_
      refine Ev.callE rfl rfl rfl (p_argsV (by have := xT.2.2.2.2; omega) xT.1 (Nat.le_of_ble_eq_true rfl)) rfl (Nat.le_of_ble_eq_true rfl) (spX7_spotOf xT y3) ?_
      obtain ⟨y6, e5, H⟩ := Option.bind_eq_some_iff.mp H
      refine Ev.callE rfl rfl rfl rfl rfl (Nat.le_of_ble_eq_true rfl) (spX0_choose  T.2.2.2.2.2 0 (fX7_spotOf T y3) e5) ?_
      cases H
      exact Ev.ret rfl rfl (p_retZ rfl) ⟨rfl, rfl⟩
    · have c4 : ¬ (0 ≤ y3) := c4
      rw [if_neg c4] at H
      refine Ev.go 2 (s' := (h, 50, [(0, .ref t), (1, .int p), (2, .int place), (3, .int 0), (4, .int y3)], [.int 1000000000, .int 0, .int T.2.2.2.2.2])) rfl ?_
      obtain ⟨y8, e7, H⟩ := Option.bind_eq_some_iff.mp H
      refine Ev.callE rfl rfl rfl rfl rfl (Nat.le_of_ble_eq_true rfl) (spX0_choose  T.2.2.2.2.2 0 1000000000 e7) ?_
      cases H
      exact Ev.ret rfl rfl (p_retZ rfl) ⟨rfl, rfl⟩
  · have c1 : ¬ (place ≤ 0) := c1
    rw [if_neg c1] at H
    refine Ev.go 6 (s' := (h, 10, [(0, .ref t), (1, .int p), (2, .int place)], [.int (place - 1), .int p, .ref t, .ref t])) rfl ?_
    obtain ⟨y10, e9, H⟩ := Option.bind_eq_some_iff.mp H
    refine Ev.callE rfl rfl rfl (p_argsV (by have := xT.2.2.2.2; omega) xT.1 (Nat.le_of_ble_eq_true rfl)) rfl (Nat.le_of_ble_eq_true rfl) (spX7_childAt xT p (place - 1) e9) ?_
    refine Ev.callE rfl rfl rfl (p_argsV (by have := xT.2.2.2.2; omega) xT.1 (Nat.le_of_ble_eq_true rfl)) rfl (Nat.le_of_ble_eq_true rfl) (spX7_spotOf xT y10) ?_
    refine Ev.go 5 (s' := (h, 24, [(0, .ref t), (1, .int p), (2, .int place), (3, .int (fX7_spotOf T y10))], [.int (fX7_spotOf T y10), .int p, .ref t])) rfl ?_
    obtain ⟨y12, e11, H⟩ := Option.bind_eq_some_iff.mp H
    refine Ev.callE rfl rfl rfl (p_argsV (by have := xT.2.2.2.2; omega) xT.1 (Nat.le_of_ble_eq_true rfl)) rfl (Nat.le_of_ble_eq_true rfl) (spX7_nextKid xT p (fX7_spotOf T y10) e11) ?_
    refine Ev.go 2 (s' := (h, 30, [(0, .ref t), (1, .int p), (2, .int place), (3, .int (fX7_spotOf T y10)), (4, .int y12)], [.ref t])) rfl ?_
    refine Ev.get rfl (by have := xT.2.2.2.2; omega) xT.1 rfl ?_
    refine Ev.go 2 (s' := (h, 36, [(0, .ref t), (1, .int p), (2, .int place), (3, .int (fX7_spotOf T y10)), (4, .int y12)], [.int y12, .int (fX7_spotOf T y10), .int T.2.2.2.2.2])) rfl ?_
    refine Ev.if1 rfl (fun c13 => ?_) (fun c13 => ?_)
    · have c13 : 0 ≤ y12 := c13
      rw [if_pos c13] at H
      refine Ev.go 2 (s' := (h, 47, [(0, .ref t), (1, .int p), (2, .int place), (3, .int (fX7_spotOf T y10)), (4, .int y12)], [.int y12, .ref t, .int (fX7_spotOf T y10), .int T.2.2.2.2.2])) rfl ?_
      refine Ev.callE rfl rfl rfl (p_argsV (by have := xT.2.2.2.2; omega) xT.1 (Nat.le_of_ble_eq_true rfl)) rfl (Nat.le_of_ble_eq_true rfl) (spX7_spotOf xT y12) ?_
      obtain ⟨y15, e14, H⟩ := Option.bind_eq_some_iff.mp H
      refine Ev.callE rfl rfl rfl rfl rfl (Nat.le_of_ble_eq_true rfl) (spX0_choose  T.2.2.2.2.2 (fX7_spotOf T y10) (fX7_spotOf T y12) e14) ?_
      cases H
      exact Ev.ret rfl rfl (p_retZ rfl) ⟨rfl, rfl⟩
    · have c13 : ¬ (0 ≤ y12) := c13
      rw [if_neg c13] at H
      refine Ev.go 2 (s' := (h, 50, [(0, .ref t), (1, .int p), (2, .int place), (3, .int (fX7_spotOf T y10)), (4, .int y12)], [.int 1000000000, .int (fX7_spotOf T y10), .int T.2.2.2.2.2])) rfl ?_
      obtain ⟨y17, e16, H⟩ := Option.bind_eq_some_iff.mp H
      refine Ev.callE rfl rfl rfl rfl rfl (Nat.le_of_ble_eq_true rfl) (spX0_choose  T.2.2.2.2.2 (fX7_spotOf T y10) 1000000000 e16) ?_
      cases H
      exact Ev.ret rfl rfl (p_retZ rfl) ⟨rfl, rfl⟩
end
section
/-! Letters, Pattern, Past, Order: their methods as functions -/
def fX1_size (L : tL) : Int32 := L.2
theorem spX1_size {d : Nat} {h : pH} {L : tL} (xL : isL h L) : Ev d mX1_size (h, 0, [(0, .ref 1)], []) (fun r h1 => r = some (.int (fX1_size L)) ∧ h1 = h) := by
  refine Ev.go 1 (s' := (h, 1, [(0, .ref 1)], [.ref 1])) rfl ?_
  refine Ev.get rfl (by decide) xL.1 rfl ?_
  exact Ev.ret rfl rfl (p_retZ rfl) ⟨congrArg (fun z => some (Value.int z)) (by rw [fX1_size]), rfl⟩
def fX1_isFull (L : tL) : Int32 := (if L.2 < 200 then 0 else 1)
theorem spX1_isFull {d : Nat} {h : pH} {L : tL} (xL : isL h L) : Ev d mX1_isFull (h, 0, [(0, .ref 1)], []) (fun r h1 => r = some (.int (fX1_isFull L)) ∧ h1 = h) := by
  refine Ev.go 1 (s' := (h, 1, [(0, .ref 1)], [.ref 1])) rfl ?_
  refine Ev.get rfl (by decide) xL.1 rfl ?_
  refine Ev.go 1 (s' := (h, 7, [(0, .ref 1)], [.int 200, .int L.2])) rfl ?_
  refine Ev.if2 rfl (fun c1 => ?_) (fun c1 => ?_)
  · have c1 : L.2 < 200 := c1
    refine Ev.go 1 (s' := (h, 15, [(0, .ref 1)], [.int 0])) rfl ?_
    exact Ev.ret rfl rfl (p_retZ rfl) ⟨congrArg (fun z => some (Value.int z)) (by rw [fX1_isFull, if_pos c1]), rfl⟩
  · have c1 : ¬ (L.2 < 200) := c1
    refine Ev.go 2 (s' := (h, 15, [(0, .ref 1)], [.int 1])) rfl ?_
    exact Ev.ret rfl rfl (p_retZ rfl) ⟨congrArg (fun z => some (Value.int z)) (by rw [fX1_isFull, if_neg c1]), rfl⟩
def fX1_add (L : tL) (letter : Int32) : Option (tL) := (if 200 ≤ L.2 then some L else (if L.2 < 0 ∨ 200 ≤ L.2.toNatClampNeg then none else some (upd L.1 L.2.toNatClampNeg letter, L.2 + 1)))
theorem spX1_add {d : Nat} {h : pH} {L : tL} (xL : isL h L) (letter : Int32) {res : tL} (H : fX1_add L letter = some res) : Ev d mX1_add (h, 0, [(0, .ref 1), (1, .int letter)], []) (fun r h1 => r = none ∧ isL h1 res ∧ fr [(1, 3)] h h1) := by
  unfold fX1_add at H
  refine Ev.go 1 (s' := (h, 1, [(0, .ref 1), (1, .int letter)], [.ref 1])) rfl ?_
  refine Ev.get rfl (by decide) xL.1 rfl ?_
  refine Ev.go 1 (s' := (h, 7, [(0, .ref 1), (1, .int letter)], [.int 200, .int L.2])) rfl ?_
  refine Ev.if2 rfl (fun c1 => ?_) (fun c1 => ?_)
  · have c1 : 200 ≤ L.2 := c1
    rw [if_pos c1] at H
    cases H
    exact Ev.ret rfl rfl rfl ⟨rfl, xL, (fun k _ => rfl)⟩
  · have c1 : ¬ (200 ≤ L.2) := c1
    rw [if_neg c1] at H
    refine Ev.go 1 (s' := (h, 11, [(0, .ref 1), (1, .int letter)], [.ref 1])) rfl ?_
    refine Ev.get rfl (by decide) xL.1 rfl ?_
    refine Ev.go 1 (s' := (h, 15, [(0, .ref 1), (1, .int letter)], [.ref 1, .ref 2])) rfl ?_
    refine Ev.get rfl (by decide) xL.1 rfl ?_
    refine Ev.go 1 (s' := (h, 19, [(0, .ref 1), (1, .int letter)], [.int letter, .int L.2, .ref 2])) rfl ?_
    have v2 : vp_in L.2 200 := fun q => by rw [if_pos q] at H; cases H
    rw [if_neg v2] at H
    refine Ev.iast rfl (by decide) xL.2 v2 ?_
    refine Ev.go 2 (s' := ((pu h 2 (eI 200 (upd L.1 L.2.toNatClampNeg letter))), 22, [(0, .ref 1), (1, .int letter)], [.ref 1, .ref 1])) rfl ?_
    refine Ev.get rfl (by decide) (pu_n (by decide) xL.1) rfl ?_
    refine Ev.go 2 (s' := ((pu h 2 (eI 200 (upd L.1 L.2.toNatClampNeg letter))), 27, [(0, .ref 1), (1, .int letter)], [.int (L.2 + 1), .ref 1])) rfl ?_
    refine Ev.put rfl rfl (by decide) (pu_n (by decide) xL.1) (Nat.le_of_ble_eq_true rfl) rfl rfl (fs' := [.ref 2, .int (L.2 + 1)]) rfl ?_
    cases H
    exact Ev.ret rfl rfl rfl ⟨rfl, ⟨pu_s, (pu_n (by decide) pu_s)⟩, (fun k hk => by rw [pu_x (show k ≠ 1 from fun e => by have := hk; simp at this; omega)]; rw [pu_x (show k ≠ 2 from fun e => by have := hk; simp at this; omega)])⟩
def fX1_clear (L : tL) : Option (tL) := some (L.1, 0)
theorem spX1_clear {d : Nat} {h : pH} {L : tL} (xL : isL h L) {res : tL} (H : fX1_clear L = some res) : Ev d mX1_clear (h, 0, [(0, .ref 1)], []) (fun r h1 => r = none ∧ isL h1 res ∧ fr [(1, 3)] h h1) := by
  unfold fX1_clear at H
  refine Ev.go 2 (s' := (h, 2, [(0, .ref 1)], [.int 0, .ref 1])) rfl ?_
  refine Ev.put rfl rfl (by decide) xL.1 (Nat.le_of_ble_eq_true rfl) rfl rfl (fs' := [.ref 2, .int 0]) rfl ?_
  cases H
  exact Ev.ret rfl rfl rfl ⟨rfl, ⟨pu_s, (pu_n (by decide) xL.2)⟩, (fun k hk => by rw [pu_x (show k ≠ 1 from fun e => by have := hk; simp at this; omega)])⟩
def fX1_letterAt (L : tL) (place : Int32) : Option (Int32) := (if place < 0 then some (-1) else (if L.2 ≤ place then some (-1) else (if place < 0 ∨ 200 ≤ place.toNatClampNeg then none else some (L.1 place.toNatClampNeg))))
theorem spX1_letterAt {d : Nat} {h : pH} {L : tL} (xL : isL h L) (place : Int32) {res : Int32} (H : fX1_letterAt L place = some res) : Ev d mX1_letterAt (h, 0, [(0, .ref 1), (1, .int place)], []) (fun r h1 => r = some (.int res) ∧ h1 = h) := by
  unfold fX1_letterAt at H
  refine Ev.go 1 (s' := (h, 1, [(0, .ref 1), (1, .int place)], [.int place])) rfl ?_
  refine Ev.if1 rfl (fun c1 => ?_) (fun c1 => ?_)
  · have c1 : place < 0 := c1
    rw [if_pos c1] at H
    refine Ev.go 1 (s' := (h, 22, [(0, .ref 1), (1, .int place)], [.int ((-1))])) rfl ?_
    cases H
    exact Ev.ret rfl rfl (p_retZ rfl) ⟨rfl, rfl⟩
  · have c1 : ¬ (place < 0) := c1
    rw [if_neg c1] at H
    refine Ev.go 2 (s' := (h, 6, [(0, .ref 1), (1, .int place)], [.ref 1, .int place])) rfl ?_
    refine Ev.get rfl (by decide) xL.1 rfl ?_
    refine Ev.if2 rfl (fun c2 => ?_) (fun c2 => ?_)
    · have c2 : L.2 ≤ place := c2
      rw [if_pos c2] at H
      refine Ev.go 1 (s' := (h, 22, [(0, .ref 1), (1, .int place)], [.int ((-1))])) rfl ?_
      cases H
      exact Ev.ret rfl rfl (p_retZ rfl) ⟨rfl, rfl⟩
    · have c2 : ¬ (L.2 ≤ place) := c2
      rw [if_neg c2] at H
      refine Ev.go 1 (s' := (h, 13, [(0, .ref 1), (1, .int place)], [.ref 1])) rfl ?_
      refine Ev.get rfl (by decide) xL.1 rfl ?_
      refine Ev.go 1 (s' := (h, 17, [(0, .ref 1), (1, .int place)], [.int place, .ref 2])) rfl ?_
      have v3 : vp_in place 200 := fun q => by rw [if_pos q] at H; cases H
      rw [if_neg v3] at H
      refine Ev.iald rfl (by decide) xL.2 v3 ?_
      refine Ev.go 1 (s' := (h, 22, [(0, .ref 1), (1, .int place)], [.int (L.1 place.toNatClampNeg)])) rfl ?_
      cases H
      exact Ev.ret rfl rfl (p_retZ rfl) ⟨rfl, rfl⟩
def fX5_size (S : tS) : Int32 := S.2.2.2.1
theorem spX5_size {d : Nat} {h : pH} {t : Nat} {S : tS} (xS : isS h t S) : Ev d mX5_size (h, 0, [(0, .ref t)], []) (fun r h1 => r = some (.int (fX5_size S)) ∧ h1 = h) := by
  refine Ev.go 1 (s' := (h, 1, [(0, .ref t)], [.ref t])) rfl ?_
  refine Ev.get rfl (by have := xS.2.2.2.2; omega) xS.1 rfl ?_
  exact Ev.ret rfl rfl (p_retZ rfl) ⟨congrArg (fun z => some (Value.int z)) (by rw [fX5_size]), rfl⟩
def fX5_has (S : tS) (q : Int32) : Int32 := (if q < 0 then 0 else (if S.2.2.2.1 ≤ q then 0 else 1))
theorem spX5_has {d : Nat} {h : pH} {t : Nat} {S : tS} (xS : isS h t S) (q : Int32) : Ev d mX5_has (h, 0, [(0, .ref t), (1, .int q)], []) (fun r h1 => r = some (.int (fX5_has S q)) ∧ h1 = h) := by
  refine Ev.go 1 (s' := (h, 1, [(0, .ref t), (1, .int q)], [.int q])) rfl ?_
  refine Ev.if1 rfl (fun c1 => ?_) (fun c1 => ?_)
  · have c1 : q < 0 := c1
    refine Ev.go 1 (s' := (h, 17, [(0, .ref t), (1, .int q)], [.int 0])) rfl ?_
    exact Ev.ret rfl rfl (p_retZ rfl) ⟨congrArg (fun z => some (Value.int z)) (by rw [fX5_has, if_pos c1]), rfl⟩
  · have c1 : ¬ (q < 0) := c1
    refine Ev.go 2 (s' := (h, 6, [(0, .ref t), (1, .int q)], [.ref t, .int q])) rfl ?_
    refine Ev.get rfl (by have := xS.2.2.2.2; omega) xS.1 rfl ?_
    refine Ev.if2 rfl (fun c2 => ?_) (fun c2 => ?_)
    · have c2 : S.2.2.2.1 ≤ q := c2
      refine Ev.go 1 (s' := (h, 17, [(0, .ref t), (1, .int q)], [.int 0])) rfl ?_
      exact Ev.ret rfl rfl (p_retZ rfl) ⟨congrArg (fun z => some (Value.int z)) (by rw [fX5_has, if_neg c1, if_pos c2]), rfl⟩
    · have c2 : ¬ (S.2.2.2.1 ≤ q) := c2
      refine Ev.go 2 (s' := (h, 17, [(0, .ref t), (1, .int q)], [.int 1])) rfl ?_
      exact Ev.ret rfl rfl (p_retZ rfl) ⟨congrArg (fun z => some (Value.int z)) (by rw [fX5_has, if_neg c1, if_neg c2]), rfl⟩
def fX5_lastOutermost (S : tS) : Int32 := S.2.2.2.2
theorem spX5_lastOutermost {d : Nat} {h : pH} {t : Nat} {S : tS} (xS : isS h t S) : Ev d mX5_lastOutermost (h, 0, [(0, .ref t)], []) (fun r h1 => r = some (.int (fX5_lastOutermost S)) ∧ h1 = h) := by
  refine Ev.go 1 (s' := (h, 1, [(0, .ref t)], [.ref t])) rfl ?_
  refine Ev.get rfl (by have := xS.2.2.2.2; omega) xS.1 rfl ?_
  exact Ev.ret rfl rfl (p_retZ rfl) ⟨congrArg (fun z => some (Value.int z)) (by rw [fX5_lastOutermost]), rfl⟩
def fX5_tagOf (S : tS) (q : Int32) : Option (Int32) := (if (fX5_has S q) = 0 then some (-1) else (if q < 0 ∨ 8 ≤ q.toNatClampNeg then none else some (S.1 q.toNatClampNeg)))
theorem spX5_tagOf {d : Nat} {h : pH} {t : Nat} {S : tS} (xS : isS h t S) (q : Int32) {res : Int32} (H : fX5_tagOf S q = some res) : Ev (d + 1) mX5_tagOf (h, 0, [(0, .ref t), (1, .int q)], []) (fun r h1 => r = some (.int res) ∧ h1 = h) := by
  unfold fX5_tagOf at H
  refine Ev.go 2 (s' := (h, 2, [(0, .ref t), (1, .int q)], [.int q, .ref t])) rfl ?_
  refine Ev.callE rfl rfl rfl (p_argsV (by have := xS.2.2.2.2; omega) xS.1 (Nat.le_of_ble_eq_true rfl)) rfl (Nat.le_of_ble_eq_true rfl) (spX5_has xS q) ?_
  refine Ev.if1 rfl (fun c1 => ?_) (fun c1 => ?_)
  · have c1 : (fX5_has S q) = 0 := c1
    rw [if_pos c1] at H
    refine Ev.go 1 (s' := (h, 18, [(0, .ref t), (1, .int q)], [.int ((-1))])) rfl ?_
    cases H
    exact Ev.ret rfl rfl (p_retZ rfl) ⟨rfl, rfl⟩
  · have c1 : ¬ ((fX5_has S q) = 0) := c1
    rw [if_neg c1] at H
    refine Ev.go 1 (s' := (h, 9, [(0, .ref t), (1, .int q)], [.ref t])) rfl ?_
    refine Ev.get rfl (by have := xS.2.2.2.2; omega) xS.1 rfl ?_
    refine Ev.go 1 (s' := (h, 13, [(0, .ref t), (1, .int q)], [.int q, .ref (t + 1)])) rfl ?_
    have v2 : vp_in q 8 := fun q => by rw [if_pos q] at H; cases H
    rw [if_neg v2] at H
    refine Ev.iald rfl (by have := xS.2.2.2.2; omega) xS.2.1 v2 ?_
    refine Ev.go 1 (s' := (h, 18, [(0, .ref t), (1, .int q)], [.int (S.1 q.toNatClampNeg)])) rfl ?_
    cases H
    exact Ev.ret rfl rfl (p_retZ rfl) ⟨rfl, rfl⟩
def fX5_hangOf (S : tS) (q : Int32) : Option (Int32) := (if (fX5_has S q) = 0 then some (-1) else (if q < 0 ∨ 8 ≤ q.toNatClampNeg then none else some (S.2.1 q.toNatClampNeg)))
theorem spX5_hangOf {d : Nat} {h : pH} {t : Nat} {S : tS} (xS : isS h t S) (q : Int32) {res : Int32} (H : fX5_hangOf S q = some res) : Ev (d + 1) mX5_hangOf (h, 0, [(0, .ref t), (1, .int q)], []) (fun r h1 => r = some (.int res) ∧ h1 = h) := by
  unfold fX5_hangOf at H
  refine Ev.go 2 (s' := (h, 2, [(0, .ref t), (1, .int q)], [.int q, .ref t])) rfl ?_
  refine Ev.callE rfl rfl rfl (p_argsV (by have := xS.2.2.2.2; omega) xS.1 (Nat.le_of_ble_eq_true rfl)) rfl (Nat.le_of_ble_eq_true rfl) (spX5_has xS q) ?_
  refine Ev.if1 rfl (fun c1 => ?_) (fun c1 => ?_)
  · have c1 : (fX5_has S q) = 0 := c1
    rw [if_pos c1] at H
    refine Ev.go 1 (s' := (h, 18, [(0, .ref t), (1, .int q)], [.int ((-1))])) rfl ?_
    cases H
    exact Ev.ret rfl rfl (p_retZ rfl) ⟨rfl, rfl⟩
  · have c1 : ¬ ((fX5_has S q) = 0) := c1
    rw [if_neg c1] at H
    refine Ev.go 1 (s' := (h, 9, [(0, .ref t), (1, .int q)], [.ref t])) rfl ?_
    refine Ev.get rfl (by have := xS.2.2.2.2; omega) xS.1 rfl ?_
    refine Ev.go 1 (s' := (h, 13, [(0, .ref t), (1, .int q)], [.int q, .ref (t + 2)])) rfl ?_
    have v2 : vp_in q 8 := fun q => by rw [if_pos q] at H; cases H
    rw [if_neg v2] at H
    refine Ev.iald rfl (by have := xS.2.2.2.2; omega) xS.2.2.1 v2 ?_
    refine Ev.go 1 (s' := (h, 18, [(0, .ref t), (1, .int q)], [.int (S.2.1 q.toNatClampNeg)])) rfl ?_
    cases H
    exact Ev.ret rfl rfl (p_retZ rfl) ⟨rfl, rfl⟩
def fX5_axisOf (S : tS) (q : Int32) : Option (Int32) := (if (fX5_has S q) = 0 then some (-1) else (if q < 0 ∨ 8 ≤ q.toNatClampNeg then none else some (S.2.2.1 q.toNatClampNeg)))
theorem spX5_axisOf {d : Nat} {h : pH} {t : Nat} {S : tS} (xS : isS h t S) (q : Int32) {res : Int32} (H : fX5_axisOf S q = some res) : Ev (d + 1) mX5_axisOf (h, 0, [(0, .ref t), (1, .int q)], []) (fun r h1 => r = some (.int res) ∧ h1 = h) := by
  unfold fX5_axisOf at H
  refine Ev.go 2 (s' := (h, 2, [(0, .ref t), (1, .int q)], [.int q, .ref t])) rfl ?_
  refine Ev.callE rfl rfl rfl (p_argsV (by have := xS.2.2.2.2; omega) xS.1 (Nat.le_of_ble_eq_true rfl)) rfl (Nat.le_of_ble_eq_true rfl) (spX5_has xS q) ?_
  refine Ev.if1 rfl (fun c1 => ?_) (fun c1 => ?_)
  · have c1 : (fX5_has S q) = 0 := c1
    rw [if_pos c1] at H
    refine Ev.go 1 (s' := (h, 18, [(0, .ref t), (1, .int q)], [.int ((-1))])) rfl ?_
    cases H
    exact Ev.ret rfl rfl (p_retZ rfl) ⟨rfl, rfl⟩
  · have c1 : ¬ ((fX5_has S q) = 0) := c1
    rw [if_neg c1] at H
    refine Ev.go 1 (s' := (h, 9, [(0, .ref t), (1, .int q)], [.ref t])) rfl ?_
    refine Ev.get rfl (by have := xS.2.2.2.2; omega) xS.1 rfl ?_
    refine Ev.go 1 (s' := (h, 13, [(0, .ref t), (1, .int q)], [.int q, .ref (t + 3)])) rfl ?_
    have v2 : vp_in q 8 := fun q => by rw [if_pos q] at H; cases H
    rw [if_neg v2] at H
    refine Ev.iald rfl (by have := xS.2.2.2.2; omega) xS.2.2.2.1 v2 ?_
    refine Ev.go 1 (s' := (h, 18, [(0, .ref t), (1, .int q)], [.int (S.2.2.1 q.toNatClampNeg)])) rfl ?_
    cases H
    exact Ev.ret rfl rfl (p_retZ rfl) ⟨rfl, rfl⟩
def fX5_fits (S : tS) (q : Int32) (number : Int32) : Option (Int32) := (if (fX5_has S q) = 0 then some 0 else (if q < 0 ∨ 8 ≤ q.toNatClampNeg then none else (if (S.1 q.toNatClampNeg) = 6 then some 1 else (if ¬ (S.1 q.toNatClampNeg) = number then some 0 else some 1))))
theorem spX5_fits {d : Nat} {h : pH} {t : Nat} {S : tS} (xS : isS h t S) (q : Int32) (number : Int32) {res : Int32} (H : fX5_fits S q number = some res) : Ev (d + 1) mX5_fits (h, 0, [(0, .ref t), (1, .int q), (2, .int number)], []) (fun r h1 => r = some (.int res) ∧ h1 = h) := by
  unfold fX5_fits at H
  refine Ev.go 2 (s' := (h, 2, [(0, .ref t), (1, .int q), (2, .int number)], [.int q, .ref t])) rfl ?_
  refine Ev.callE rfl rfl rfl (p_argsV (by have := xS.2.2.2.2; omega) xS.1 (Nat.le_of_ble_eq_true rfl)) rfl (Nat.le_of_ble_eq_true rfl) (spX5_has xS q) ?_
  refine Ev.if1 rfl (fun c1 => ?_) (fun c1 => ?_)
  · have c1 : (fX5_has S q) = 0 := c1
    rw [if_pos c1] at H
    refine Ev.go 1 (s' := (h, 34, [(0, .ref t), (1, .int q), (2, .int number)], [.int 0])) rfl ?_
    cases H
    exact Ev.ret rfl rfl (p_retZ rfl) ⟨rfl, rfl⟩
  · have c1 : ¬ ((fX5_has S q) = 0) := c1
    rw [if_neg c1] at H
    refine Ev.go 1 (s' := (h, 9, [(0, .ref t), (1, .int q), (2, .int number)], [.ref t])) rfl ?_
    refine Ev.get rfl (by have := xS.2.2.2.2; omega) xS.1 rfl ?_
    refine Ev.go 1 (s' := (h, 13, [(0, .ref t), (1, .int q), (2, .int number)], [.int q, .ref (t + 1)])) rfl ?_
    have v2 : vp_in q 8 := fun q => by rw [if_pos q] at H; cases H
    rw [if_neg v2] at H
    refine Ev.iald rfl (by have := xS.2.2.2.2; omega) xS.2.1 v2 ?_
    refine Ev.go 1 (s' := (h, 16, [(0, .ref t), (1, .int q), (2, .int number)], [.int 6, .int (S.1 q.toNatClampNeg)])) rfl ?_
    refine Ev.if2 rfl (fun c3 => ?_) (fun c3 => ?_)
    · have c3 : (S.1 q.toNatClampNeg) = 6 := c3
      rw [if_pos c3] at H
      refine Ev.go 2 (s' := (h, 34, [(0, .ref t), (1, .int q), (2, .int number)], [.int 1])) rfl ?_
      cases H
      exact Ev.ret rfl rfl (p_retZ rfl) ⟨rfl, rfl⟩
    · have c3 : ¬ ((S.1 q.toNatClampNeg) = 6) := c3
      rw [if_neg c3] at H
      refine Ev.go 1 (s' := (h, 20, [(0, .ref t), (1, .int q), (2, .int number)], [.ref t])) rfl ?_
      refine Ev.get rfl (by have := xS.2.2.2.2; omega) xS.1 rfl ?_
      refine Ev.go 1 (s' := (h, 24, [(0, .ref t), (1, .int q), (2, .int number)], [.int q, .ref (t + 1)])) rfl ?_
      refine Ev.iald rfl (by have := xS.2.2.2.2; omega) xS.2.1 v2 ?_
      refine Ev.go 1 (s' := (h, 26, [(0, .ref t), (1, .int q), (2, .int number)], [.int number, .int (S.1 q.toNatClampNeg)])) rfl ?_
      refine Ev.if2 rfl (fun c4 => ?_) (fun c4 => ?_)
      · have c4 : ¬ (S.1 q.toNatClampNeg) = number := c4
        rw [if_pos c4] at H
        refine Ev.go 1 (s' := (h, 34, [(0, .ref t), (1, .int q), (2, .int number)], [.int 0])) rfl ?_
        cases H
        exact Ev.ret rfl rfl (p_retZ rfl) ⟨rfl, rfl⟩
      · have c4 : ¬ (¬ (S.1 q.toNatClampNeg) = number) := c4
        rw [if_neg c4] at H
        refine Ev.go 2 (s' := (h, 34, [(0, .ref t), (1, .int q), (2, .int number)], [.int 1])) rfl ?_
        cases H
        exact Ev.ret rfl rfl (p_retZ rfl) ⟨rfl, rfl⟩
def fX5_clear (S : tS) : Option (tS) := some (S.1, S.2.1, S.2.2.1, 0, 0)
theorem spX5_clear {d : Nat} {h : pH} {t : Nat} {S : tS} (xS : isS h t S) {res : tS} (H : fX5_clear S = some res) : Ev d mX5_clear (h, 0, [(0, .ref t)], []) (fun r h1 => r = none ∧ isS h1 t res ∧ fr [(t, t + 4)] h h1) := by
  unfold fX5_clear at H
  refine Ev.go 2 (s' := (h, 2, [(0, .ref t)], [.int 0, .ref t])) rfl ?_
  refine Ev.put rfl rfl (by have := xS.2.2.2.2; omega) xS.1 (Nat.le_of_ble_eq_true rfl) rfl rfl (fs' := [.ref (t + 1), .ref (t + 2), .ref (t + 3), .int 0, .int S.2.2.2.2]) rfl ?_
  refine Ev.go 2 (s' := ((pu h t (eO 4 [.ref (t + 1), .ref (t + 2), .ref (t + 3), .int 0, .int S.2.2.2.2])), 7, [(0, .ref t)], [.int 0, .ref t])) rfl ?_
  refine Ev.put rfl rfl (by have := xS.2.2.2.2; omega) pu_s (Nat.le_of_ble_eq_true rfl) rfl rfl (fs' := [.ref (t + 1), .ref (t + 2), .ref (t + 3), .int 0, .int 0]) rfl ?_
  cases H
  exact Ev.ret rfl rfl rfl ⟨rfl, ⟨pu_s, (pu_n (by omega) (pu_n (by omega) xS.2.1)), (pu_n (by omega) (pu_n (by omega) xS.2.2.1)), (pu_n (by omega) (pu_n (by omega) xS.2.2.2.1)), (by have := xS.2.2.2.2; omega)⟩, (fun k hk => by rw [pu_x (show k ≠ t from fun e => by have := hk; simp at this; omega)]; rw [pu_x (show k ≠ t from fun e => by have := hk; simp at this; omega)])⟩
def fX5_add (S : tS) (number : Int32) (hang : Int32) (axis : Int32) : Option (Int32 × tS) := (if S.2.2.2.1 < 8 then (if S.2.2.2.1 < 0 ∨ 8 ≤ S.2.2.2.1.toNatClampNeg then none else some ((S.2.2.2.1 + 1) - 1, (upd S.1 S.2.2.2.1.toNatClampNeg number, upd S.2.1 S.2.2.2.1.toNatClampNeg hang, upd S.2.2.1 S.2.2.2.1.toNatClampNeg axis, S.2.2.2.1 + 1, S.2.2.2.2))) else some ((-1), S))
theorem spX5_add {d : Nat} {h : pH} {t : Nat} {S : tS} (xS : isS h t S) (number : Int32) (hang : Int32) (axis : Int32) {res : Int32 × tS} (H : fX5_add S number hang axis = some res) : Ev d mX5_add (h, 0, [(0, .ref t), (1, .int number), (2, .int hang), (3, .int axis)], []) (fun r h1 => r = some (.int res.1) ∧ isS h1 t res.2 ∧ fr [(t, t + 4)] h h1) := by
  unfold fX5_add at H
  refine Ev.go 1 (s' := (h, 1, [(0, .ref t), (1, .int number), (2, .int hang), (3, .int axis)], [.ref t])) rfl ?_
  refine Ev.get rfl (by have := xS.2.2.2.2; omega) xS.1 rfl ?_
  refine Ev.go 1 (s' := (h, 6, [(0, .ref t), (1, .int number), (2, .int hang), (3, .int axis)], [.int 8, .int S.2.2.2.1])) rfl ?_
  refine Ev.if2 rfl (fun c1 => ?_) (fun c1 => ?_)
  · have c1 : S.2.2.2.1 < 8 := c1
    rw [if_pos c1] at H
    refine Ev.go 1 (s' := (h, 12, [(0, .ref t), (1, .int number), (2, .int hang), (3, .int axis)], [.ref t])) rfl ?_
    refine Ev.get rfl (by have := xS.2.2.2.2; omega) xS.1 rfl ?_
    refine Ev.go 1 (s' := (h, 16, [(0, .ref t), (1, .int number), (2, .int hang), (3, .int axis)], [.ref t, .ref (t + 1)])) rfl ?_
    refine Ev.get rfl (by have := xS.2.2.2.2; omega) xS.1 rfl ?_
    refine Ev.go 1 (s' := (h, 20, [(0, .ref t), (1, .int number), (2, .int hang), (3, .int axis)], [.int number, .int S.2.2.2.1, .ref (t + 1)])) rfl ?_
    have v2 : vp_in S.2.2.2.1 8 := fun q => by rw [if_pos q] at H; cases H
    rw [if_neg v2] at H
    refine Ev.iast rfl (by have := xS.2.2.2.2; omega) xS.2.1 v2 ?_
    refine Ev.go 1 (s' := ((pu h (t + 1) (eI 8 (upd S.1 S.2.2.2.1.toNatClampNeg number))), 22, [(0, .ref t), (1, .int number), (2, .int hang), (3, .int axis)], [.ref t])) rfl ?_
    refine Ev.get rfl (by have := xS.2.2.2.2; omega) (pu_n (by omega) xS.1) rfl ?_
    refine Ev.go 1 (s' := ((pu h (t + 1) (eI 8 (upd S.1 S.2.2.2.1.toNatClampNeg number))), 26, [(0, .ref t), (1, .int number), (2, .int hang), (3, .int axis)], [.ref t, .ref (t + 2)])) rfl ?_
    refine Ev.get rfl (by have := xS.2.2.2.2; omega) (pu_n (by omega) xS.1) rfl ?_
    refine Ev.go 1 (s' := ((pu h (t + 1) (eI 8 (upd S.1 S.2.2.2.1.toNatClampNeg number))), 30, [(0, .ref t), (1, .int number), (2, .int hang), (3, .int axis)], [.int hang, .int S.2.2.2.1, .ref (t + 2)])) rfl ?_
    refine Ev.iast rfl (by have := xS.2.2.2.2; omega) (pu_n (by omega) xS.2.2.1) v2 ?_
    refine Ev.go 1 (s' := ((pu (pu h (t + 1) (eI 8 (upd S.1 S.2.2.2.1.toNatClampNeg number))) (t + 2) (eI 8 (upd S.2.1 S.2.2.2.1.toNatClampNeg hang))), 32, [(0, .ref t), (1, .int number), (2, .int hang), (3, .int axis)], [.ref t])) rfl ?_
    refine Ev.get rfl (by have := xS.2.2.2.2; omega) (pu_n (by omega) (pu_n (by omega) xS.1)) rfl ?_
    refine Ev.go 1 (s' := ((pu (pu h (t + 1) (eI 8 (upd S.1 S.2.2.2.1.toNatClampNeg number))) (t + 2) (eI 8 (upd S.2.1 S.2.2.2.1.toNatClampNeg hang))), 36, [(0, .ref t), (1, .int number), (2, .int hang), (3, .int axis)], [.ref t, .ref (t + 3)])) rfl ?_
    refine Ev.get rfl (by have := xS.2.2.2.2; omega) (pu_n (by omega) (pu_n (by omega) xS.1)) rfl ?_
    refine Ev.go 1 (s' := ((pu (pu h (t + 1) (eI 8 (upd S.1 S.2.2.2.1.toNatClampNeg number))) (t + 2) (eI 8 (upd S.2.1 S.2.2.2.1.toNatClampNeg hang))), 40, [(0, .ref t), (1, .int number), (2, .int hang), (3, .int axis)], [.int axis, .int S.2.2.2.1, .ref (t + 3)])) rfl ?_
    refine Ev.iast rfl (by have := xS.2.2.2.2; omega) (pu_n (by omega) (pu_n (by omega) xS.2.2.2.1)) v2 ?_
    refine Ev.go 2 (s' := ((pu (pu (pu h (t + 1) (eI 8 (upd S.1 S.2.2.2.1.toNatClampNeg number))) (t + 2) (eI 8 (upd S.2.1 S.2.2.2.1.toNatClampNeg hang))) (t + 3) (eI 8 (upd S.2.2.1 S.2.2.2.1.toNatClampNeg axis))), 43, [(0, .ref t), (1, .int number), (2, .int hang), (3, .int axis)], [.ref t, .ref t])) rfl ?_
    refine Ev.get rfl (by have := xS.2.2.2.2; omega) (pu_n (by omega) (pu_n (by omega) (pu_n (by omega) xS.1))) rfl ?_
    refine Ev.go 2 (s' := ((pu (pu (pu h (t + 1) (eI 8 (upd S.1 S.2.2.2.1.toNatClampNeg number))) (t + 2) (eI 8 (upd S.2.1 S.2.2.2.1.toNatClampNeg hang))) (t + 3) (eI 8 (upd S.2.2.1 S.2.2.2.1.toNatClampNeg axis))), 48, [(0, .ref t), (1, .int number), (2, .int hang), (3, .int axis)], [.int (S.2.2.2.1 + 1), .ref t])) rfl ?_
    refine Ev.put rfl rfl (by have := xS.2.2.2.2; omega) (pu_n (by omega) (pu_n (by omega) (pu_n (by omega) xS.1))) (Nat.le_of_ble_eq_true rfl) rfl rfl (fs' := [.ref (t + 1), .ref (t + 2), .ref (t + 3), .int (S.2.2.2.1 + 1), .int S.2.2.2.2]) rfl ?_
    refine Ev.go 1 (s' := ((pu (pu (pu (pu h (t + 1) (eI 8 (upd S.1 S.2.2.2.1.toNatClampNeg number))) (t + 2) (eI 8 (upd S.2.1 S.2.2.2.1.toNatClampNeg hang))) (t + 3) (eI 8 (upd S.2.2.1 S.2.2.2.1.toNatClampNeg axis))) t (eO 4 [.ref (t + 1), .ref (t + 2), .ref (t + 3), .int (S.2.2.2.1 + 1), .int S.2.2.2.2])), 52, [(0, .ref t), (1, .int number), (2, .int hang), (3, .int axis)], [.ref t])) rfl ?_
    refine Ev.get rfl (by have := xS.2.2.2.2; omega) pu_s rfl ?_
    refine Ev.go 2 (s' := ((pu (pu (pu (pu h (t + 1) (eI 8 (upd S.1 S.2.2.2.1.toNatClampNeg number))) (t + 2) (eI 8 (upd S.2.1 S.2.2.2.1.toNatClampNeg hang))) (t + 3) (eI 8 (upd S.2.2.1 S.2.2.2.1.toNatClampNeg axis))) t (eO 4 [.ref (t + 1), .ref (t + 2), .ref (t + 3), .int (S.2.2.2.1 + 1), .int S.2.2.2.2])), 57, [(0, .ref t), (1, .int number), (2, .int hang), (3, .int axis)], [.int ((S.2.2.2.1 + 1) - 1)])) rfl ?_
    cases H
    exact Ev.ret rfl rfl (p_retZ rfl) ⟨rfl, ⟨pu_s, (pu_n (by omega) (pu_n (by omega) (pu_n (by omega) pu_s))), (pu_n (by omega) (pu_n (by omega) pu_s)), (pu_n (by omega) pu_s), (by have := xS.2.2.2.2; omega)⟩, (fun k hk => by rw [pu_x (show k ≠ t from fun e => by have := hk; simp at this; omega)]; rw [pu_x (show k ≠ t + 3 from fun e => by have := hk; simp at this; omega)]; rw [pu_x (show k ≠ t + 2 from fun e => by have := hk; simp at this; omega)]; rw [pu_x (show k ≠ t + 1 from fun e => by have := hk; simp at this; omega)])⟩
  · have c1 : ¬ (S.2.2.2.1 < 8) := c1
    rw [if_neg c1] at H
    refine Ev.go 1 (s' := (h, 10, [(0, .ref t), (1, .int number), (2, .int hang), (3, .int axis)], [.int ((-1))])) rfl ?_
    cases H
    exact Ev.ret rfl rfl (p_retZ rfl) ⟨rfl, xS, (fun k _ => rfl)⟩
def fX5_setLastOutermost (S : tS) (q : Int32) : Option (tS) := some (S.1, S.2.1, S.2.2.1, S.2.2.2.1, q)
theorem spX5_setLastOutermost {d : Nat} {h : pH} {t : Nat} {S : tS} (xS : isS h t S) (q : Int32) {res : tS} (H : fX5_setLastOutermost S q = some res) : Ev d mX5_setLastOutermost (h, 0, [(0, .ref t), (1, .int q)], []) (fun r h1 => r = none ∧ isS h1 t res ∧ fr [(t, t + 4)] h h1) := by
  unfold fX5_setLastOutermost at H
  refine Ev.go 2 (s' := (h, 2, [(0, .ref t), (1, .int q)], [.int q, .ref t])) rfl ?_
  refine Ev.put rfl rfl (by have := xS.2.2.2.2; omega) xS.1 (Nat.le_of_ble_eq_true rfl) rfl rfl (fs' := [.ref (t + 1), .ref (t + 2), .ref (t + 3), .int S.2.2.2.1, .int q]) rfl ?_
  cases H
  exact Ev.ret rfl rfl rfl ⟨rfl, ⟨pu_s, (pu_n (by omega) xS.2.1), (pu_n (by omega) xS.2.2.1), (pu_n (by omega) xS.2.2.2.1), (by have := xS.2.2.2.2; omega)⟩, (fun k hk => by rw [pu_x (show k ≠ t from fun e => by have := hk; simp at this; omega)])⟩
def fX5_copyFrom (S : tS) (U : tS) : Option (tS) := some (va_cpy U.1 S.1 0 0 8, va_cpy U.2.1 S.2.1 0 0 8, va_cpy U.2.2.1 S.2.2.1 0 0 8, U.2.2.2.1, U.2.2.2.2)
theorem spX5_copyFrom {d : Nat} {h : pH} {t u : Nat} {S : tS} {U : tS} (xS : isS h t S) (xU : isS h u U) (hd : t + 3 < u ∨ u + 3 < t) {res : tS} (H : fX5_copyFrom S U = some res) : Ev (d + 1) mX5_copyFrom (h, 0, [(0, .ref t), (1, .ref u)], []) (fun r h1 => r = none ∧ isS h1 t res ∧ fr [(t, t + 4)] h h1) := by
  unfold fX5_copyFrom at H
  refine Ev.go 1 (s' := (h, 1, [(0, .ref t), (1, .ref u)], [.ref u])) rfl ?_
  refine Ev.get rfl (by have := xU.2.2.2.2; omega) xU.1 rfl ?_
  refine Ev.go 2 (s' := (h, 6, [(0, .ref t), (1, .ref u)], [.ref t, .int 0, .ref (u + 1)])) rfl ?_
  refine Ev.get rfl (by have := xS.2.2.2.2; omega) xS.1 rfl ?_
  refine Ev.go 2 (s' := (h, 12, [(0, .ref t), (1, .ref u)], [.int 8, .int 0, .ref (t + 1), .int 0, .ref (u + 1)])) rfl ?_
  refine Ev.cpy rfl rfl (by have := xU.2.2.2.2; omega) (by have := xS.2.2.2.2; omega) xU.2.1 xS.2.1 (by decide) (by decide) (by decide) (by decide) (by decide) (Nat.le_of_ble_eq_true rfl) ?_
  refine Ev.go 1 (s' := ((pu h (t + 1) (eI 8 (va_cpy U.1 S.1 0 0 8))), 16, [(0, .ref t), (1, .ref u)], [.ref u])) rfl ?_
  refine Ev.get rfl (by have := xU.2.2.2.2; omega) (pu_n (by omega) xU.1) rfl ?_
  refine Ev.go 2 (s' := ((pu h (t + 1) (eI 8 (va_cpy U.1 S.1 0 0 8))), 21, [(0, .ref t), (1, .ref u)], [.ref t, .int 0, .ref (u + 2)])) rfl ?_
  refine Ev.get rfl (by have := xS.2.2.2.2; omega) (pu_n (by omega) xS.1) rfl ?_
  refine Ev.go 2 (s' := ((pu h (t + 1) (eI 8 (va_cpy U.1 S.1 0 0 8))), 27, [(0, .ref t), (1, .ref u)], [.int 8, .int 0, .ref (t + 2), .int 0, .ref (u + 2)])) rfl ?_
  refine Ev.cpy rfl rfl (by have := xU.2.2.2.2; omega) (by have := xS.2.2.2.2; omega) (pu_n (by omega) xU.2.2.1) (pu_n (by omega) xS.2.2.1) (by decide) (by decide) (by decide) (by decide) (by decide) (Nat.le_of_ble_eq_true rfl) ?_
  refine Ev.go 1 (s' := ((pu (pu h (t + 1) (eI 8 (va_cpy U.1 S.1 0 0 8))) (t + 2) (eI 8 (va_cpy U.2.1 S.2.1 0 0 8))), 31, [(0, .ref t), (1, .ref u)], [.ref u])) rfl ?_
  refine Ev.get rfl (by have := xU.2.2.2.2; omega) (pu_n (by omega) (pu_n (by omega) xU.1)) rfl ?_
  refine Ev.go 2 (s' := ((pu (pu h (t + 1) (eI 8 (va_cpy U.1 S.1 0 0 8))) (t + 2) (eI 8 (va_cpy U.2.1 S.2.1 0 0 8))), 36, [(0, .ref t), (1, .ref u)], [.ref t, .int 0, .ref (u + 3)])) rfl ?_
  refine Ev.get rfl (by have := xS.2.2.2.2; omega) (pu_n (by omega) (pu_n (by omega) xS.1)) rfl ?_
  refine Ev.go 2 (s' := ((pu (pu h (t + 1) (eI 8 (va_cpy U.1 S.1 0 0 8))) (t + 2) (eI 8 (va_cpy U.2.1 S.2.1 0 0 8))), 42, [(0, .ref t), (1, .ref u)], [.int 8, .int 0, .ref (t + 3), .int 0, .ref (u + 3)])) rfl ?_
  refine Ev.cpy rfl rfl (by have := xU.2.2.2.2; omega) (by have := xS.2.2.2.2; omega) (pu_n (by omega) (pu_n (by omega) xU.2.2.2.1)) (pu_n (by omega) (pu_n (by omega) xS.2.2.2.1)) (by decide) (by decide) (by decide) (by decide) (by decide) (Nat.le_of_ble_eq_true rfl) ?_
  refine Ev.go 2 (s' := ((pu (pu (pu h (t + 1) (eI 8 (va_cpy U.1 S.1 0 0 8))) (t + 2) (eI 8 (va_cpy U.2.1 S.2.1 0 0 8))) (t + 3) (eI 8 (va_cpy U.2.2.1 S.2.2.1 0 0 8))), 47, [(0, .ref t), (1, .ref u)], [.ref u, .ref t])) rfl ?_
  refine Ev.get rfl (by have := xU.2.2.2.2; omega) (pu_n (by omega) (pu_n (by omega) (pu_n (by omega) xU.1))) rfl ?_
  refine Ev.put rfl rfl (by have := xS.2.2.2.2; omega) (pu_n (by omega) (pu_n (by omega) (pu_n (by omega) xS.1))) (Nat.le_of_ble_eq_true rfl) rfl rfl (fs' := [.ref (t + 1), .ref (t + 2), .ref (t + 3), .int U.2.2.2.1, .int S.2.2.2.2]) rfl ?_
  refine Ev.go 2 (s' := ((pu (pu (pu (pu h (t + 1) (eI 8 (va_cpy U.1 S.1 0 0 8))) (t + 2) (eI 8 (va_cpy U.2.1 S.2.1 0 0 8))) (t + 3) (eI 8 (va_cpy U.2.2.1 S.2.2.1 0 0 8))) t (eO 4 [.ref (t + 1), .ref (t + 2), .ref (t + 3), .int U.2.2.2.1, .int S.2.2.2.2])), 55, [(0, .ref t), (1, .ref u)], [.ref u, .ref t])) rfl ?_
  refine Ev.get rfl (by have := xU.2.2.2.2; omega) (pu_n (by omega) (pu_n (by omega) (pu_n (by omega) (pu_n (by omega) xU.1)))) rfl ?_
  refine Ev.put rfl rfl (by have := xS.2.2.2.2; omega) pu_s (Nat.le_of_ble_eq_true rfl) rfl rfl (fs' := [.ref (t + 1), .ref (t + 2), .ref (t + 3), .int U.2.2.2.1, .int U.2.2.2.2]) rfl ?_
  cases H
  exact Ev.ret rfl rfl rfl ⟨rfl, ⟨pu_s, (pu_n (by omega) (pu_n (by omega) (pu_n (by omega) (pu_n (by omega) pu_s)))), (pu_n (by omega) (pu_n (by omega) (pu_n (by omega) pu_s))), (pu_n (by omega) (pu_n (by omega) pu_s)), (by have := xS.2.2.2.2; omega)⟩, (fun k hk => by rw [pu_x (show k ≠ t from fun e => by have := hk; simp at this; omega)]; rw [pu_x (show k ≠ t from fun e => by have := hk; simp at this; omega)]; rw [pu_x (show k ≠ t + 3 from fun e => by have := hk; simp at this; omega)]; rw [pu_x (show k ≠ t + 2 from fun e => by have := hk; simp at this; omega)]; rw [pu_x (show k ≠ t + 1 from fun e => by have := hk; simp at this; omega)])⟩
def fX3_isRank (O : tO) (k : Int32) : Int32 := (if k < 0 then 0 else (if O.2.2.2.2.2.2.2 ≤ k then 0 else 1))
theorem spX3_isRank {d : Nat} {h : pH} {O : tO} (xO : isO h O) (k : Int32) : Ev d mX3_isRank (h, 0, [(0, .ref 15), (1, .int k)], []) (fun r h1 => r = some (.int (fX3_isRank O k)) ∧ h1 = h) := by
  refine Ev.go 1 (s' := (h, 1, [(0, .ref 15), (1, .int k)], [.int k])) rfl ?_
  refine Ev.if1 rfl (fun c1 => ?_) (fun c1 => ?_)
  · have c1 : k < 0 := c1
    refine Ev.go 1 (s' := (h, 17, [(0, .ref 15), (1, .int k)], [.int 0])) rfl ?_
    exact Ev.ret rfl rfl (p_retZ rfl) ⟨congrArg (fun z => some (Value.int z)) (by rw [fX3_isRank, if_pos c1]), rfl⟩
  · have c1 : ¬ (k < 0) := c1
    refine Ev.go 2 (s' := (h, 6, [(0, .ref 15), (1, .int k)], [.ref 15, .int k])) rfl ?_
    refine Ev.get rfl (by decide) xO.1 rfl ?_
    refine Ev.if2 rfl (fun c2 => ?_) (fun c2 => ?_)
    · have c2 : O.2.2.2.2.2.2.2 ≤ k := c2
      refine Ev.go 1 (s' := (h, 17, [(0, .ref 15), (1, .int k)], [.int 0])) rfl ?_
      exact Ev.ret rfl rfl (p_retZ rfl) ⟨congrArg (fun z => some (Value.int z)) (by rw [fX3_isRank, if_neg c1, if_pos c2]), rfl⟩
    · have c2 : ¬ (O.2.2.2.2.2.2.2 ≤ k) := c2
      refine Ev.go 2 (s' := (h, 17, [(0, .ref 15), (1, .int k)], [.int 1])) rfl ?_
      exact Ev.ret rfl rfl (p_retZ rfl) ⟨congrArg (fun z => some (Value.int z)) (by rw [fX3_isRank, if_neg c1, if_neg c2]), rfl⟩
def fX3_size (O : tO) : Int32 := O.2.2.2.2.2.2.2
theorem spX3_size {d : Nat} {h : pH} {O : tO} (xO : isO h O) : Ev d mX3_size (h, 0, [(0, .ref 15)], []) (fun r h1 => r = some (.int (fX3_size O)) ∧ h1 = h) := by
  refine Ev.go 1 (s' := (h, 1, [(0, .ref 15)], [.ref 15])) rfl ?_
  refine Ev.get rfl (by decide) xO.1 rfl ?_
  exact Ev.ret rfl rfl (p_retZ rfl) ⟨congrArg (fun z => some (Value.int z)) (by rw [fX3_size]), rfl⟩
def fX3_rankOf (O : tO) (v : Int32) : Option (Int32) := (if v < 0 then some (-1) else (if 24 ≤ v then some (-1) else (if v < 0 ∨ 24 ≤ v.toNatClampNeg then none else some (O.1 v.toNatClampNeg))))
theorem spX3_rankOf {d : Nat} {h : pH} {O : tO} (xO : isO h O) (v : Int32) {res : Int32} (H : fX3_rankOf O v = some res) : Ev d mX3_rankOf (h, 0, [(0, .ref 15), (1, .int v)], []) (fun r h1 => r = some (.int res) ∧ h1 = h) := by
  unfold fX3_rankOf at H
  refine Ev.go 1 (s' := (h, 1, [(0, .ref 15), (1, .int v)], [.int v])) rfl ?_
  refine Ev.if1 rfl (fun c1 => ?_) (fun c1 => ?_)
  · have c1 : v < 0 := c1
    rw [if_pos c1] at H
    refine Ev.go 1 (s' := (h, 20, [(0, .ref 15), (1, .int v)], [.int ((-1))])) rfl ?_
    cases H
    exact Ev.ret rfl rfl (p_retZ rfl) ⟨rfl, rfl⟩
  · have c1 : ¬ (v < 0) := c1
    rw [if_neg c1] at H
    refine Ev.go 2 (s' := (h, 7, [(0, .ref 15), (1, .int v)], [.int 24, .int v])) rfl ?_
    refine Ev.if2 rfl (fun c2 => ?_) (fun c2 => ?_)
    · have c2 : 24 ≤ v := c2
      rw [if_pos c2] at H
      refine Ev.go 1 (s' := (h, 20, [(0, .ref 15), (1, .int v)], [.int ((-1))])) rfl ?_
      cases H
      exact Ev.ret rfl rfl (p_retZ rfl) ⟨rfl, rfl⟩
    · have c2 : ¬ (24 ≤ v) := c2
      rw [if_neg c2] at H
      refine Ev.go 1 (s' := (h, 11, [(0, .ref 15), (1, .int v)], [.ref 15])) rfl ?_
      refine Ev.get rfl (by decide) xO.1 rfl ?_
      refine Ev.go 1 (s' := (h, 15, [(0, .ref 15), (1, .int v)], [.int v, .ref 16])) rfl ?_
      have v3 : vp_in v 24 := fun q => by rw [if_pos q] at H; cases H
      rw [if_neg v3] at H
      refine Ev.iald rfl (by decide) xO.2.1 v3 ?_
      refine Ev.go 1 (s' := (h, 20, [(0, .ref 15), (1, .int v)], [.int (O.1 v.toNatClampNeg)])) rfl ?_
      cases H
      exact Ev.ret rfl rfl (p_retZ rfl) ⟨rfl, rfl⟩
def fX3_nodeAt (O : tO) (k : Int32) : Option (Int32) := (if (fX3_isRank O k) = 0 then some (-1) else (if k < 0 ∨ 24 ≤ k.toNatClampNeg then none else some (O.2.1 k.toNatClampNeg)))
theorem spX3_nodeAt {d : Nat} {h : pH} {O : tO} (xO : isO h O) (k : Int32) {res : Int32} (H : fX3_nodeAt O k = some res) : Ev (d + 1) mX3_nodeAt (h, 0, [(0, .ref 15), (1, .int k)], []) (fun r h1 => r = some (.int res) ∧ h1 = h) := by
  unfold fX3_nodeAt at H
  refine Ev.go 2 (s' := (h, 2, [(0, .ref 15), (1, .int k)], [.int k, .ref 15])) rfl ?_
  refine Ev.callE rfl rfl rfl (p_argsV (by decide) xO.1 (Nat.le_of_ble_eq_true rfl)) rfl (Nat.le_of_ble_eq_true rfl) (spX3_isRank xO k) ?_
  refine Ev.if1 rfl (fun c1 => ?_) (fun c1 => ?_)
  · have c1 : (fX3_isRank O k) = 0 := c1
    rw [if_pos c1] at H
    refine Ev.go 1 (s' := (h, 18, [(0, .ref 15), (1, .int k)], [.int ((-1))])) rfl ?_
    cases H
    exact Ev.ret rfl rfl (p_retZ rfl) ⟨rfl, rfl⟩
  · have c1 : ¬ ((fX3_isRank O k) = 0) := c1
    rw [if_neg c1] at H
    refine Ev.go 1 (s' := (h, 9, [(0, .ref 15), (1, .int k)], [.ref 15])) rfl ?_
    refine Ev.get rfl (by decide) xO.1 rfl ?_
    refine Ev.go 1 (s' := (h, 13, [(0, .ref 15), (1, .int k)], [.int k, .ref 17])) rfl ?_
    have v2 : vp_in k 24 := fun q => by rw [if_pos q] at H; cases H
    rw [if_neg v2] at H
    refine Ev.iald rfl (by decide) xO.2.2.1 v2 ?_
    refine Ev.go 1 (s' := (h, 18, [(0, .ref 15), (1, .int k)], [.int (O.2.1 k.toNatClampNeg)])) rfl ?_
    cases H
    exact Ev.ret rfl rfl (p_retZ rfl) ⟨rfl, rfl⟩
def fX3_parentAt (O : tO) (k : Int32) : Option (Int32) := (if (fX3_isRank O k) = 0 then some (-1) else (if k < 0 ∨ 24 ≤ k.toNatClampNeg then none else some (O.2.2.1 k.toNatClampNeg)))
theorem spX3_parentAt {d : Nat} {h : pH} {O : tO} (xO : isO h O) (k : Int32) {res : Int32} (H : fX3_parentAt O k = some res) : Ev (d + 1) mX3_parentAt (h, 0, [(0, .ref 15), (1, .int k)], []) (fun r h1 => r = some (.int res) ∧ h1 = h) := by
  unfold fX3_parentAt at H
  refine Ev.go 2 (s' := (h, 2, [(0, .ref 15), (1, .int k)], [.int k, .ref 15])) rfl ?_
  refine Ev.callE rfl rfl rfl (p_argsV (by decide) xO.1 (Nat.le_of_ble_eq_true rfl)) rfl (Nat.le_of_ble_eq_true rfl) (spX3_isRank xO k) ?_
  refine Ev.if1 rfl (fun c1 => ?_) (fun c1 => ?_)
  · have c1 : (fX3_isRank O k) = 0 := c1
    rw [if_pos c1] at H
    refine Ev.go 1 (s' := (h, 18, [(0, .ref 15), (1, .int k)], [.int ((-1))])) rfl ?_
    cases H
    exact Ev.ret rfl rfl (p_retZ rfl) ⟨rfl, rfl⟩
  · have c1 : ¬ ((fX3_isRank O k) = 0) := c1
    rw [if_neg c1] at H
    refine Ev.go 1 (s' := (h, 9, [(0, .ref 15), (1, .int k)], [.ref 15])) rfl ?_
    refine Ev.get rfl (by decide) xO.1 rfl ?_
    refine Ev.go 1 (s' := (h, 13, [(0, .ref 15), (1, .int k)], [.int k, .ref 18])) rfl ?_
    have v2 : vp_in k 24 := fun q => by rw [if_pos q] at H; cases H
    rw [if_neg v2] at H
    refine Ev.iald rfl (by decide) xO.2.2.2.1 v2 ?_
    refine Ev.go 1 (s' := (h, 18, [(0, .ref 15), (1, .int k)], [.int (O.2.2.1 k.toNatClampNeg)])) rfl ?_
    cases H
    exact Ev.ret rfl rfl (p_retZ rfl) ⟨rfl, rfl⟩
def fX3_elderAt (O : tO) (k : Int32) : Option (Int32) := (if (fX3_isRank O k) = 0 then some (-1) else (if k < 0 ∨ 24 ≤ k.toNatClampNeg then none else some (O.2.2.2.1 k.toNatClampNeg)))
theorem spX3_elderAt {d : Nat} {h : pH} {O : tO} (xO : isO h O) (k : Int32) {res : Int32} (H : fX3_elderAt O k = some res) : Ev (d + 1) mX3_elderAt (h, 0, [(0, .ref 15), (1, .int k)], []) (fun r h1 => r = some (.int res) ∧ h1 = h) := by
  unfold fX3_elderAt at H
  refine Ev.go 2 (s' := (h, 2, [(0, .ref 15), (1, .int k)], [.int k, .ref 15])) rfl ?_
  refine Ev.callE rfl rfl rfl (p_argsV (by decide) xO.1 (Nat.le_of_ble_eq_true rfl)) rfl (Nat.le_of_ble_eq_true rfl) (spX3_isRank xO k) ?_
  refine Ev.if1 rfl (fun c1 => ?_) (fun c1 => ?_)
  · have c1 : (fX3_isRank O k) = 0 := c1
    rw [if_pos c1] at H
    refine Ev.go 1 (s' := (h, 18, [(0, .ref 15), (1, .int k)], [.int ((-1))])) rfl ?_
    cases H
    exact Ev.ret rfl rfl (p_retZ rfl) ⟨rfl, rfl⟩
  · have c1 : ¬ ((fX3_isRank O k) = 0) := c1
    rw [if_neg c1] at H
    refine Ev.go 1 (s' := (h, 9, [(0, .ref 15), (1, .int k)], [.ref 15])) rfl ?_
    refine Ev.get rfl (by decide) xO.1 rfl ?_
    refine Ev.go 1 (s' := (h, 13, [(0, .ref 15), (1, .int k)], [.int k, .ref 19])) rfl ?_
    have v2 : vp_in k 24 := fun q => by rw [if_pos q] at H; cases H
    rw [if_neg v2] at H
    refine Ev.iald rfl (by decide) xO.2.2.2.2.1 v2 ?_
    refine Ev.go 1 (s' := (h, 18, [(0, .ref 15), (1, .int k)], [.int (O.2.2.2.1 k.toNatClampNeg)])) rfl ?_
    cases H
    exact Ev.ret rfl rfl (p_retZ rfl) ⟨rfl, rfl⟩
def fX3_levelAt (O : tO) (k : Int32) : Option (Int32) := (if (fX3_isRank O k) = 0 then some 0 else (if k < 0 ∨ 24 ≤ k.toNatClampNeg then none else some (O.2.2.2.2.1 k.toNatClampNeg)))
theorem spX3_levelAt {d : Nat} {h : pH} {O : tO} (xO : isO h O) (k : Int32) {res : Int32} (H : fX3_levelAt O k = some res) : Ev (d + 1) mX3_levelAt (h, 0, [(0, .ref 15), (1, .int k)], []) (fun r h1 => r = some (.int res) ∧ h1 = h) := by
  unfold fX3_levelAt at H
  refine Ev.go 2 (s' := (h, 2, [(0, .ref 15), (1, .int k)], [.int k, .ref 15])) rfl ?_
  refine Ev.callE rfl rfl rfl (p_argsV (by decide) xO.1 (Nat.le_of_ble_eq_true rfl)) rfl (Nat.le_of_ble_eq_true rfl) (spX3_isRank xO k) ?_
  refine Ev.if1 rfl (fun c1 => ?_) (fun c1 => ?_)
  · have c1 : (fX3_isRank O k) = 0 := c1
    rw [if_pos c1] at H
    refine Ev.go 1 (s' := (h, 18, [(0, .ref 15), (1, .int k)], [.int 0])) rfl ?_
    cases H
    exact Ev.ret rfl rfl (p_retZ rfl) ⟨rfl, rfl⟩
  · have c1 : ¬ ((fX3_isRank O k) = 0) := c1
    rw [if_neg c1] at H
    refine Ev.go 1 (s' := (h, 9, [(0, .ref 15), (1, .int k)], [.ref 15])) rfl ?_
    refine Ev.get rfl (by decide) xO.1 rfl ?_
    refine Ev.go 1 (s' := (h, 13, [(0, .ref 15), (1, .int k)], [.int k, .ref 20])) rfl ?_
    have v2 : vp_in k 24 := fun q => by rw [if_pos q] at H; cases H
    rw [if_neg v2] at H
    refine Ev.iald rfl (by decide) xO.2.2.2.2.2.1 v2 ?_
    refine Ev.go 1 (s' := (h, 18, [(0, .ref 15), (1, .int k)], [.int (O.2.2.2.2.1 k.toNatClampNeg)])) rfl ?_
    cases H
    exact Ev.ret rfl rfl (p_retZ rfl) ⟨rfl, rfl⟩
def fX3_kidsAt (O : tO) (k : Int32) : Option (Int32) := (if (fX3_isRank O k) = 0 then some 0 else (if k < 0 ∨ 24 ≤ k.toNatClampNeg then none else some (O.2.2.2.2.2.1 k.toNatClampNeg)))
theorem spX3_kidsAt {d : Nat} {h : pH} {O : tO} (xO : isO h O) (k : Int32) {res : Int32} (H : fX3_kidsAt O k = some res) : Ev (d + 1) mX3_kidsAt (h, 0, [(0, .ref 15), (1, .int k)], []) (fun r h1 => r = some (.int res) ∧ h1 = h) := by
  unfold fX3_kidsAt at H
  refine Ev.go 2 (s' := (h, 2, [(0, .ref 15), (1, .int k)], [.int k, .ref 15])) rfl ?_
  refine Ev.callE rfl rfl rfl (p_argsV (by decide) xO.1 (Nat.le_of_ble_eq_true rfl)) rfl (Nat.le_of_ble_eq_true rfl) (spX3_isRank xO k) ?_
  refine Ev.if1 rfl (fun c1 => ?_) (fun c1 => ?_)
  · have c1 : (fX3_isRank O k) = 0 := c1
    rw [if_pos c1] at H
    refine Ev.go 1 (s' := (h, 18, [(0, .ref 15), (1, .int k)], [.int 0])) rfl ?_
    cases H
    exact Ev.ret rfl rfl (p_retZ rfl) ⟨rfl, rfl⟩
  · have c1 : ¬ ((fX3_isRank O k) = 0) := c1
    rw [if_neg c1] at H
    refine Ev.go 1 (s' := (h, 9, [(0, .ref 15), (1, .int k)], [.ref 15])) rfl ?_
    refine Ev.get rfl (by decide) xO.1 rfl ?_
    refine Ev.go 1 (s' := (h, 13, [(0, .ref 15), (1, .int k)], [.int k, .ref 21])) rfl ?_
    have v2 : vp_in k 24 := fun q => by rw [if_pos q] at H; cases H
    rw [if_neg v2] at H
    refine Ev.iald rfl (by decide) xO.2.2.2.2.2.2.1 v2 ?_
    refine Ev.go 1 (s' := (h, 18, [(0, .ref 15), (1, .int k)], [.int (O.2.2.2.2.2.1 k.toNatClampNeg)])) rfl ?_
    cases H
    exact Ev.ret rfl rfl (p_retZ rfl) ⟨rfl, rfl⟩
def fX3_belowAt (O : tO) (k : Int32) : Option (Int32) := (if (fX3_isRank O k) = 0 then some 0 else (if k < 0 ∨ 24 ≤ k.toNatClampNeg then none else some (O.2.2.2.2.2.2.1 k.toNatClampNeg)))
theorem spX3_belowAt {d : Nat} {h : pH} {O : tO} (xO : isO h O) (k : Int32) {res : Int32} (H : fX3_belowAt O k = some res) : Ev (d + 1) mX3_belowAt (h, 0, [(0, .ref 15), (1, .int k)], []) (fun r h1 => r = some (.int res) ∧ h1 = h) := by
  unfold fX3_belowAt at H
  refine Ev.go 2 (s' := (h, 2, [(0, .ref 15), (1, .int k)], [.int k, .ref 15])) rfl ?_
  refine Ev.callE rfl rfl rfl (p_argsV (by decide) xO.1 (Nat.le_of_ble_eq_true rfl)) rfl (Nat.le_of_ble_eq_true rfl) (spX3_isRank xO k) ?_
  refine Ev.if1 rfl (fun c1 => ?_) (fun c1 => ?_)
  · have c1 : (fX3_isRank O k) = 0 := c1
    rw [if_pos c1] at H
    refine Ev.go 1 (s' := (h, 18, [(0, .ref 15), (1, .int k)], [.int 0])) rfl ?_
    cases H
    exact Ev.ret rfl rfl (p_retZ rfl) ⟨rfl, rfl⟩
  · have c1 : ¬ ((fX3_isRank O k) = 0) := c1
    rw [if_neg c1] at H
    refine Ev.go 1 (s' := (h, 9, [(0, .ref 15), (1, .int k)], [.ref 15])) rfl ?_
    refine Ev.get rfl (by decide) xO.1 rfl ?_
    refine Ev.go 1 (s' := (h, 13, [(0, .ref 15), (1, .int k)], [.int k, .ref 22])) rfl ?_
    have v2 : vp_in k 24 := fun q => by rw [if_pos q] at H; cases H
    rw [if_neg v2] at H
    refine Ev.iald rfl (by decide) xO.2.2.2.2.2.2.2 v2 ?_
    refine Ev.go 1 (s' := (h, 18, [(0, .ref 15), (1, .int k)], [.int (O.2.2.2.2.2.2.1 k.toNatClampNeg)])) rfl ?_
    cases H
    exact Ev.ret rfl rfl (p_retZ rfl) ⟨rfl, rfl⟩
def fX3_spans (O : tO) (k : Int32) (other : Int32) : Option (Int32) := (if other < k then some 0 else ((fX3_belowAt O k).bind fun y3 => (if (k + y3) < other then some 0 else some 1)))
theorem spX3_spans {d : Nat} {h : pH} {O : tO} (xO : isO h O) (k : Int32) (other : Int32) {res : Int32} (H : fX3_spans O k other = some res) : Ev (d + 2) mX3_spans (h, 0, [(0, .ref 15), (1, .int k), (2, .int other)], []) (fun r h1 => r = some (.int res) ∧ h1 = h) := by
  unfold fX3_spans at H
  refine Ev.go 2 (s' := (h, 2, [(0, .ref 15), (1, .int k), (2, .int other)], [.int k, .int other])) rfl ?_
  refine Ev.if2 rfl (fun c1 => ?_) (fun c1 => ?_)
  · have c1 : other < k := c1
    rw [if_pos c1] at H
    refine Ev.go 1 (s' := (h, 21, [(0, .ref 15), (1, .int k), (2, .int other)], [.int 0])) rfl ?_
    cases H
    exact Ev.ret rfl rfl (p_retZ rfl) ⟨rfl, rfl⟩
  · have c1 : ¬ (other < k) := c1
    rw [if_neg c1] at H
    refine Ev.go 4 (s' := (h, 9, [(0, .ref 15), (1, .int k), (2, .int other)], [.int k, .ref 15, .int k, .int other])) rfl ?_
    obtain ⟨y3, e2, H⟩ := Option.bind_eq_some_iff.mp H
    refine Ev.callE rfl rfl rfl (p_argsV (by decide) xO.1 (Nat.le_of_ble_eq_true rfl)) rfl (Nat.le_of_ble_eq_true rfl) (spX3_belowAt xO k e2) ?_
    refine Ev.go 1 (s' := (h, 13, [(0, .ref 15), (1, .int k), (2, .int other)], [.int (k + y3), .int other])) rfl ?_
    refine Ev.if2 rfl (fun c4 => ?_) (fun c4 => ?_)
    · have c4 : (k + y3) < other := c4
      rw [if_pos c4] at H
      refine Ev.go 1 (s' := (h, 21, [(0, .ref 15), (1, .int k), (2, .int other)], [.int 0])) rfl ?_
      cases H
      exact Ev.ret rfl rfl (p_retZ rfl) ⟨rfl, rfl⟩
    · have c4 : ¬ ((k + y3) < other) := c4
      rw [if_neg c4] at H
      refine Ev.go 2 (s' := (h, 21, [(0, .ref 15), (1, .int k), (2, .int other)], [.int 1])) rfl ?_
      cases H
      exact Ev.ret rfl rfl (p_retZ rfl) ⟨rfl, rfl⟩
def lX3_bitsFrom_4 (n : Nat) (O : tO) : Nat → Int32 → Int32 → Int32 → Option (Int32)
  | 0, _, _, _ => none
  | m + 1, x1, x2, x3 => ((fX3_belowAt O x1).bind fun y2 => (if (x1 + y2) < x3 then some x2 else (if (fX3_isRank O x3) = 0 then some x2 else (if x3 < 0 ∨ 24 ≤ x3.toNatClampNeg then none else lX3_bitsFrom_4 n O m x1 (x2 ||| (1 <<< ((O.2.1 x3.toNatClampNeg) &&& 31))) (x3 + 1)))))
theorem llX3_bitsFrom_4 {d n : Nat} {O : tO} : ∀ (m : Nat) (h : pH) (x1 : Int32) (x2 : Int32) (x3 : Int32) (res : Int32), lX3_bitsFrom_4 n O m x1 x2 x3 = some res → isO h O → Ev (d + 2) mX3_bitsFrom (h, 4, [(0, .ref 15), (1, .int x1), (2, .int x2), (3, .int x3)], []) (fun r h1 => r = some (.int res) ∧ h1 = h)
  | 0, h, x1, x2, x3, res, H, _ => by cases H
  | m + 1, h, x1, x2, x3, res, H, xO => by
    have H : ((fX3_belowAt O x1).bind fun y2 => (if (x1 + y2) < x3 then some x2 else (if (fX3_isRank O x3) = 0 then some x2 else (if x3 < 0 ∨ 24 ≤ x3.toNatClampNeg then none else lX3_bitsFrom_4 n O m x1 (x2 ||| (1 <<< ((O.2.1 x3.toNatClampNeg) &&& 31))) (x3 + 1))))) = some res := H
    refine Ev.go 4 (s' := (h, 8, [(0, .ref 15), (1, .int x1), (2, .int x2), (3, .int x3)], [.int x1, .ref 15, .int x1, .int x3])) rfl ?_
    obtain ⟨y2, e1, H⟩ := Option.bind_eq_some_iff.mp H
    refine Ev.callE rfl rfl rfl (p_argsV (by decide) xO.1 (Nat.le_of_ble_eq_true rfl)) rfl (Nat.le_of_ble_eq_true rfl) (spX3_belowAt xO x1 e1) ?_
    refine Ev.go 1 (s' := (h, 12, [(0, .ref 15), (1, .int x1), (2, .int x2), (3, .int x3)], [.int (x1 + y2), .int x3])) rfl ?_
    refine Ev.if2 rfl (fun c3 => ?_) (fun c3 => ?_)
    · have c3 : (x1 + y2) < x3 := c3
      rw [if_pos c3] at H
      refine Ev.go 1 (s' := (h, 41, [(0, .ref 15), (1, .int x1), (2, .int x2), (3, .int x3)], [.int x2])) rfl ?_
      cases H
      exact Ev.ret rfl rfl (p_retZ rfl) ⟨rfl, rfl⟩
    · have c3 : ¬ ((x1 + y2) < x3) := c3
      rw [if_neg c3] at H
      refine Ev.go 2 (s' := (h, 17, [(0, .ref 15), (1, .int x1), (2, .int x2), (3, .int x3)], [.int x3, .ref 15])) rfl ?_
      refine Ev.callE rfl rfl rfl (p_argsV (by decide) xO.1 (Nat.le_of_ble_eq_true rfl)) rfl (Nat.le_of_ble_eq_true rfl) (spX3_isRank xO x3) ?_
      refine Ev.if1 rfl (fun c4 => ?_) (fun c4 => ?_)
      · have c4 : (fX3_isRank O x3) = 0 := c4
        rw [if_pos c4] at H
        refine Ev.go 1 (s' := (h, 41, [(0, .ref 15), (1, .int x1), (2, .int x2), (3, .int x3)], [.int x2])) rfl ?_
        cases H
        exact Ev.ret rfl rfl (p_retZ rfl) ⟨rfl, rfl⟩
      · have c4 : ¬ ((fX3_isRank O x3) = 0) := c4
        rw [if_neg c4] at H
        refine Ev.go 3 (s' := (h, 26, [(0, .ref 15), (1, .int x1), (2, .int x2), (3, .int x3)], [.ref 15, .int 1, .int x2])) rfl ?_
        refine Ev.get rfl (by decide) xO.1 rfl ?_
        refine Ev.go 1 (s' := (h, 30, [(0, .ref 15), (1, .int x1), (2, .int x2), (3, .int x3)], [.int x3, .ref 17, .int 1, .int x2])) rfl ?_
        have v5 : vp_in x3 24 := fun q => by rw [if_pos q] at H; cases H
        rw [if_neg v5] at H
        refine Ev.iald rfl (by decide) xO.2.2.1 v5 ?_
        refine Ev.go 5 (s' := (h, 4, [(0, .ref 15), (1, .int x1), (2, .int (x2 ||| (1 <<< ((O.2.1 x3.toNatClampNeg) &&& 31)))), (3, .int (x3 + 1))], [])) rfl ?_
        refine Ev.live rfl (lv' := [(0, .ref 15), (1, .int x1), (2, .int (x2 ||| (1 <<< ((O.2.1 x3.toNatClampNeg) &&& 31)))), (3, .int (x3 + 1))]) rfl ?_
        exact llX3_bitsFrom_4 m h x1 (x2 ||| (1 <<< ((O.2.1 x3.toNatClampNeg) &&& 31))) (x3 + 1) _ H xO
def fX3_bitsFrom (n : Nat) (O : tO) (rank : Int32) : Option (Int32) := lX3_bitsFrom_4 n O n rank 0 rank
theorem spX3_bitsFrom {d n : Nat} {h : pH} {O : tO} (xO : isO h O) (rank : Int32) {res : Int32} (H : fX3_bitsFrom n O rank = some res) : Ev (d + 2) mX3_bitsFrom (h, 0, [(0, .ref 15), (1, .int rank)], []) (fun r h1 => r = some (.int res) ∧ h1 = h) := by
  unfold fX3_bitsFrom at H
  refine Ev.go 4 (s' := (h, 4, [(0, .ref 15), (1, .int rank), (2, .int 0), (3, .int rank)], [])) rfl ?_
  refine Ev.live rfl (lv' := [(0, .ref 15), (1, .int rank), (2, .int 0), (3, .int rank)]) rfl ?_
  exact llX3_bitsFrom_4 n h rank 0 rank _ H xO
def lX3_mostLevels_4 (n : Nat) (O : tO) : Nat → Int32 → Int32 → Option (Int32)
  | 0, _, _ => none
  | m + 1, x1, x2 => (if O.2.2.2.2.2.2.2 ≤ x2 then some x1 else (if 24 ≤ x2 then some x1 else (if x2 < 0 ∨ 24 ≤ x2.toNatClampNeg then none else lX3_mostLevels_4 n O m (if x1 < (O.2.2.2.2.1 x2.toNatClampNeg) then (O.2.2.2.2.1 x2.toNatClampNeg) else x1) (x2 + 1))))
theorem llX3_mostLevels_4 {d n : Nat} {O : tO} : ∀ (m : Nat) (h : pH) (x1 : Int32) (x2 : Int32) (res : Int32), lX3_mostLevels_4 n O m x1 x2 = some res → isO h O → Ev (d + 1) mX3_mostLevels (h, 4, [(0, .ref 15), (1, .int x1), (2, .int x2)], []) (fun r h1 => r = some (.int res) ∧ h1 = h)
  | 0, h, x1, x2, res, H, _ => by cases H
  | m + 1, h, x1, x2, res, H, xO => by
    have H : (if O.2.2.2.2.2.2.2 ≤ x2 then some x1 else (if 24 ≤ x2 then some x1 else (if x2 < 0 ∨ 24 ≤ x2.toNatClampNeg then none else lX3_mostLevels_4 n O m (if x1 < (O.2.2.2.2.1 x2.toNatClampNeg) then (O.2.2.2.2.1 x2.toNatClampNeg) else x1) (x2 + 1)))) = some res := H
    refine Ev.go 2 (s' := (h, 6, [(0, .ref 15), (1, .int x1), (2, .int x2)], [.ref 15, .int x2])) rfl ?_
    refine Ev.get rfl (by decide) xO.1 rfl ?_
    refine Ev.if2 rfl (fun c1 => ?_) (fun c1 => ?_)
    · have c1 : O.2.2.2.2.2.2.2 ≤ x2 := c1
      rw [if_pos c1] at H
      refine Ev.go 1 (s' := (h, 36, [(0, .ref 15), (1, .int x1), (2, .int x2)], [.int x1])) rfl ?_
      cases H
      exact Ev.ret rfl rfl (p_retZ rfl) ⟨rfl, rfl⟩
    · have c1 : ¬ (O.2.2.2.2.2.2.2 ≤ x2) := c1
      rw [if_neg c1] at H
      refine Ev.go 2 (s' := (h, 15, [(0, .ref 15), (1, .int x1), (2, .int x2)], [.int 24, .int x2])) rfl ?_
      refine Ev.if2 rfl (fun c2 => ?_) (fun c2 => ?_)
      · have c2 : 24 ≤ x2 := c2
        rw [if_pos c2] at H
        refine Ev.go 1 (s' := (h, 36, [(0, .ref 15), (1, .int x1), (2, .int x2)], [.int x1])) rfl ?_
        cases H
        exact Ev.ret rfl rfl (p_retZ rfl) ⟨rfl, rfl⟩
      · have c2 : ¬ (24 ≤ x2) := c2
        rw [if_neg c2] at H
        refine Ev.go 2 (s' := (h, 20, [(0, .ref 15), (1, .int x1), (2, .int x2)], [.ref 15, .int x1])) rfl ?_
        refine Ev.get rfl (by decide) xO.1 rfl ?_
        refine Ev.go 1 (s' := (h, 24, [(0, .ref 15), (1, .int x1), (2, .int x2)], [.int x2, .ref 20, .int x1])) rfl ?_
        have v3 : vp_in x2 24 := fun q => by rw [if_pos q] at H; cases H
        rw [if_neg v3] at H
        refine Ev.iald rfl (by decide) xO.2.2.2.2.2.1 v3 ?_
        refine Ev.mmax rfl rfl (Nat.le_of_ble_eq_true rfl) ?_
        refine Ev.go 3 (s' := (h, 4, [(0, .ref 15), (1, .int (if x1 < (O.2.2.2.2.1 x2.toNatClampNeg) then (O.2.2.2.2.1 x2.toNatClampNeg) else x1)), (2, .int (x2 + 1))], [])) rfl ?_
        refine Ev.live rfl (lv' := [(0, .ref 15), (1, .int (if x1 < (O.2.2.2.2.1 x2.toNatClampNeg) then (O.2.2.2.2.1 x2.toNatClampNeg) else x1)), (2, .int (x2 + 1))]) rfl ?_
        exact llX3_mostLevels_4 m h (if x1 < (O.2.2.2.2.1 x2.toNatClampNeg) then (O.2.2.2.2.1 x2.toNatClampNeg) else x1) (x2 + 1) _ H xO
def fX3_mostLevels (n : Nat) (O : tO) : Option (Int32) := lX3_mostLevels_4 n O n 0 0
theorem spX3_mostLevels {d n : Nat} {h : pH} {O : tO} (xO : isO h O) {res : Int32} (H : fX3_mostLevels n O = some res) : Ev (d + 1) mX3_mostLevels (h, 0, [(0, .ref 15)], []) (fun r h1 => r = some (.int res) ∧ h1 = h) := by
  unfold fX3_mostLevels at H
  refine Ev.go 4 (s' := (h, 4, [(0, .ref 15), (1, .int 0), (2, .int 0)], [])) rfl ?_
  refine Ev.live rfl (lv' := [(0, .ref 15), (1, .int 0), (2, .int 0)]) rfl ?_
  exact llX3_mostLevels_4 n h 0 0 _ H xO
def fX3_take (O : tO) (v : Int32) (parent : Int32) (elder : Int32) : Option (tO) := (if 24 ≤ O.2.2.2.2.2.2.2 then some O else (if v < 0 then some O else (if v < 24 then (if v < 0 ∨ 24 ≤ v.toNatClampNeg then none else (if O.2.2.2.2.2.2.2 < 0 ∨ 24 ≤ O.2.2.2.2.2.2.2.toNatClampNeg then none else (if 0 ≤ parent then ((fX3_levelAt (upd O.1 v.toNatClampNeg O.2.2.2.2.2.2.2, upd O.2.1 O.2.2.2.2.2.2.2.toNatClampNeg v, upd O.2.2.1 O.2.2.2.2.2.2.2.toNatClampNeg parent, upd O.2.2.2.1 O.2.2.2.2.2.2.2.toNatClampNeg elder, O.2.2.2.2.1, O.2.2.2.2.2.1, O.2.2.2.2.2.2.1, O.2.2.2.2.2.2.2) parent).bind fun y8 => some (upd O.1 v.toNatClampNeg O.2.2.2.2.2.2.2, upd O.2.1 O.2.2.2.2.2.2.2.toNatClampNeg v, upd O.2.2.1 O.2.2.2.2.2.2.2.toNatClampNeg parent, upd O.2.2.2.1 O.2.2.2.2.2.2.2.toNatClampNeg elder, upd O.2.2.2.2.1 O.2.2.2.2.2.2.2.toNatClampNeg (y8 + 1), upd O.2.2.2.2.2.1 O.2.2.2.2.2.2.2.toNatClampNeg 0, upd O.2.2.2.2.2.2.1 O.2.2.2.2.2.2.2.toNatClampNeg 0, O.2.2.2.2.2.2.2 + 1)) else some (upd O.1 v.toNatClampNeg O.2.2.2.2.2.2.2, upd O.2.1 O.2.2.2.2.2.2.2.toNatClampNeg v, upd O.2.2.1 O.2.2.2.2.2.2.2.toNatClampNeg parent, upd O.2.2.2.1 O.2.2.2.2.2.2.2.toNatClampNeg elder, upd O.2.2.2.2.1 O.2.2.2.2.2.2.2.toNatClampNeg 0, upd O.2.2.2.2.2.1 O.2.2.2.2.2.2.2.toNatClampNeg 0, upd O.2.2.2.2.2.2.1 O.2.2.2.2.2.2.2.toNatClampNeg 0, O.2.2.2.2.2.2.2 + 1)))) else some O)))
theorem spX3_take {d : Nat} {h : pH} {O : tO} (xO : isO h O) (v : Int32) (parent : Int32) (elder : Int32) {res : tO} (H : fX3_take O v parent elder = some res) : Ev (d + 2) mX3_take (h, 0, [(0, .ref 15), (1, .int v), (2, .int parent), (3, .int elder)], []) (fun r h1 => r = none ∧ isO h1 res ∧ fr [(15, 23)] h h1) := by
  unfold fX3_take at H
  refine Ev.go 1 (s' := (h, 1, [(0, .ref 15), (1, .int v), (2, .int parent), (3, .int elder)], [.ref 15])) rfl ?_
  refine Ev.get rfl (by decide) xO.1 rfl ?_
  refine Ev.go 1 (s' := (h, 6, [(0, .ref 15), (1, .int v), (2, .int parent), (3, .int elder)], [.int 24, .int O.2.2.2.2.2.2.2])) rfl ?_
  refine Ev.if2 rfl (fun c1 => ?_) (fun c1 => ?_)
  · have c1 : 24 ≤ O.2.2.2.2.2.2.2 := c1
    rw [if_pos c1] at H
    cases H
    exact Ev.ret rfl rfl rfl ⟨rfl, xO, (fun k _ => rfl)⟩
  · have c1 : ¬ (24 ≤ O.2.2.2.2.2.2.2) := c1
    rw [if_neg c1] at H
    refine Ev.go 1 (s' := (h, 10, [(0, .ref 15), (1, .int v), (2, .int parent), (3, .int elder)], [.int v])) rfl ?_
    refine Ev.if1 rfl (fun c2 => ?_) (fun c2 => ?_)
    · have c2 : v < 0 := c2
      rw [if_pos c2] at H
      cases H
      exact Ev.ret rfl rfl rfl ⟨rfl, xO, (fun k _ => rfl)⟩
    · have c2 : ¬ (v < 0) := c2
      rw [if_neg c2] at H
      refine Ev.go 2 (s' := (h, 16, [(0, .ref 15), (1, .int v), (2, .int parent), (3, .int elder)], [.int 24, .int v])) rfl ?_
      refine Ev.if2 rfl (fun c3 => ?_) (fun c3 => ?_)
      · have c3 : v < 24 := c3
        rw [if_pos c3] at H
        refine Ev.go 1 (s' := (h, 21, [(0, .ref 15), (1, .int v), (2, .int parent), (3, .int elder)], [.ref 15])) rfl ?_
        refine Ev.get rfl (by decide) xO.1 rfl ?_
        refine Ev.go 2 (s' := (h, 26, [(0, .ref 15), (1, .int v), (2, .int parent), (3, .int elder)], [.ref 15, .int v, .ref 16])) rfl ?_
        refine Ev.get rfl (by decide) xO.1 rfl ?_
        have v4 : vp_in v 24 := fun q => by rw [if_pos q] at H; cases H
        rw [if_neg v4] at H
        refine Ev.iast rfl (by decide) xO.2.1 v4 ?_
        refine Ev.go 1 (s' := ((pu h 16 (eI 24 (upd O.1 v.toNatClampNeg O.2.2.2.2.2.2.2))), 31, [(0, .ref 15), (1, .int v), (2, .int parent), (3, .int elder)], [.ref 15])) rfl ?_
        refine Ev.get rfl (by decide) (pu_n (by decide) xO.1) rfl ?_
        refine Ev.go 1 (s' := ((pu h 16 (eI 24 (upd O.1 v.toNatClampNeg O.2.2.2.2.2.2.2))), 35, [(0, .ref 15), (1, .int v), (2, .int parent), (3, .int elder)], [.ref 15, .ref 17])) rfl ?_
        refine Ev.get rfl (by decide) (pu_n (by decide) xO.1) rfl ?_
        refine Ev.go 1 (s' := ((pu h 16 (eI 24 (upd O.1 v.toNatClampNeg O.2.2.2.2.2.2.2))), 39, [(0, .ref 15), (1, .int v), (2, .int parent), (3, .int elder)], [.int v, .int O.2.2.2.2.2.2.2, .ref 17])) rfl ?_
        have v5 : vp_in O.2.2.2.2.2.2.2 24 := fun q => by rw [if_pos q] at H; cases H
        rw [if_neg v5] at H
        refine Ev.iast rfl (by decide) (pu_n (by decide) xO.2.2.1) v5 ?_
        refine Ev.go 1 (s' := ((pu (pu h 16 (eI 24 (upd O.1 v.toNatClampNeg O.2.2.2.2.2.2.2))) 17 (eI 24 (upd O.2.1 O.2.2.2.2.2.2.2.toNatClampNeg v))), 41, [(0, .ref 15), (1, .int v), (2, .int parent), (3, .int elder)], [.ref 15])) rfl ?_
        refine Ev.get rfl (by decide) (pu_n (by decide) (pu_n (by decide) xO.1)) rfl ?_
        refine Ev.go 1 (s' := ((pu (pu h 16 (eI 24 (upd O.1 v.toNatClampNeg O.2.2.2.2.2.2.2))) 17 (eI 24 (upd O.2.1 O.2.2.2.2.2.2.2.toNatClampNeg v))), 45, [(0, .ref 15), (1, .int v), (2, .int parent), (3, .int elder)], [.ref 15, .ref 18])) rfl ?_
        refine Ev.get rfl (by decide) (pu_n (by decide) (pu_n (by decide) xO.1)) rfl ?_
        refine Ev.go 1 (s' := ((pu (pu h 16 (eI 24 (upd O.1 v.toNatClampNeg O.2.2.2.2.2.2.2))) 17 (eI 24 (upd O.2.1 O.2.2.2.2.2.2.2.toNatClampNeg v))), 49, [(0, .ref 15), (1, .int v), (2, .int parent), (3, .int elder)], [.int parent, .int O.2.2.2.2.2.2.2, .ref 18])) rfl ?_
        refine Ev.iast rfl (by decide) (pu_n (by decide) (pu_n (by decide) xO.2.2.2.1)) v5 ?_
        refine Ev.go 1 (s' := ((pu (pu (pu h 16 (eI 24 (upd O.1 v.toNatClampNeg O.2.2.2.2.2.2.2))) 17 (eI 24 (upd O.2.1 O.2.2.2.2.2.2.2.toNatClampNeg v))) 18 (eI 24 (upd O.2.2.1 O.2.2.2.2.2.2.2.toNatClampNeg parent))), 51, [(0, .ref 15), (1, .int v), (2, .int parent), (3, .int elder)], [.ref 15])) rfl ?_
        refine Ev.get rfl (by decide) (pu_n (by decide) (pu_n (by decide) (pu_n (by decide) xO.1))) rfl ?_
        refine Ev.go 1 (s' := ((pu (pu (pu h 16 (eI 24 (upd O.1 v.toNatClampNeg O.2.2.2.2.2.2.2))) 17 (eI 24 (upd O.2.1 O.2.2.2.2.2.2.2.toNatClampNeg v))) 18 (eI 24 (upd O.2.2.1 O.2.2.2.2.2.2.2.toNatClampNeg parent))), 55, [(0, .ref 15), (1, .int v), (2, .int parent), (3, .int elder)], [.ref 15, .ref 19])) rfl ?_
        refine Ev.get rfl (by decide) (pu_n (by decide) (pu_n (by decide) (pu_n (by decide) xO.1))) rfl ?_
        refine Ev.go 1 (s' := ((pu (pu (pu h 16 (eI 24 (upd O.1 v.toNatClampNeg O.2.2.2.2.2.2.2))) 17 (eI 24 (upd O.2.1 O.2.2.2.2.2.2.2.toNatClampNeg v))) 18 (eI 24 (upd O.2.2.1 O.2.2.2.2.2.2.2.toNatClampNeg parent))), 59, [(0, .ref 15), (1, .int v), (2, .int parent), (3, .int elder)], [.int elder, .int O.2.2.2.2.2.2.2, .ref 19])) rfl ?_
        refine Ev.iast rfl (by decide) (pu_n (by decide) (pu_n (by decide) (pu_n (by decide) xO.2.2.2.2.1))) v5 ?_
        refine Ev.go 1 (s' := ((pu (pu (pu (pu h 16 (eI 24 (upd O.1 v.toNatClampNeg O.2.2.2.2.2.2.2))) 17 (eI 24 (upd O.2.1 O.2.2.2.2.2.2.2.toNatClampNeg v))) 18 (eI 24 (upd O.2.2.1 O.2.2.2.2.2.2.2.toNatClampNeg parent))) 19 (eI 24 (upd O.2.2.2.1 O.2.2.2.2.2.2.2.toNatClampNeg elder))), 61, [(0, .ref 15), (1, .int v), (2, .int parent), (3, .int elder)], [.ref 15])) rfl ?_
        refine Ev.get rfl (by decide) (pu_n (by decide) (pu_n (by decide) (pu_n (by decide) (pu_n (by decide) xO.1)))) rfl ?_
        refine Ev.go 1 (s' := ((pu (pu (pu (pu h 16 (eI 24 (upd O.1 v.toNatClampNeg O.2.2.2.2.2.2.2))) 17 (eI 24 (upd O.2.1 O.2.2.2.2.2.2.2.toNatClampNeg v))) 18 (eI 24 (upd O.2.2.1 O.2.2.2.2.2.2.2.toNatClampNeg parent))) 19 (eI 24 (upd O.2.2.2.1 O.2.2.2.2.2.2.2.toNatClampNeg elder))), 65, [(0, .ref 15), (1, .int v), (2, .int parent), (3, .int elder)], [.ref 15, .ref 20])) rfl ?_
        refine Ev.get rfl (by decide) (pu_n (by decide) (pu_n (by decide) (pu_n (by decide) (pu_n (by decide) xO.1)))) rfl ?_
        refine Ev.go 1 (s' := ((pu (pu (pu (pu h 16 (eI 24 (upd O.1 v.toNatClampNeg O.2.2.2.2.2.2.2))) 17 (eI 24 (upd O.2.1 O.2.2.2.2.2.2.2.toNatClampNeg v))) 18 (eI 24 (upd O.2.2.1 O.2.2.2.2.2.2.2.toNatClampNeg parent))) 19 (eI 24 (upd O.2.2.2.1 O.2.2.2.2.2.2.2.toNatClampNeg elder))), 69, [(0, .ref 15), (1, .int v), (2, .int parent), (3, .int elder)], [.int parent, .int O.2.2.2.2.2.2.2, .ref 20])) rfl ?_
        refine Ev.if1 rfl (fun c6 => ?_) (fun c6 => ?_)
        · have c6 : 0 ≤ parent := c6
          rw [if_pos c6] at H
          refine Ev.go 2 (s' := ((pu (pu (pu (pu h 16 (eI 24 (upd O.1 v.toNatClampNeg O.2.2.2.2.2.2.2))) 17 (eI 24 (upd O.2.1 O.2.2.2.2.2.2.2.toNatClampNeg v))) 18 (eI 24 (upd O.2.2.1 O.2.2.2.2.2.2.2.toNatClampNeg parent))) 19 (eI 24 (upd O.2.2.2.1 O.2.2.2.2.2.2.2.toNatClampNeg elder))), 78, [(0, .ref 15), (1, .int v), (2, .int parent), (3, .int elder)], [.int parent, .ref 15, .int O.2.2.2.2.2.2.2, .ref 20])) rfl ?_
          obtain ⟨y8, e7, H⟩ := Option.bind_eq_some_iff.mp H
          refine Ev.callE rfl rfl rfl (p_argsV (by decide) (pu_n (by decide) (pu_n (by decide) (pu_n (by decide) (pu_n (by decide) xO.1)))) (Nat.le_of_ble_eq_true rfl)) rfl (Nat.le_of_ble_eq_true rfl) (spX3_levelAt (h := (pu (pu (pu (pu h 16 (eI 24 (upd O.1 v.toNatClampNeg O.2.2.2.2.2.2.2))) 17 (eI 24 (upd O.2.1 O.2.2.2.2.2.2.2.toNatClampNeg v))) 18 (eI 24 (upd O.2.2.1 O.2.2.2.2.2.2.2.toNatClampNeg parent))) 19 (eI 24 (upd O.2.2.2.1 O.2.2.2.2.2.2.2.toNatClampNeg elder)))) (O := (upd O.1 v.toNatClampNeg O.2.2.2.2.2.2.2, upd O.2.1 O.2.2.2.2.2.2.2.toNatClampNeg v, upd O.2.2.1 O.2.2.2.2.2.2.2.toNatClampNeg parent, upd O.2.2.2.1 O.2.2.2.2.2.2.2.toNatClampNeg elder, O.2.2.2.2.1, O.2.2.2.2.2.1, O.2.2.2.2.2.2.1, O.2.2.2.2.2.2.2)) ⟨(pu_n (by decide) (pu_n (by decide) (pu_n (by decide) (pu_n (by decide) xO.1)))), (pu_n (by decide) (pu_n (by decide) (pu_n (by decide) pu_s))), (pu_n (by decide) (pu_n (by decide) pu_s)), (pu_n (by decide) pu_s), pu_s, (pu_n (by decide) (pu_n (by decide) (pu_n (by decide) (pu_n (by decide) xO.2.2.2.2.2.1)))), (pu_n (by decide) (pu_n (by decide) (pu_n (by decide) (pu_n (by decide) xO.2.2.2.2.2.2.1)))), (pu_n (by decide) (pu_n (by decide) (pu_n (by decide) (pu_n (by decide) xO.2.2.2.2.2.2.2))))⟩ parent e7) ?_
          refine Ev.go 2 (s' := ((pu (pu (pu (pu h 16 (eI 24 (upd O.1 v.toNatClampNeg O.2.2.2.2.2.2.2))) 17 (eI 24 (upd O.2.1 O.2.2.2.2.2.2.2.toNatClampNeg v))) 18 (eI 24 (upd O.2.2.1 O.2.2.2.2.2.2.2.toNatClampNeg parent))) 19 (eI 24 (upd O.2.2.2.1 O.2.2.2.2.2.2.2.toNatClampNeg elder))), 83, [(0, .ref 15), (1, .int v), (2, .int parent), (3, .int elder)], [.int (y8 + 1), .int O.2.2.2.2.2.2.2, .ref 20])) rfl ?_
          refine Ev.iast rfl (by decide) (pu_n (by decide) (pu_n (by decide) (pu_n (by decide) (pu_n (by decide) xO.2.2.2.2.2.1)))) v5 ?_
          refine Ev.go 1 (s' := ((pu (pu (pu (pu (pu h 16 (eI 24 (upd O.1 v.toNatClampNeg O.2.2.2.2.2.2.2))) 17 (eI 24 (upd O.2.1 O.2.2.2.2.2.2.2.toNatClampNeg v))) 18 (eI 24 (upd O.2.2.1 O.2.2.2.2.2.2.2.toNatClampNeg parent))) 19 (eI 24 (upd O.2.2.2.1 O.2.2.2.2.2.2.2.toNatClampNeg elder))) 20 (eI 24 (upd O.2.2.2.2.1 O.2.2.2.2.2.2.2.toNatClampNeg (y8 + 1)))), 85, [(0, .ref 15), (1, .int v), (2, .int parent), (3, .int elder)], [.ref 15])) rfl ?_
          refine Ev.get rfl (by decide) (pu_n (by decide) (pu_n (by decide) (pu_n (by decide) (pu_n (by decide) (pu_n (by decide) xO.1))))) rfl ?_
          refine Ev.go 1 (s' := ((pu (pu (pu (pu (pu h 16 (eI 24 (upd O.1 v.toNatClampNeg O.2.2.2.2.2.2.2))) 17 (eI 24 (upd O.2.1 O.2.2.2.2.2.2.2.toNatClampNeg v))) 18 (eI 24 (upd O.2.2.1 O.2.2.2.2.2.2.2.toNatClampNeg parent))) 19 (eI 24 (upd O.2.2.2.1 O.2.2.2.2.2.2.2.toNatClampNeg elder))) 20 (eI 24 (upd O.2.2.2.2.1 O.2.2.2.2.2.2.2.toNatClampNeg (y8 + 1)))), 89, [(0, .ref 15), (1, .int v), (2, .int parent), (3, .int elder)], [.ref 15, .ref 21])) rfl ?_
          refine Ev.get rfl (by decide) (pu_n (by decide) (pu_n (by decide) (pu_n (by decide) (pu_n (by decide) (pu_n (by decide) xO.1))))) rfl ?_
          refine Ev.go 1 (s' := ((pu (pu (pu (pu (pu h 16 (eI 24 (upd O.1 v.toNatClampNeg O.2.2.2.2.2.2.2))) 17 (eI 24 (upd O.2.1 O.2.2.2.2.2.2.2.toNatClampNeg v))) 18 (eI 24 (upd O.2.2.1 O.2.2.2.2.2.2.2.toNatClampNeg parent))) 19 (eI 24 (upd O.2.2.2.1 O.2.2.2.2.2.2.2.toNatClampNeg elder))) 20 (eI 24 (upd O.2.2.2.2.1 O.2.2.2.2.2.2.2.toNatClampNeg (y8 + 1)))), 93, [(0, .ref 15), (1, .int v), (2, .int parent), (3, .int elder)], [.int 0, .int O.2.2.2.2.2.2.2, .ref 21])) rfl ?_
          refine Ev.iast rfl (by decide) (pu_n (by decide) (pu_n (by decide) (pu_n (by decide) (pu_n (by decide) (pu_n (by decide) xO.2.2.2.2.2.2.1))))) v5 ?_
          refine Ev.go 1 (s' := ((pu (pu (pu (pu (pu (pu h 16 (eI 24 (upd O.1 v.toNatClampNeg O.2.2.2.2.2.2.2))) 17 (eI 24 (upd O.2.1 O.2.2.2.2.2.2.2.toNatClampNeg v))) 18 (eI 24 (upd O.2.2.1 O.2.2.2.2.2.2.2.toNatClampNeg parent))) 19 (eI 24 (upd O.2.2.2.1 O.2.2.2.2.2.2.2.toNatClampNeg elder))) 20 (eI 24 (upd O.2.2.2.2.1 O.2.2.2.2.2.2.2.toNatClampNeg (y8 + 1)))) 21 (eI 24 (upd O.2.2.2.2.2.1 O.2.2.2.2.2.2.2.toNatClampNeg 0))), 95, [(0, .ref 15), (1, .int v), (2, .int parent), (3, .int elder)], [.ref 15])) rfl ?_
          refine Ev.get rfl (by decide) (pu_n (by decide) (pu_n (by decide) (pu_n (by decide) (pu_n (by decide) (pu_n (by decide) (pu_n (by decide) xO.1)))))) rfl ?_
          refine Ev.go 1 (s' := ((pu (pu (pu (pu (pu (pu h 16 (eI 24 (upd O.1 v.toNatClampNeg O.2.2.2.2.2.2.2))) 17 (eI 24 (upd O.2.1 O.2.2.2.2.2.2.2.toNatClampNeg v))) 18 (eI 24 (upd O.2.2.1 O.2.2.2.2.2.2.2.toNatClampNeg parent))) 19 (eI 24 (upd O.2.2.2.1 O.2.2.2.2.2.2.2.toNatClampNeg elder))) 20 (eI 24 (upd O.2.2.2.2.1 O.2.2.2.2.2.2.2.toNatClampNeg (y8 + 1)))) 21 (eI 24 (upd O.2.2.2.2.2.1 O.2.2.2.2.2.2.2.toNatClampNeg 0))), 99, [(0, .ref 15), (1, .int v), (2, .int parent), (3, .int elder)], [.ref 15, .ref 22])) rfl ?_
          refine Ev.get rfl (by decide) (pu_n (by decide) (pu_n (by decide) (pu_n (by decide) (pu_n (by decide) (pu_n (by decide) (pu_n (by decide) xO.1)))))) rfl ?_
          refine Ev.go 1 (s' := ((pu (pu (pu (pu (pu (pu h 16 (eI 24 (upd O.1 v.toNatClampNeg O.2.2.2.2.2.2.2))) 17 (eI 24 (upd O.2.1 O.2.2.2.2.2.2.2.toNatClampNeg v))) 18 (eI 24 (upd O.2.2.1 O.2.2.2.2.2.2.2.toNatClampNeg parent))) 19 (eI 24 (upd O.2.2.2.1 O.2.2.2.2.2.2.2.toNatClampNeg elder))) 20 (eI 24 (upd O.2.2.2.2.1 O.2.2.2.2.2.2.2.toNatClampNeg (y8 + 1)))) 21 (eI 24 (upd O.2.2.2.2.2.1 O.2.2.2.2.2.2.2.toNatClampNeg 0))), 103, [(0, .ref 15), (1, .int v), (2, .int parent), (3, .int elder)], [.int 0, .int O.2.2.2.2.2.2.2, .ref 22])) rfl ?_
          refine Ev.iast rfl (by decide) (pu_n (by decide) (pu_n (by decide) (pu_n (by decide) (pu_n (by decide) (pu_n (by decide) (pu_n (by decide) xO.2.2.2.2.2.2.2)))))) v5 ?_
          refine Ev.go 2 (s' := ((pu (pu (pu (pu (pu (pu (pu h 16 (eI 24 (upd O.1 v.toNatClampNeg O.2.2.2.2.2.2.2))) 17 (eI 24 (upd O.2.1 O.2.2.2.2.2.2.2.toNatClampNeg v))) 18 (eI 24 (upd O.2.2.1 O.2.2.2.2.2.2.2.toNatClampNeg parent))) 19 (eI 24 (upd O.2.2.2.1 O.2.2.2.2.2.2.2.toNatClampNeg elder))) 20 (eI 24 (upd O.2.2.2.2.1 O.2.2.2.2.2.2.2.toNatClampNeg (y8 + 1)))) 21 (eI 24 (upd O.2.2.2.2.2.1 O.2.2.2.2.2.2.2.toNatClampNeg 0))) 22 (eI 24 (upd O.2.2.2.2.2.2.1 O.2.2.2.2.2.2.2.toNatClampNeg 0))), 106, [(0, .ref 15), (1, .int v), (2, .int parent), (3, .int elder)], [.ref 15, .ref 15])) rfl ?_
          refine Ev.get rfl (by decide) (pu_n (by decide) (pu_n (by decide) (pu_n (by decide) (pu_n (by decide) (pu_n (by decide) (pu_n (by decide) (pu_n (by decide) xO.1))))))) rfl ?_
          refine Ev.go 2 (s' := ((pu (pu (pu (pu (pu (pu (pu h 16 (eI 24 (upd O.1 v.toNatClampNeg O.2.2.2.2.2.2.2))) 17 (eI 24 (upd O.2.1 O.2.2.2.2.2.2.2.toNatClampNeg v))) 18 (eI 24 (upd O.2.2.1 O.2.2.2.2.2.2.2.toNatClampNeg parent))) 19 (eI 24 (upd O.2.2.2.1 O.2.2.2.2.2.2.2.toNatClampNeg elder))) 20 (eI 24 (upd O.2.2.2.2.1 O.2.2.2.2.2.2.2.toNatClampNeg (y8 + 1)))) 21 (eI 24 (upd O.2.2.2.2.2.1 O.2.2.2.2.2.2.2.toNatClampNeg 0))) 22 (eI 24 (upd O.2.2.2.2.2.2.1 O.2.2.2.2.2.2.2.toNatClampNeg 0))), 111, [(0, .ref 15), (1, .int v), (2, .int parent), (3, .int elder)], [.int (O.2.2.2.2.2.2.2 + 1), .ref 15])) rfl ?_
          refine Ev.put rfl rfl (by decide) (pu_n (by decide) (pu_n (by decide) (pu_n (by decide) (pu_n (by decide) (pu_n (by decide) (pu_n (by decide) (pu_n (by decide) xO.1))))))) (Nat.le_of_ble_eq_true rfl) rfl rfl (fs' := [.ref 16, .ref 17, .ref 18, .ref 19, .ref 20, .ref 21, .ref 22, .int (O.2.2.2.2.2.2.2 + 1)]) rfl ?_
          cases H
          exact Ev.ret rfl rfl rfl ⟨rfl, ⟨pu_s, (pu_n (by decide) (pu_n (by decide) (pu_n (by decide) (pu_n (by decide) (pu_n (by decide) (pu_n (by decide) (pu_n (by decide) pu_s))))))), (pu_n (by decide) (pu_n (by decide) (pu_n (by decide) (pu_n (by decide) (pu_n (by decide) (pu_n (by decide) pu_s)))))), (pu_n (by decide) (pu_n (by decide) (pu_n (by decide) (pu_n (by decide) (pu_n (by decide) pu_s))))), (pu_n (by decide) (pu_n (by decide) (pu_n (by decide) (pu_n (by decide) pu_s)))), (pu_n (by decide) (pu_n (by decide) (pu_n (by decide) pu_s))), (pu_n (by decide) (pu_n (by decide) pu_s)), (pu_n (by decide) pu_s)⟩, (fun k hk => by rw [pu_x (show k ≠ 15 from fun e => by have := hk; simp at this; omega)]; rw [pu_x (show k ≠ 22 from fun e => by have := hk; simp at this; omega)]; rw [pu_x (show k ≠ 21 from fun e => by have := hk; simp at this; omega)]; rw [pu_x (show k ≠ 20 from fun e => by have := hk; simp at this; omega)]; rw [pu_x (show k ≠ 19 from fun e => by have := hk; simp at this; omega)]; rw [pu_x (show k ≠ 18 from fun e => by have := hk; simp at this; omega)]; rw [pu_x (show k ≠ 17 from fun e => by have := hk; simp at this; omega)]; rw [pu_x (show k ≠ 16 from fun e => by have := hk; simp at this; omega)])⟩
        · have c6 : ¬ (0 ≤ parent) := c6
          rw [if_neg c6] at H
          refine Ev.go 2 (s' := ((pu (pu (pu (pu h 16 (eI 24 (upd O.1 v.toNatClampNeg O.2.2.2.2.2.2.2))) 17 (eI 24 (upd O.2.1 O.2.2.2.2.2.2.2.toNatClampNeg v))) 18 (eI 24 (upd O.2.2.1 O.2.2.2.2.2.2.2.toNatClampNeg parent))) 19 (eI 24 (upd O.2.2.2.1 O.2.2.2.2.2.2.2.toNatClampNeg elder))), 83, [(0, .ref 15), (1, .int v), (2, .int parent), (3, .int elder)], [.int 0, .int O.2.2.2.2.2.2.2, .ref 20])) rfl ?_
          refine Ev.iast rfl (by decide) (pu_n (by decide) (pu_n (by decide) (pu_n (by decide) (pu_n (by decide) xO.2.2.2.2.2.1)))) v5 ?_
          refine Ev.go 1 (s' := ((pu (pu (pu (pu (pu h 16 (eI 24 (upd O.1 v.toNatClampNeg O.2.2.2.2.2.2.2))) 17 (eI 24 (upd O.2.1 O.2.2.2.2.2.2.2.toNatClampNeg v))) 18 (eI 24 (upd O.2.2.1 O.2.2.2.2.2.2.2.toNatClampNeg parent))) 19 (eI 24 (upd O.2.2.2.1 O.2.2.2.2.2.2.2.toNatClampNeg elder))) 20 (eI 24 (upd O.2.2.2.2.1 O.2.2.2.2.2.2.2.toNatClampNeg 0))), 85, [(0, .ref 15), (1, .int v), (2, .int parent), (3, .int elder)], [.ref 15])) rfl ?_
          refine Ev.get rfl (by decide) (pu_n (by decide) (pu_n (by decide) (pu_n (by decide) (pu_n (by decide) (pu_n (by decide) xO.1))))) rfl ?_
          refine Ev.go 1 (s' := ((pu (pu (pu (pu (pu h 16 (eI 24 (upd O.1 v.toNatClampNeg O.2.2.2.2.2.2.2))) 17 (eI 24 (upd O.2.1 O.2.2.2.2.2.2.2.toNatClampNeg v))) 18 (eI 24 (upd O.2.2.1 O.2.2.2.2.2.2.2.toNatClampNeg parent))) 19 (eI 24 (upd O.2.2.2.1 O.2.2.2.2.2.2.2.toNatClampNeg elder))) 20 (eI 24 (upd O.2.2.2.2.1 O.2.2.2.2.2.2.2.toNatClampNeg 0))), 89, [(0, .ref 15), (1, .int v), (2, .int parent), (3, .int elder)], [.ref 15, .ref 21])) rfl ?_
          refine Ev.get rfl (by decide) (pu_n (by decide) (pu_n (by decide) (pu_n (by decide) (pu_n (by decide) (pu_n (by decide) xO.1))))) rfl ?_
          refine Ev.go 1 (s' := ((pu (pu (pu (pu (pu h 16 (eI 24 (upd O.1 v.toNatClampNeg O.2.2.2.2.2.2.2))) 17 (eI 24 (upd O.2.1 O.2.2.2.2.2.2.2.toNatClampNeg v))) 18 (eI 24 (upd O.2.2.1 O.2.2.2.2.2.2.2.toNatClampNeg parent))) 19 (eI 24 (upd O.2.2.2.1 O.2.2.2.2.2.2.2.toNatClampNeg elder))) 20 (eI 24 (upd O.2.2.2.2.1 O.2.2.2.2.2.2.2.toNatClampNeg 0))), 93, [(0, .ref 15), (1, .int v), (2, .int parent), (3, .int elder)], [.int 0, .int O.2.2.2.2.2.2.2, .ref 21])) rfl ?_
          refine Ev.iast rfl (by decide) (pu_n (by decide) (pu_n (by decide) (pu_n (by decide) (pu_n (by decide) (pu_n (by decide) xO.2.2.2.2.2.2.1))))) v5 ?_
          refine Ev.go 1 (s' := ((pu (pu (pu (pu (pu (pu h 16 (eI 24 (upd O.1 v.toNatClampNeg O.2.2.2.2.2.2.2))) 17 (eI 24 (upd O.2.1 O.2.2.2.2.2.2.2.toNatClampNeg v))) 18 (eI 24 (upd O.2.2.1 O.2.2.2.2.2.2.2.toNatClampNeg parent))) 19 (eI 24 (upd O.2.2.2.1 O.2.2.2.2.2.2.2.toNatClampNeg elder))) 20 (eI 24 (upd O.2.2.2.2.1 O.2.2.2.2.2.2.2.toNatClampNeg 0))) 21 (eI 24 (upd O.2.2.2.2.2.1 O.2.2.2.2.2.2.2.toNatClampNeg 0))), 95, [(0, .ref 15), (1, .int v), (2, .int parent), (3, .int elder)], [.ref 15])) rfl ?_
          refine Ev.get rfl (by decide) (pu_n (by decide) (pu_n (by decide) (pu_n (by decide) (pu_n (by decide) (pu_n (by decide) (pu_n (by decide) xO.1)))))) rfl ?_
          refine Ev.go 1 (s' := ((pu (pu (pu (pu (pu (pu h 16 (eI 24 (upd O.1 v.toNatClampNeg O.2.2.2.2.2.2.2))) 17 (eI 24 (upd O.2.1 O.2.2.2.2.2.2.2.toNatClampNeg v))) 18 (eI 24 (upd O.2.2.1 O.2.2.2.2.2.2.2.toNatClampNeg parent))) 19 (eI 24 (upd O.2.2.2.1 O.2.2.2.2.2.2.2.toNatClampNeg elder))) 20 (eI 24 (upd O.2.2.2.2.1 O.2.2.2.2.2.2.2.toNatClampNeg 0))) 21 (eI 24 (upd O.2.2.2.2.2.1 O.2.2.2.2.2.2.2.toNatClampNeg 0))), 99, [(0, .ref 15), (1, .int v), (2, .int parent), (3, .int elder)], [.ref 15, .ref 22])) rfl ?_
          refine Ev.get rfl (by decide) (pu_n (by decide) (pu_n (by decide) (pu_n (by decide) (pu_n (by decide) (pu_n (by decide) (pu_n (by decide) xO.1)))))) rfl ?_
          refine Ev.go 1 (s' := ((pu (pu (pu (pu (pu (pu h 16 (eI 24 (upd O.1 v.toNatClampNeg O.2.2.2.2.2.2.2))) 17 (eI 24 (upd O.2.1 O.2.2.2.2.2.2.2.toNatClampNeg v))) 18 (eI 24 (upd O.2.2.1 O.2.2.2.2.2.2.2.toNatClampNeg parent))) 19 (eI 24 (upd O.2.2.2.1 O.2.2.2.2.2.2.2.toNatClampNeg elder))) 20 (eI 24 (upd O.2.2.2.2.1 O.2.2.2.2.2.2.2.toNatClampNeg 0))) 21 (eI 24 (upd O.2.2.2.2.2.1 O.2.2.2.2.2.2.2.toNatClampNeg 0))), 103, [(0, .ref 15), (1, .int v), (2, .int parent), (3, .int elder)], [.int 0, .int O.2.2.2.2.2.2.2, .ref 22])) rfl ?_
          refine Ev.iast rfl (by decide) (pu_n (by decide) (pu_n (by decide) (pu_n (by decide) (pu_n (by decide) (pu_n (by decide) (pu_n (by decide) xO.2.2.2.2.2.2.2)))))) v5 ?_
          refine Ev.go 2 (s' := ((pu (pu (pu (pu (pu (pu (pu h 16 (eI 24 (upd O.1 v.toNatClampNeg O.2.2.2.2.2.2.2))) 17 (eI 24 (upd O.2.1 O.2.2.2.2.2.2.2.toNatClampNeg v))) 18 (eI 24 (upd O.2.2.1 O.2.2.2.2.2.2.2.toNatClampNeg parent))) 19 (eI 24 (upd O.2.2.2.1 O.2.2.2.2.2.2.2.toNatClampNeg elder))) 20 (eI 24 (upd O.2.2.2.2.1 O.2.2.2.2.2.2.2.toNatClampNeg 0))) 21 (eI 24 (upd O.2.2.2.2.2.1 O.2.2.2.2.2.2.2.toNatClampNeg 0))) 22 (eI 24 (upd O.2.2.2.2.2.2.1 O.2.2.2.2.2.2.2.toNatClampNeg 0))), 106, [(0, .ref 15), (1, .int v), (2, .int parent), (3, .int elder)], [.ref 15, .ref 15])) rfl ?_
          refine Ev.get rfl (by decide) (pu_n (by decide) (pu_n (by decide) (pu_n (by decide) (pu_n (by decide) (pu_n (by decide) (pu_n (by decide) (pu_n (by decide) xO.1))))))) rfl ?_
          refine Ev.go 2 (s' := ((pu (pu (pu (pu (pu (pu (pu h 16 (eI 24 (upd O.1 v.toNatClampNeg O.2.2.2.2.2.2.2))) 17 (eI 24 (upd O.2.1 O.2.2.2.2.2.2.2.toNatClampNeg v))) 18 (eI 24 (upd O.2.2.1 O.2.2.2.2.2.2.2.toNatClampNeg parent))) 19 (eI 24 (upd O.2.2.2.1 O.2.2.2.2.2.2.2.toNatClampNeg elder))) 20 (eI 24 (upd O.2.2.2.2.1 O.2.2.2.2.2.2.2.toNatClampNeg 0))) 21 (eI 24 (upd O.2.2.2.2.2.1 O.2.2.2.2.2.2.2.toNatClampNeg 0))) 22 (eI 24 (upd O.2.2.2.2.2.2.1 O.2.2.2.2.2.2.2.toNatClampNeg 0))), 111, [(0, .ref 15), (1, .int v), (2, .int parent), (3, .int elder)], [.int (O.2.2.2.2.2.2.2 + 1), .ref 15])) rfl ?_
          refine Ev.put rfl rfl (by decide) (pu_n (by decide) (pu_n (by decide) (pu_n (by decide) (pu_n (by decide) (pu_n (by decide) (pu_n (by decide) (pu_n (by decide) xO.1))))))) (Nat.le_of_ble_eq_true rfl) rfl rfl (fs' := [.ref 16, .ref 17, .ref 18, .ref 19, .ref 20, .ref 21, .ref 22, .int (O.2.2.2.2.2.2.2 + 1)]) rfl ?_
          cases H
          exact Ev.ret rfl rfl rfl ⟨rfl, ⟨pu_s, (pu_n (by decide) (pu_n (by decide) (pu_n (by decide) (pu_n (by decide) (pu_n (by decide) (pu_n (by decide) (pu_n (by decide) pu_s))))))), (pu_n (by decide) (pu_n (by decide) (pu_n (by decide) (pu_n (by decide) (pu_n (by decide) (pu_n (by decide) pu_s)))))), (pu_n (by decide) (pu_n (by decide) (pu_n (by decide) (pu_n (by decide) (pu_n (by decide) pu_s))))), (pu_n (by decide) (pu_n (by decide) (pu_n (by decide) (pu_n (by decide) pu_s)))), (pu_n (by decide) (pu_n (by decide) (pu_n (by decide) pu_s))), (pu_n (by decide) (pu_n (by decide) pu_s)), (pu_n (by decide) pu_s)⟩, (fun k hk => by rw [pu_x (show k ≠ 15 from fun e => by have := hk; simp at this; omega)]; rw [pu_x (show k ≠ 22 from fun e => by have := hk; simp at this; omega)]; rw [pu_x (show k ≠ 21 from fun e => by have := hk; simp at this; omega)]; rw [pu_x (show k ≠ 20 from fun e => by have := hk; simp at this; omega)]; rw [pu_x (show k ≠ 19 from fun e => by have := hk; simp at this; omega)]; rw [pu_x (show k ≠ 18 from fun e => by have := hk; simp at this; omega)]; rw [pu_x (show k ≠ 17 from fun e => by have := hk; simp at this; omega)]; rw [pu_x (show k ≠ 16 from fun e => by have := hk; simp at this; omega)])⟩
      · have c3 : ¬ (v < 24) := c3
        rw [if_neg c3] at H
        cases H
        exact Ev.ret rfl rfl rfl ⟨rfl, xO, (fun k _ => rfl)⟩
def lX3_takeFollower_29 (n : Nat) (T : tT) : Nat → Int32 → Int32 → tO → Option (tO)
  | 0, _, _, _ => none
  | m + 1, x4, x5, O => (if 24 ≤ x5 then some O else (if x4 ≤ 0 then some O else ((fX3_parentAt O x4).bind fun y14 => ((fX3_nodeAt O y14).bind fun y16 => ((fX3_nodeAt O x4).bind fun y18 => ((fX7_nextKid n T y16 (fX7_spotOf T y18)).bind fun y20 => (if y20 < 0 then lX3_takeFollower_29 n T m y14 (x5 + 1) O else ((fX3_take O y20 y14 x4).bind fun y23 => some y23))))))))
theorem llX3_takeFollower_29 {d n : Nat} {T : tT} : ∀ (m : Nat) (h : pH) (x4 : Int32) (x5 : Int32) (O : tO) (res : tO), lX3_takeFollower_29 n T m x4 x5 O = some res → isT h 7 T → isO h O → Ev (d + 3) mX3_takeFollower (h, 29, [(0, .ref 15), (1, .ref 7), (4, .int x4), (5, .int x5)], []) (fun r h1 => r = none ∧ isO h1 res ∧ fr [(15, 23)] h h1)
  | 0, h, x4, x5, O, res, H, _, _ => by cases H
  | m + 1, h, x4, x5, O, res, H, xT, xO => by
    have H : (if 24 ≤ x5 then some O else (if x4 ≤ 0 then some O else ((fX3_parentAt O x4).bind fun y14 => ((fX3_nodeAt O y14).bind fun y16 => ((fX3_nodeAt O x4).bind fun y18 => ((fX7_nextKid n T y16 (fX7_spotOf T y18)).bind fun y20 => (if y20 < 0 then lX3_takeFollower_29 n T m y14 (x5 + 1) O else ((fX3_take O y20 y14 x4).bind fun y23 => some y23)))))))) = some res := H
    refine Ev.go 2 (s' := (h, 33, [(0, .ref 15), (1, .ref 7), (4, .int x4), (5, .int x5)], [.int 24, .int x5])) rfl ?_
    refine Ev.if2 rfl (fun c11 => ?_) (fun c11 => ?_)
    · have c11 : 24 ≤ x5 := c11
      rw [if_pos c11] at H
      cases H
      exact Ev.ret rfl rfl rfl ⟨rfl, xO, (fun k _ => rfl)⟩
    · have c11 : ¬ (24 ≤ x5) := c11
      rw [if_neg c11] at H
      refine Ev.go 1 (s' := (h, 38, [(0, .ref 15), (1, .ref 7), (4, .int x4), (5, .int x5)], [.int x4])) rfl ?_
      refine Ev.if1 rfl (fun c12 => ?_) (fun c12 => ?_)
      · have c12 : x4 ≤ 0 := c12
        rw [if_pos c12] at H
        cases H
        exact Ev.ret rfl rfl rfl ⟨rfl, xO, (fun k _ => rfl)⟩
      · have c12 : ¬ (x4 ≤ 0) := c12
        rw [if_neg c12] at H
        refine Ev.go 2 (s' := (h, 44, [(0, .ref 15), (1, .ref 7), (4, .int x4), (5, .int x5)], [.int x4, .ref 15])) rfl ?_
        obtain ⟨y14, e13, H⟩ := Option.bind_eq_some_iff.mp H
        refine Ev.callE rfl rfl rfl (p_argsV (by decide) xO.1 (Nat.le_of_ble_eq_true rfl)) rfl (Nat.le_of_ble_eq_true rfl) (spX3_parentAt xO x4 e13) ?_
        refine Ev.go 4 (s' := (h, 53, [(0, .ref 15), (1, .ref 7), (4, .int x4), (5, .int x5), (6, .int y14)], [.int y14, .ref 15, .ref 7])) rfl ?_
        obtain ⟨y16, e15, H⟩ := Option.bind_eq_some_iff.mp H
        refine Ev.callE rfl rfl rfl (p_argsV (by decide) xO.1 (Nat.le_of_ble_eq_true rfl)) rfl (Nat.le_of_ble_eq_true rfl) (spX3_nodeAt xO y14 e15) ?_
        refine Ev.go 3 (s' := (h, 60, [(0, .ref 15), (1, .ref 7), (4, .int x4), (5, .int x5), (6, .int y14)], [.int x4, .ref 15, .ref 7, .int y16, .ref 7])) rfl ?_
        obtain ⟨y18, e17, H⟩ := Option.bind_eq_some_iff.mp H
        refine Ev.callE rfl rfl rfl (p_argsV (by decide) xO.1 (Nat.le_of_ble_eq_true rfl)) rfl (Nat.le_of_ble_eq_true rfl) (spX3_nodeAt xO x4 e17) ?_
        refine Ev.callE rfl rfl rfl (p_argsV (by decide) xT.1 (Nat.le_of_ble_eq_true rfl)) rfl (Nat.le_of_ble_eq_true rfl) (spX7_spotOf xT y18) ?_
        obtain ⟨y20, e19, H⟩ := Option.bind_eq_some_iff.mp H
        refine Ev.callE rfl rfl rfl (p_argsV (by decide) xT.1 (Nat.le_of_ble_eq_true rfl)) rfl (Nat.le_of_ble_eq_true rfl) (spX7_nextKid xT y16 (fX7_spotOf T y18) e19) ?_
        refine Ev.go 2 (s' := (h, 73, [(0, .ref 15), (1, .ref 7), (4, .int x4), (5, .int x5), (6, .int y14), (7, .int y20)], [.int y20])) rfl ?_
        refine Ev.if1 rfl (fun c21 => ?_) (fun c21 => ?_)
        · have c21 : y20 < 0 := c21
          rw [if_pos c21] at H
          refine Ev.go 4 (s' := (h, 29, [(0, .ref 15), (1, .ref 7), (4, .int y14), (5, .int (x5 + 1)), (6, .int y14), (7, .int y20)], [])) rfl ?_
          refine Ev.live rfl (lv' := [(0, .ref 15), (1, .ref 7), (4, .int y14), (5, .int (x5 + 1))]) rfl ?_
          exact llX3_takeFollower_29 m h y14 (x5 + 1) O _ H xT xO
        · have c21 : ¬ (y20 < 0) := c21
          rw [if_neg c21] at H
          refine Ev.go 4 (s' := (h, 83, [(0, .ref 15), (1, .ref 7), (4, .int x4), (5, .int x5), (6, .int y14), (7, .int y20)], [.int x4, .int y14, .int y20, .ref 15])) rfl ?_
          obtain ⟨y23, e22, H⟩ := Option.bind_eq_some_iff.mp H
          refine Ev.call rfl rfl rfl (p_argsV (by decide) xO.1 (Nat.le_of_ble_eq_true rfl)) rfl (Nat.le_of_ble_eq_true rfl) ((spX3_take xO y20 y14 x4 e22).mono (fun r h24 q25 => ?_))
          obtain ⟨rfl, q25_O, q25_f⟩ := q25
          have i26 : isT h24 7 T := isT.fr q25_f (fr1 (by omega)) xT
          cases H
          exact Ev.ret rfl rfl rfl ⟨rfl, q25_O, (fun k hk => by rw [q25_f k (by have := hk; simp at this ⊢; omega)])⟩
def fX3_takeFollower (n : Nat) (O : tO) (T : tT) (rank : Int32) : Option (tO) := ((fX3_nodeAt O rank).bind fun y2 => ((fX7_nextKid n T y2 0).bind fun y4 => (if y4 < 0 then lX3_takeFollower_29 n T n rank 0 O else ((fX3_take O y4 rank (-1)).bind fun y7 => some y7))))
theorem spX3_takeFollower {d n : Nat} {h : pH} {O : tO} {T : tT} (xO : isO h O) (xT : isT h 7 T) (rank : Int32) {res : tO} (H : fX3_takeFollower n O T rank = some res) : Ev (d + 3) mX3_takeFollower (h, 0, [(0, .ref 15), (1, .ref 7), (2, .int rank)], []) (fun r h1 => r = none ∧ isO h1 res ∧ fr [(15, 23)] h h1) := by
  unfold fX3_takeFollower at H
  refine Ev.go 3 (s' := (h, 3, [(0, .ref 15), (1, .ref 7), (2, .int rank)], [.int rank, .ref 15, .ref 7])) rfl ?_
  obtain ⟨y2, e1, H⟩ := Option.bind_eq_some_iff.mp H
  refine Ev.callE rfl rfl rfl (p_argsV (by decide) xO.1 (Nat.le_of_ble_eq_true rfl)) rfl (Nat.le_of_ble_eq_true rfl) (spX3_nodeAt xO rank e1) ?_
  refine Ev.go 1 (s' := (h, 7, [(0, .ref 15), (1, .ref 7), (2, .int rank)], [.int 0, .int y2, .ref 7])) rfl ?_
  obtain ⟨y4, e3, H⟩ := Option.bind_eq_some_iff.mp H
  refine Ev.callE rfl rfl rfl (p_argsV (by decide) xT.1 (Nat.le_of_ble_eq_true rfl)) rfl (Nat.le_of_ble_eq_true rfl) (spX7_nextKid xT y2 0 e3) ?_
  refine Ev.go 2 (s' := (h, 12, [(0, .ref 15), (1, .ref 7), (2, .int rank), (3, .int y4)], [.int y4])) rfl ?_
  refine Ev.if1 rfl (fun c5 => ?_) (fun c5 => ?_)
  · have c5 : y4 < 0 := c5
    rw [if_pos c5] at H
    refine Ev.go 4 (s' := (h, 29, [(0, .ref 15), (1, .ref 7), (2, .int rank), (3, .int y4), (4, .int rank), (5, .int 0)], [])) rfl ?_
    refine Ev.live rfl (lv' := [(0, .ref 15), (1, .ref 7), (4, .int rank), (5, .int 0)]) rfl ?_
    exact llX3_takeFollower_29 n h rank 0 O _ H xT xO
  · have c5 : ¬ (y4 < 0) := c5
    rw [if_neg c5] at H
    refine Ev.go 4 (s' := (h, 19, [(0, .ref 15), (1, .ref 7), (2, .int rank), (3, .int y4)], [.int ((-1)), .int rank, .int y4, .ref 15])) rfl ?_
    obtain ⟨y7, e6, H⟩ := Option.bind_eq_some_iff.mp H
    refine Ev.call rfl rfl rfl (p_argsV (by decide) xO.1 (Nat.le_of_ble_eq_true rfl)) rfl (Nat.le_of_ble_eq_true rfl) ((spX3_take xO y4 rank (-1) e6).mono (fun r h8 q9 => ?_))
    obtain ⟨rfl, q9_O, q9_f⟩ := q9
    have i10 : isT h8 7 T := isT.fr q9_f (fr1 (by omega)) xT
    cases H
    exact Ev.ret rfl rfl rfl ⟨rfl, q9_O, (fun k hk => by rw [q9_f k (by have := hk; simp at this ⊢; omega)])⟩
def lX3_read_55 (n : Nat) (T : tT) : Nat → Int32 → tO → Option (tO)
  | 0, _, _ => none
  | m + 1, x2, O => (if x2 ≤ 0 then some O else (if x2 < 0 ∨ 24 ≤ x2.toNatClampNeg then none else (if (O.2.2.1 x2.toNatClampNeg) < 0 then lX3_read_55 n T m (x2 + (-1)) O else (if (O.2.2.1 x2.toNatClampNeg) < 0 ∨ 24 ≤ (O.2.2.1 x2.toNatClampNeg).toNatClampNeg then none else lX3_read_55 n T m (x2 + (-1)) (O.1, O.2.1, O.2.2.1, O.2.2.2.1, O.2.2.2.2.1, upd O.2.2.2.2.2.1 (O.2.2.1 x2.toNatClampNeg).toNatClampNeg ((O.2.2.2.2.2.1 (O.2.2.1 x2.toNatClampNeg).toNatClampNeg) + 1), upd O.2.2.2.2.2.2.1 (O.2.2.1 x2.toNatClampNeg).toNatClampNeg ((O.2.2.2.2.2.2.1 (O.2.2.1 x2.toNatClampNeg).toNatClampNeg) + ((O.2.2.2.2.2.2.1 x2.toNatClampNeg) + 1)), O.2.2.2.2.2.2.2)))))
theorem llX3_read_55 {d n : Nat} {T : tT} : ∀ (m : Nat) (h : pH) (x2 : Int32) (O : tO) (res : tO), lX3_read_55 n T m x2 O = some res → isT h 7 T → isO h O → Ev (d + 4) mX3_read (h, 55, [(0, .ref 15), (2, .int x2)], []) (fun r h1 => r = none ∧ isO h1 res ∧ fr [(15, 23)] h h1)
  | 0, h, x2, O, res, H, _, _ => by cases H
  | m + 1, h, x2, O, res, H, xT, xO => by
    have H : (if x2 ≤ 0 then some O else (if x2 < 0 ∨ 24 ≤ x2.toNatClampNeg then none else (if (O.2.2.1 x2.toNatClampNeg) < 0 then lX3_read_55 n T m (x2 + (-1)) O else (if (O.2.2.1 x2.toNatClampNeg) < 0 ∨ 24 ≤ (O.2.2.1 x2.toNatClampNeg).toNatClampNeg then none else lX3_read_55 n T m (x2 + (-1)) (O.1, O.2.1, O.2.2.1, O.2.2.2.1, O.2.2.2.2.1, upd O.2.2.2.2.2.1 (O.2.2.1 x2.toNatClampNeg).toNatClampNeg ((O.2.2.2.2.2.1 (O.2.2.1 x2.toNatClampNeg).toNatClampNeg) + 1), upd O.2.2.2.2.2.2.1 (O.2.2.1 x2.toNatClampNeg).toNatClampNeg ((O.2.2.2.2.2.2.1 (O.2.2.1 x2.toNatClampNeg).toNatClampNeg) + ((O.2.2.2.2.2.2.1 x2.toNatClampNeg) + 1)), O.2.2.2.2.2.2.2))))) = some res := H
    refine Ev.go 1 (s' := (h, 56, [(0, .ref 15), (2, .int x2)], [.int x2])) rfl ?_
    refine Ev.if1 rfl (fun c14 => ?_) (fun c14 => ?_)
    · have c14 : x2 ≤ 0 := c14
      rw [if_pos c14] at H
      cases H
      exact Ev.ret rfl rfl rfl ⟨rfl, xO, (fun k _ => rfl)⟩
    · have c14 : ¬ (x2 ≤ 0) := c14
      rw [if_neg c14] at H
      refine Ev.go 1 (s' := (h, 60, [(0, .ref 15), (2, .int x2)], [.ref 15])) rfl ?_
      refine Ev.get rfl (by decide) xO.1 rfl ?_
      refine Ev.go 1 (s' := (h, 64, [(0, .ref 15), (2, .int x2)], [.int x2, .ref 18])) rfl ?_
      have v15 : vp_in x2 24 := fun q => by rw [if_pos q] at H; cases H
      rw [if_neg v15] at H
      refine Ev.iald rfl (by decide) xO.2.2.2.1 v15 ?_
      refine Ev.go 2 (s' := (h, 67, [(0, .ref 15), (2, .int x2), (3, .int (O.2.2.1 x2.toNatClampNeg))], [.int (O.2.2.1 x2.toNatClampNeg)])) rfl ?_
      refine Ev.if1 rfl (fun c16 => ?_) (fun c16 => ?_)
      · have c16 : (O.2.2.1 x2.toNatClampNeg) < 0 := c16
        rw [if_pos c16] at H
        refine Ev.go 2 (s' := (h, 55, [(0, .ref 15), (2, .int (x2 + (-1))), (3, .int (O.2.2.1 x2.toNatClampNeg))], [])) rfl ?_
        refine Ev.live rfl (lv' := [(0, .ref 15), (2, .int (x2 + (-1)))]) rfl ?_
        exact llX3_read_55 m h (x2 + (-1)) O _ H xT xO
      · have c16 : ¬ ((O.2.2.1 x2.toNatClampNeg) < 0) := c16
        rw [if_neg c16] at H
        refine Ev.go 1 (s' := (h, 71, [(0, .ref 15), (2, .int x2), (3, .int (O.2.2.1 x2.toNatClampNeg))], [.ref 15])) rfl ?_
        refine Ev.get rfl (by decide) xO.1 rfl ?_
        refine Ev.go 2 (s' := (h, 76, [(0, .ref 15), (2, .int x2), (3, .int (O.2.2.1 x2.toNatClampNeg))], [.int (O.2.2.1 x2.toNatClampNeg), .ref 21, .int (O.2.2.1 x2.toNatClampNeg), .ref 21])) rfl ?_
        have v17 : vp_in (O.2.2.1 x2.toNatClampNeg) 24 := fun q => by rw [if_pos q] at H; cases H
        rw [if_neg v17] at H
        refine Ev.iald rfl (by decide) xO.2.2.2.2.2.2.1 v17 ?_
        refine Ev.go 2 (s' := (h, 79, [(0, .ref 15), (2, .int x2), (3, .int (O.2.2.1 x2.toNatClampNeg))], [.int ((O.2.2.2.2.2.1 (O.2.2.1 x2.toNatClampNeg).toNatClampNeg) + 1), .int (O.2.2.1 x2.toNatClampNeg), .ref 21])) rfl ?_
        refine Ev.iast rfl (by decide) xO.2.2.2.2.2.2.1 v17 ?_
        refine Ev.go 1 (s' := ((pu h 21 (eI 24 (upd O.2.2.2.2.2.1 (O.2.2.1 x2.toNatClampNeg).toNatClampNeg ((O.2.2.2.2.2.1 (O.2.2.1 x2.toNatClampNeg).toNatClampNeg) + 1)))), 81, [(0, .ref 15), (2, .int x2), (3, .int (O.2.2.1 x2.toNatClampNeg))], [.ref 15])) rfl ?_
        refine Ev.get rfl (by decide) (pu_n (by decide) xO.1) rfl ?_
        refine Ev.go 2 (s' := ((pu h 21 (eI 24 (upd O.2.2.2.2.2.1 (O.2.2.1 x2.toNatClampNeg).toNatClampNeg ((O.2.2.2.2.2.1 (O.2.2.1 x2.toNatClampNeg).toNatClampNeg) + 1)))), 86, [(0, .ref 15), (2, .int x2), (3, .int (O.2.2.1 x2.toNatClampNeg))], [.int (O.2.2.1 x2.toNatClampNeg), .ref 22, .int (O.2.2.1 x2.toNatClampNeg), .ref 22])) rfl ?_
        refine Ev.iald rfl (by decide) (pu_n (by decide) xO.2.2.2.2.2.2.2) v17 ?_
        refine Ev.go 1 (s' := ((pu h 21 (eI 24 (upd O.2.2.2.2.2.1 (O.2.2.1 x2.toNatClampNeg).toNatClampNeg ((O.2.2.2.2.2.1 (O.2.2.1 x2.toNatClampNeg).toNatClampNeg) + 1)))), 88, [(0, .ref 15), (2, .int x2), (3, .int (O.2.2.1 x2.toNatClampNeg))], [.ref 15, .int (O.2.2.2.2.2.2.1 (O.2.2.1 x2.toNatClampNeg).toNatClampNeg), .int (O.2.2.1 x2.toNatClampNeg), .ref 22])) rfl ?_
        refine Ev.get rfl (by decide) (pu_n (by decide) xO.1) rfl ?_
        refine Ev.go 1 (s' := ((pu h 21 (eI 24 (upd O.2.2.2.2.2.1 (O.2.2.1 x2.toNatClampNeg).toNatClampNeg ((O.2.2.2.2.2.1 (O.2.2.1 x2.toNatClampNeg).toNatClampNeg) + 1)))), 92, [(0, .ref 15), (2, .int x2), (3, .int (O.2.2.1 x2.toNatClampNeg))], [.int x2, .ref 22, .int (O.2.2.2.2.2.2.1 (O.2.2.1 x2.toNatClampNeg).toNatClampNeg), .int (O.2.2.1 x2.toNatClampNeg), .ref 22])) rfl ?_
        refine Ev.iald rfl (by decide) (pu_n (by decide) xO.2.2.2.2.2.2.2) v15 ?_
        refine Ev.go 3 (s' := ((pu h 21 (eI 24 (upd O.2.2.2.2.2.1 (O.2.2.1 x2.toNatClampNeg).toNatClampNeg ((O.2.2.2.2.2.1 (O.2.2.1 x2.toNatClampNeg).toNatClampNeg) + 1)))), 96, [(0, .ref 15), (2, .int x2), (3, .int (O.2.2.1 x2.toNatClampNeg))], [.int ((O.2.2.2.2.2.2.1 (O.2.2.1 x2.toNatClampNeg).toNatClampNeg) + ((O.2.2.2.2.2.2.1 x2.toNatClampNeg) + 1)), .int (O.2.2.1 x2.toNatClampNeg), .ref 22])) rfl ?_
        refine Ev.iast rfl (by decide) (pu_n (by decide) xO.2.2.2.2.2.2.2) v17 ?_
        refine Ev.go 2 (s' := ((pu (pu h 21 (eI 24 (upd O.2.2.2.2.2.1 (O.2.2.1 x2.toNatClampNeg).toNatClampNeg ((O.2.2.2.2.2.1 (O.2.2.1 x2.toNatClampNeg).toNatClampNeg) + 1)))) 22 (eI 24 (upd O.2.2.2.2.2.2.1 (O.2.2.1 x2.toNatClampNeg).toNatClampNeg ((O.2.2.2.2.2.2.1 (O.2.2.1 x2.toNatClampNeg).toNatClampNeg) + ((O.2.2.2.2.2.2.1 x2.toNatClampNeg) + 1))))), 55, [(0, .ref 15), (2, .int (x2 + (-1))), (3, .int (O.2.2.1 x2.toNatClampNeg))], [])) rfl ?_
        refine Ev.live rfl (lv' := [(0, .ref 15), (2, .int (x2 + (-1)))]) rfl ?_
        refine (llX3_read_55 m (pu (pu h 21 (eI 24 (upd O.2.2.2.2.2.1 (O.2.2.1 x2.toNatClampNeg).toNatClampNeg ((O.2.2.2.2.2.1 (O.2.2.1 x2.toNatClampNeg).toNatClampNeg) + 1)))) 22 (eI 24 (upd O.2.2.2.2.2.2.1 (O.2.2.1 x2.toNatClampNeg).toNatClampNeg ((O.2.2.2.2.2.2.1 (O.2.2.1 x2.toNatClampNeg).toNatClampNeg) + ((O.2.2.2.2.2.2.1 x2.toNatClampNeg) + 1))))) (x2 + (-1)) (O.1, O.2.1, O.2.2.1, O.2.2.2.1, O.2.2.2.2.1, upd O.2.2.2.2.2.1 (O.2.2.1 x2.toNatClampNeg).toNatClampNeg ((O.2.2.2.2.2.1 (O.2.2.1 x2.toNatClampNeg).toNatClampNeg) + 1), upd O.2.2.2.2.2.2.1 (O.2.2.1 x2.toNatClampNeg).toNatClampNeg ((O.2.2.2.2.2.2.1 (O.2.2.1 x2.toNatClampNeg).toNatClampNeg) + ((O.2.2.2.2.2.2.1 x2.toNatClampNeg) + 1)), O.2.2.2.2.2.2.2) _ H ⟨(pu_n (by decide) (pu_n (by decide) xT.1)), (pu_n (by decide) (pu_n (by decide) xT.2.1)), (pu_n (by decide) (pu_n (by decide) xT.2.2.1)), (pu_n (by decide) (pu_n (by decide) xT.2.2.2.1)), (by decide)⟩ ⟨(pu_n (by decide) (pu_n (by decide) xO.1)), (pu_n (by decide) (pu_n (by decide) xO.2.1)), (pu_n (by decide) (pu_n (by decide) xO.2.2.1)), (pu_n (by decide) (pu_n (by decide) xO.2.2.2.1)), (pu_n (by decide) (pu_n (by decide) xO.2.2.2.2.1)), (pu_n (by decide) (pu_n (by decide) xO.2.2.2.2.2.1)), (pu_n (by decide) pu_s), pu_s⟩).mono (fun r h9 q9 => ?_)
        obtain ⟨q9r, q9_0, q9f⟩ := q9
        exact ⟨q9r, q9_0, fun k hk => (q9f k hk).trans (by rw [pu_x (show k ≠ 22 from fun e => by have := hk; simp at this; omega)]; rw [pu_x (show k ≠ 21 from fun e => by have := hk; simp at this; omega)])⟩
def lX3_read_22 (n : Nat) (T : tT) : Nat → Int32 → tO → Option (tO)
  | 0, _, _ => none
  | m + 1, x2, O => (if O.2.2.2.2.2.2.2 ≤ x2 then lX3_read_55 n T n (O.2.2.2.2.2.2.2 - 1) O else (if 24 ≤ x2 then lX3_read_55 n T n (O.2.2.2.2.2.2.2 - 1) O else ((fX3_takeFollower n O T x2).bind fun y10 => lX3_read_22 n T m (x2 + 1) y10)))
theorem llX3_read_22 {d n : Nat} {T : tT} : ∀ (m : Nat) (h : pH) (x2 : Int32) (O : tO) (res : tO), lX3_read_22 n T m x2 O = some res → isT h 7 T → isO h O → Ev (d + 4) mX3_read (h, 22, [(0, .ref 15), (1, .ref 7), (2, .int x2)], []) (fun r h1 => r = none ∧ isO h1 res ∧ fr [(15, 23)] h h1)
  | 0, h, x2, O, res, H, _, _ => by cases H
  | m + 1, h, x2, O, res, H, xT, xO => by
    have H : (if O.2.2.2.2.2.2.2 ≤ x2 then lX3_read_55 n T n (O.2.2.2.2.2.2.2 - 1) O else (if 24 ≤ x2 then lX3_read_55 n T n (O.2.2.2.2.2.2.2 - 1) O else ((fX3_takeFollower n O T x2).bind fun y10 => lX3_read_22 n T m (x2 + 1) y10))) = some res := H
    refine Ev.go 2 (s' := (h, 24, [(0, .ref 15), (1, .ref 7), (2, .int x2)], [.ref 15, .int x2])) rfl ?_
    refine Ev.get rfl (by decide) xO.1 rfl ?_
    refine Ev.if2 rfl (fun c7 => ?_) (fun c7 => ?_)
    · have c7 : O.2.2.2.2.2.2.2 ≤ x2 := c7
      rw [if_pos c7] at H
      refine Ev.go 1 (s' := (h, 49, [(0, .ref 15), (1, .ref 7), (2, .int x2)], [.ref 15])) rfl ?_
      refine Ev.get rfl (by decide) xO.1 rfl ?_
      refine Ev.go 3 (s' := (h, 55, [(0, .ref 15), (1, .ref 7), (2, .int (O.2.2.2.2.2.2.2 - 1))], [])) rfl ?_
      refine Ev.live rfl (lv' := [(0, .ref 15), (2, .int (O.2.2.2.2.2.2.2 - 1))]) rfl ?_
      exact llX3_read_55 n h (O.2.2.2.2.2.2.2 - 1) O _ H xT xO
    · have c7 : ¬ (O.2.2.2.2.2.2.2 ≤ x2) := c7
      rw [if_neg c7] at H
      refine Ev.go 2 (s' := (h, 33, [(0, .ref 15), (1, .ref 7), (2, .int x2)], [.int 24, .int x2])) rfl ?_
      refine Ev.if2 rfl (fun c8 => ?_) (fun c8 => ?_)
      · have c8 : 24 ≤ x2 := c8
        rw [if_pos c8] at H
        refine Ev.go 1 (s' := (h, 49, [(0, .ref 15), (1, .ref 7), (2, .int x2)], [.ref 15])) rfl ?_
        refine Ev.get rfl (by decide) xO.1 rfl ?_
        refine Ev.go 3 (s' := (h, 55, [(0, .ref 15), (1, .ref 7), (2, .int (O.2.2.2.2.2.2.2 - 1))], [])) rfl ?_
        refine Ev.live rfl (lv' := [(0, .ref 15), (2, .int (O.2.2.2.2.2.2.2 - 1))]) rfl ?_
        exact llX3_read_55 n h (O.2.2.2.2.2.2.2 - 1) O _ H xT xO
      · have c8 : ¬ (24 ≤ x2) := c8
        rw [if_neg c8] at H
        refine Ev.go 3 (s' := (h, 39, [(0, .ref 15), (1, .ref 7), (2, .int x2)], [.int x2, .ref 7, .ref 15])) rfl ?_
        obtain ⟨y10, e9, H⟩ := Option.bind_eq_some_iff.mp H
        refine Ev.call rfl rfl rfl (p_argsV (by decide) xO.1 (Nat.le_of_ble_eq_true rfl)) rfl (Nat.le_of_ble_eq_true rfl) ((spX3_takeFollower xO xT x2 e9).mono (fun r h11 q12 => ?_))
        obtain ⟨rfl, q12_O, q12_f⟩ := q12
        have i13 : isT h11 7 T := isT.fr q12_f (fr1 (by omega)) xT
        refine Ev.go 2 (s' := (h11, 22, [(0, .ref 15), (1, .ref 7), (2, .int (x2 + 1))], [])) rfl ?_
        refine Ev.live rfl (lv' := [(0, .ref 15), (1, .ref 7), (2, .int (x2 + 1))]) rfl ?_
        refine (llX3_read_22 m h11 (x2 + 1) y10 _ H i13 q12_O).mono (fun r h9 q9 => ?_)
        obtain ⟨q9r, q9_0, q9f⟩ := q9
        exact ⟨q9r, q9_0, fun k hk => (q9f k hk).trans (by rw [q12_f k (by have := hk; simp at this ⊢; omega)])⟩
def fX3_read (n : Nat) (O : tO) (T : tT) : Option (tO) := (if (fX7_isThere T 0) = 0 then lX3_read_22 n T n 0 (O.1, O.2.1, O.2.2.1, O.2.2.2.1, O.2.2.2.2.1, O.2.2.2.2.2.1, O.2.2.2.2.2.2.1, 0) else ((fX3_take (O.1, O.2.1, O.2.2.1, O.2.2.2.1, O.2.2.2.2.1, O.2.2.2.2.2.1, O.2.2.2.2.2.2.1, 0) 0 (-1) (-1)).bind fun y3 => lX3_read_22 n T n 0 y3))
theorem spX3_read {d n : Nat} {h : pH} {O : tO} {T : tT} (xO : isO h O) (xT : isT h 7 T) {res : tO} (H : fX3_read n O T = some res) : Ev (d + 4) mX3_read (h, 0, [(0, .ref 15), (1, .ref 7)], []) (fun r h1 => r = none ∧ isO h1 res ∧ fr [(15, 23)] h h1) := by
  unfold fX3_read at H
  refine Ev.go 2 (s' := (h, 2, [(0, .ref 15), (1, .ref 7)], [.int 0, .ref 15])) rfl ?_
  refine Ev.put rfl rfl (by decide) xO.1 (Nat.le_of_ble_eq_true rfl) rfl rfl (fs' := [.ref 16, .ref 17, .ref 18, .ref 19, .ref 20, .ref 21, .ref 22, .int 0]) rfl ?_
  refine Ev.go 2 (s' := ((pu h 15 (eO 2 [.ref 16, .ref 17, .ref 18, .ref 19, .ref 20, .ref 21, .ref 22, .int 0])), 7, [(0, .ref 15), (1, .ref 7)], [.int 0, .ref 7])) rfl ?_
  refine Ev.callE rfl rfl rfl (p_argsV (by decide) (pu_n (by decide) xT.1) (Nat.le_of_ble_eq_true rfl)) rfl (Nat.le_of_ble_eq_true rfl) (spX7_isThere (h := (pu h 15 (eO 2 [.ref 16, .ref 17, .ref 18, .ref 19, .ref 20, .ref 21, .ref 22, .int 0]))) (T := T) ⟨(pu_n (by decide) xT.1), (pu_n (by decide) xT.2.1), (pu_n (by decide) xT.2.2.1), (pu_n (by decide) xT.2.2.2.1), (by decide)⟩ 0) ?_
  refine Ev.if1 rfl (fun c1 => ?_) (fun c1 => ?_)
  · have c1 : (fX7_isThere T 0) = 0 := c1
    rw [if_pos c1] at H
    refine Ev.go 2 (s' := ((pu h 15 (eO 2 [.ref 16, .ref 17, .ref 18, .ref 19, .ref 20, .ref 21, .ref 22, .int 0])), 22, [(0, .ref 15), (1, .ref 7), (2, .int 0)], [])) rfl ?_
    refine Ev.live rfl (lv' := [(0, .ref 15), (1, .ref 7), (2, .int 0)]) rfl ?_
    refine (llX3_read_22 n (pu h 15 (eO 2 [.ref 16, .ref 17, .ref 18, .ref 19, .ref 20, .ref 21, .ref 22, .int 0])) 0 (O.1, O.2.1, O.2.2.1, O.2.2.2.1, O.2.2.2.2.1, O.2.2.2.2.2.1, O.2.2.2.2.2.2.1, 0) _ H ⟨(pu_n (by decide) xT.1), (pu_n (by decide) xT.2.1), (pu_n (by decide) xT.2.2.1), (pu_n (by decide) xT.2.2.2.1), (by decide)⟩ ⟨pu_s, (pu_n (by decide) xO.2.1), (pu_n (by decide) xO.2.2.1), (pu_n (by decide) xO.2.2.2.1), (pu_n (by decide) xO.2.2.2.2.1), (pu_n (by decide) xO.2.2.2.2.2.1), (pu_n (by decide) xO.2.2.2.2.2.2.1), (pu_n (by decide) xO.2.2.2.2.2.2.2)⟩).mono (fun r h9 q9 => ?_)
    obtain ⟨q9r, q9_0, q9f⟩ := q9
    exact ⟨q9r, q9_0, fun k hk => (q9f k hk).trans (by rw [pu_x (show k ≠ 15 from fun e => by have := hk; simp at this; omega)])⟩
  · have c1 : ¬ ((fX7_isThere T 0) = 0) := c1
    rw [if_neg c1] at H
    refine Ev.go 4 (s' := ((pu h 15 (eO 2 [.ref 16, .ref 17, .ref 18, .ref 19, .ref 20, .ref 21, .ref 22, .int 0])), 17, [(0, .ref 15), (1, .ref 7)], [.int ((-1)), .int ((-1)), .int 0, .ref 15])) rfl ?_
    obtain ⟨y3, e2, H⟩ := Option.bind_eq_some_iff.mp H
    refine Ev.call rfl rfl rfl (p_argsV (by decide) pu_s (Nat.le_of_ble_eq_true rfl)) rfl (Nat.le_of_ble_eq_true rfl) ((spX3_take (h := (pu h 15 (eO 2 [.ref 16, .ref 17, .ref 18, .ref 19, .ref 20, .ref 21, .ref 22, .int 0]))) (O := (O.1, O.2.1, O.2.2.1, O.2.2.2.1, O.2.2.2.2.1, O.2.2.2.2.2.1, O.2.2.2.2.2.2.1, 0)) ⟨pu_s, (pu_n (by decide) xO.2.1), (pu_n (by decide) xO.2.2.1), (pu_n (by decide) xO.2.2.2.1), (pu_n (by decide) xO.2.2.2.2.1), (pu_n (by decide) xO.2.2.2.2.2.1), (pu_n (by decide) xO.2.2.2.2.2.2.1), (pu_n (by decide) xO.2.2.2.2.2.2.2)⟩ 0 (-1) (-1) e2).mono (fun r h4 q5 => ?_))
    obtain ⟨rfl, q5_O, q5_f⟩ := q5
    have i6 : isT h4 7 T := isT.fr q5_f (fr1 (by omega)) ⟨(pu_n (by decide) xT.1), (pu_n (by decide) xT.2.1), (pu_n (by decide) xT.2.2.1), (pu_n (by decide) xT.2.2.2.1), (by decide)⟩
    refine Ev.go 2 (s' := (h4, 22, [(0, .ref 15), (1, .ref 7), (2, .int 0)], [])) rfl ?_
    refine Ev.live rfl (lv' := [(0, .ref 15), (1, .ref 7), (2, .int 0)]) rfl ?_
    refine (llX3_read_22 n h4 0 y3 _ H i6 q5_O).mono (fun r h9 q9 => ?_)
    obtain ⟨q9r, q9_0, q9f⟩ := q9
    exact ⟨q9r, q9_0, fun k hk => (q9f k hk).trans (by rw [q5_f k (by have := hk; simp at this ⊢; omega)]; rw [pu_x (show k ≠ 15 from fun e => by have := hk; simp at this; omega)])⟩
def fX4_size (P : tP) : Int32 := P.2.2.2.2
theorem spX4_size {d : Nat} {h : pH} {P : tP} (xP : isP h P) : Ev d mX4_size (h, 0, [(0, .ref 23)], []) (fun r h1 => r = some (.int (fX4_size P)) ∧ h1 = h) := by
  refine Ev.go 1 (s' := (h, 1, [(0, .ref 23)], [.ref 23])) rfl ?_
  refine Ev.get rfl (by decide) xP.1 rfl ?_
  exact Ev.ret rfl rfl (p_retZ rfl) ⟨congrArg (fun z => some (Value.int z)) (by rw [fX4_size]), rfl⟩
def fX4_clear (P : tP) : Option (tP) := some (P.1, P.2.1, P.2.2.1, P.2.2.2.1, 0)
theorem spX4_clear {d : Nat} {h : pH} {P : tP} (xP : isP h P) {res : tP} (H : fX4_clear P = some res) : Ev d mX4_clear (h, 0, [(0, .ref 23)], []) (fun r h1 => r = none ∧ isP h1 res ∧ fr [(23, 28)] h h1) := by
  unfold fX4_clear at H
  refine Ev.go 2 (s' := (h, 2, [(0, .ref 23)], [.int 0, .ref 23])) rfl ?_
  refine Ev.put rfl rfl (by decide) xP.1 (Nat.le_of_ble_eq_true rfl) rfl rfl (fs' := [.ref 24, .ref 25, .ref 26, .ref 27, .int 0]) rfl ?_
  cases H
  exact Ev.ret rfl rfl rfl ⟨rfl, ⟨pu_s, (pu_n (by decide) xP.2.1), (pu_n (by decide) xP.2.2.1), (pu_n (by decide) xP.2.2.2.1), (pu_n (by decide) xP.2.2.2.2)⟩, (fun k hk => by rw [pu_x (show k ≠ 23 from fun e => by have := hk; simp at this; omega)])⟩
def fX4_forgetFirst (P : tP) : Option (tP) := some (va_cpy P.1 P.1 1 0 7, va_cpy P.2.1 P.2.1 1 0 7, va_cpy P.2.2.1 P.2.2.1 1 0 7, va_cpy P.2.2.2.1 P.2.2.2.1 1 0 7, 7)
theorem spX4_forgetFirst {d : Nat} {h : pH} {P : tP} (xP : isP h P) {res : tP} (H : fX4_forgetFirst P = some res) : Ev (d + 1) mX4_forgetFirst (h, 0, [(0, .ref 23)], []) (fun r h1 => r = none ∧ isP h1 res ∧ fr [(23, 28)] h h1) := by
  unfold fX4_forgetFirst at H
  refine Ev.go 2 (s' := (h, 3, [(0, .ref 23)], [.int 7, .ref 23])) rfl ?_
  refine Ev.put rfl rfl (by decide) xP.1 (Nat.le_of_ble_eq_true rfl) rfl rfl (fs' := [.ref 24, .ref 25, .ref 26, .ref 27, .int 7]) rfl ?_
  refine Ev.go 1 (s' := ((pu h 23 (eO 3 [.ref 24, .ref 25, .ref 26, .ref 27, .int 7])), 7, [(0, .ref 23)], [.ref 23])) rfl ?_
  refine Ev.get rfl (by decide) pu_s rfl ?_
  refine Ev.go 2 (s' := ((pu h 23 (eO 3 [.ref 24, .ref 25, .ref 26, .ref 27, .int 7])), 12, [(0, .ref 23)], [.ref 23, .int 1, .ref 24])) rfl ?_
  refine Ev.get rfl (by decide) pu_s rfl ?_
  refine Ev.go 2 (s' := ((pu h 23 (eO 3 [.ref 24, .ref 25, .ref 26, .ref 27, .int 7])), 17, [(0, .ref 23)], [.ref 23, .int 0, .ref 24, .int 1, .ref 24])) rfl ?_
  refine Ev.get rfl (by decide) pu_s rfl ?_
  refine Ev.cpy rfl rfl (by decide) (by decide) (pu_n (by decide) xP.2.1) (pu_n (by decide) xP.2.1) (by decide) (by decide) (by decide) (by decide) (by decide) (Nat.le_of_ble_eq_true rfl) ?_
  refine Ev.go 1 (s' := ((pu (pu h 23 (eO 3 [.ref 24, .ref 25, .ref 26, .ref 27, .int 7])) 24 (eI 8 (va_cpy P.1 P.1 1 0 7))), 24, [(0, .ref 23)], [.ref 23])) rfl ?_
  refine Ev.get rfl (by decide) (pu_n (by decide) pu_s) rfl ?_
  refine Ev.go 2 (s' := ((pu (pu h 23 (eO 3 [.ref 24, .ref 25, .ref 26, .ref 27, .int 7])) 24 (eI 8 (va_cpy P.1 P.1 1 0 7))), 29, [(0, .ref 23)], [.ref 23, .int 1, .ref 25])) rfl ?_
  refine Ev.get rfl (by decide) (pu_n (by decide) pu_s) rfl ?_
  refine Ev.go 2 (s' := ((pu (pu h 23 (eO 3 [.ref 24, .ref 25, .ref 26, .ref 27, .int 7])) 24 (eI 8 (va_cpy P.1 P.1 1 0 7))), 34, [(0, .ref 23)], [.ref 23, .int 0, .ref 25, .int 1, .ref 25])) rfl ?_
  refine Ev.get rfl (by decide) (pu_n (by decide) pu_s) rfl ?_
  refine Ev.cpy rfl rfl (by decide) (by decide) (pu_n (by decide) (pu_n (by decide) xP.2.2.1)) (pu_n (by decide) (pu_n (by decide) xP.2.2.1)) (by decide) (by decide) (by decide) (by decide) (by decide) (Nat.le_of_ble_eq_true rfl) ?_
  refine Ev.go 1 (s' := ((pu (pu (pu h 23 (eO 3 [.ref 24, .ref 25, .ref 26, .ref 27, .int 7])) 24 (eI 8 (va_cpy P.1 P.1 1 0 7))) 25 (eI 8 (va_cpy P.2.1 P.2.1 1 0 7))), 41, [(0, .ref 23)], [.ref 23])) rfl ?_
  refine Ev.get rfl (by decide) (pu_n (by decide) (pu_n (by decide) pu_s)) rfl ?_
  refine Ev.go 2 (s' := ((pu (pu (pu h 23 (eO 3 [.ref 24, .ref 25, .ref 26, .ref 27, .int 7])) 24 (eI 8 (va_cpy P.1 P.1 1 0 7))) 25 (eI 8 (va_cpy P.2.1 P.2.1 1 0 7))), 46, [(0, .ref 23)], [.ref 23, .int 1, .ref 26])) rfl ?_
  refine Ev.get rfl (by decide) (pu_n (by decide) (pu_n (by decide) pu_s)) rfl ?_
  refine Ev.go 2 (s' := ((pu (pu (pu h 23 (eO 3 [.ref 24, .ref 25, .ref 26, .ref 27, .int 7])) 24 (eI 8 (va_cpy P.1 P.1 1 0 7))) 25 (eI 8 (va_cpy P.2.1 P.2.1 1 0 7))), 51, [(0, .ref 23)], [.ref 23, .int 0, .ref 26, .int 1, .ref 26])) rfl ?_
  refine Ev.get rfl (by decide) (pu_n (by decide) (pu_n (by decide) pu_s)) rfl ?_
  refine Ev.cpy rfl rfl (by decide) (by decide) (pu_n (by decide) (pu_n (by decide) (pu_n (by decide) xP.2.2.2.1))) (pu_n (by decide) (pu_n (by decide) (pu_n (by decide) xP.2.2.2.1))) (by decide) (by decide) (by decide) (by decide) (by decide) (Nat.le_of_ble_eq_true rfl) ?_
  refine Ev.go 1 (s' := ((pu (pu (pu (pu h 23 (eO 3 [.ref 24, .ref 25, .ref 26, .ref 27, .int 7])) 24 (eI 8 (va_cpy P.1 P.1 1 0 7))) 25 (eI 8 (va_cpy P.2.1 P.2.1 1 0 7))) 26 (eI 8 (va_cpy P.2.2.1 P.2.2.1 1 0 7))), 58, [(0, .ref 23)], [.ref 23])) rfl ?_
  refine Ev.get rfl (by decide) (pu_n (by decide) (pu_n (by decide) (pu_n (by decide) pu_s))) rfl ?_
  refine Ev.go 2 (s' := ((pu (pu (pu (pu h 23 (eO 3 [.ref 24, .ref 25, .ref 26, .ref 27, .int 7])) 24 (eI 8 (va_cpy P.1 P.1 1 0 7))) 25 (eI 8 (va_cpy P.2.1 P.2.1 1 0 7))) 26 (eI 8 (va_cpy P.2.2.1 P.2.2.1 1 0 7))), 63, [(0, .ref 23)], [.ref 23, .int 1, .ref 27])) rfl ?_
  refine Ev.get rfl (by decide) (pu_n (by decide) (pu_n (by decide) (pu_n (by decide) pu_s))) rfl ?_
  refine Ev.go 2 (s' := ((pu (pu (pu (pu h 23 (eO 3 [.ref 24, .ref 25, .ref 26, .ref 27, .int 7])) 24 (eI 8 (va_cpy P.1 P.1 1 0 7))) 25 (eI 8 (va_cpy P.2.1 P.2.1 1 0 7))) 26 (eI 8 (va_cpy P.2.2.1 P.2.2.1 1 0 7))), 68, [(0, .ref 23)], [.ref 23, .int 0, .ref 27, .int 1, .ref 27])) rfl ?_
  refine Ev.get rfl (by decide) (pu_n (by decide) (pu_n (by decide) (pu_n (by decide) pu_s))) rfl ?_
  refine Ev.cpy rfl rfl (by decide) (by decide) (pu_n (by decide) (pu_n (by decide) (pu_n (by decide) (pu_n (by decide) xP.2.2.2.2)))) (pu_n (by decide) (pu_n (by decide) (pu_n (by decide) (pu_n (by decide) xP.2.2.2.2)))) (by decide) (by decide) (by decide) (by decide) (by decide) (Nat.le_of_ble_eq_true rfl) ?_
  cases H
  exact Ev.ret rfl rfl rfl ⟨rfl, ⟨(pu_n (by decide) (pu_n (by decide) (pu_n (by decide) (pu_n (by decide) pu_s)))), (pu_n (by decide) (pu_n (by decide) (pu_n (by decide) pu_s))), (pu_n (by decide) (pu_n (by decide) pu_s)), (pu_n (by decide) pu_s), pu_s⟩, (fun k hk => by rw [pu_x (show k ≠ 27 from fun e => by have := hk; simp at this; omega)]; rw [pu_x (show k ≠ 26 from fun e => by have := hk; simp at this; omega)]; rw [pu_x (show k ≠ 25 from fun e => by have := hk; simp at this; omega)]; rw [pu_x (show k ≠ 24 from fun e => by have := hk; simp at this; omega)]; rw [pu_x (show k ≠ 23 from fun e => by have := hk; simp at this; omega)])⟩
def fX4_record (P : tP) (T : tT) (toBeTagged : Int32) : Option (tP) := (if P.2.2.2.2 < 8 then (if P.2.2.2.2 < 0 ∨ 8 ≤ P.2.2.2.2.toNatClampNeg then none else some (upd P.1 P.2.2.2.2.toNatClampNeg (fX7_bits T), upd P.2.1 P.2.2.2.2.toNatClampNeg (fX7_came T), upd P.2.2.1 P.2.2.2.2.toNatClampNeg toBeTagged, upd P.2.2.2.1 P.2.2.2.2.toNatClampNeg (fX7_tagOf T toBeTagged), P.2.2.2.2 + 1)) else ((fX4_forgetFirst P).bind fun y4 => (if y4.2.2.2.2 < 0 ∨ 8 ≤ y4.2.2.2.2.toNatClampNeg then none else some (upd y4.1 y4.2.2.2.2.toNatClampNeg (fX7_bits T), upd y4.2.1 y4.2.2.2.2.toNatClampNeg (fX7_came T), upd y4.2.2.1 y4.2.2.2.2.toNatClampNeg toBeTagged, upd y4.2.2.2.1 y4.2.2.2.2.toNatClampNeg (fX7_tagOf T toBeTagged), y4.2.2.2.2 + 1))))
theorem spX4_record {d : Nat} {h : pH} {P : tP} {T : tT} (xP : isP h P) (xT : isT h 7 T) (toBeTagged : Int32) {res : tP} (H : fX4_record P T toBeTagged = some res) : Ev (d + 2) mX4_record (h, 0, [(0, .ref 23), (1, .ref 7), (2, .int toBeTagged)], []) (fun r h1 => r = none ∧ isP h1 res ∧ fr [(23, 28)] h h1) := by
  unfold fX4_record at H
  refine Ev.go 1 (s' := (h, 1, [(0, .ref 23), (1, .ref 7), (2, .int toBeTagged)], [.ref 23])) rfl ?_
  refine Ev.get rfl (by decide) xP.1 rfl ?_
  refine Ev.go 1 (s' := (h, 6, [(0, .ref 23), (1, .ref 7), (2, .int toBeTagged)], [.int 8, .int P.2.2.2.2])) rfl ?_
  refine Ev.if2 rfl (fun c1 => ?_) (fun c1 => ?_)
  · have c1 : P.2.2.2.2 < 8 := c1
    rw [if_pos c1] at H
    refine Ev.go 1 (s' := (h, 14, [(0, .ref 23), (1, .ref 7), (2, .int toBeTagged)], [.ref 23])) rfl ?_
    refine Ev.get rfl (by decide) xP.1 rfl ?_
    refine Ev.go 1 (s' := (h, 18, [(0, .ref 23), (1, .ref 7), (2, .int toBeTagged)], [.ref 23, .ref 24])) rfl ?_
    refine Ev.get rfl (by decide) xP.1 rfl ?_
    refine Ev.go 1 (s' := (h, 22, [(0, .ref 23), (1, .ref 7), (2, .int toBeTagged)], [.ref 7, .int P.2.2.2.2, .ref 24])) rfl ?_
    refine Ev.callE rfl rfl rfl (p_argsV (by decide) xT.1 (Nat.le_of_ble_eq_true rfl)) rfl (Nat.le_of_ble_eq_true rfl) (spX7_bits xT ) ?_
    have v2 : vp_in P.2.2.2.2 8 := fun q => by rw [if_pos q] at H; cases H
    rw [if_neg v2] at H
    refine Ev.iast rfl (by decide) xP.2.1 v2 ?_
    refine Ev.go 1 (s' := ((pu h 24 (eI 8 (upd P.1 P.2.2.2.2.toNatClampNeg (fX7_bits T)))), 27, [(0, .ref 23), (1, .ref 7), (2, .int toBeTagged)], [.ref 23])) rfl ?_
    refine Ev.get rfl (by decide) (pu_n (by decide) xP.1) rfl ?_
    refine Ev.go 1 (s' := ((pu h 24 (eI 8 (upd P.1 P.2.2.2.2.toNatClampNeg (fX7_bits T)))), 31, [(0, .ref 23), (1, .ref 7), (2, .int toBeTagged)], [.ref 23, .ref 25])) rfl ?_
    refine Ev.get rfl (by decide) (pu_n (by decide) xP.1) rfl ?_
    refine Ev.go 1 (s' := ((pu h 24 (eI 8 (upd P.1 P.2.2.2.2.toNatClampNeg (fX7_bits T)))), 35, [(0, .ref 23), (1, .ref 7), (2, .int toBeTagged)], [.ref 7, .int P.2.2.2.2, .ref 25])) rfl ?_
    refine Ev.callE rfl rfl rfl (p_argsV (by decide) (pu_n (by decide) xT.1) (Nat.le_of_ble_eq_true rfl)) rfl (Nat.le_of_ble_eq_true rfl) (spX7_came (h := (pu h 24 (eI 8 (upd P.1 P.2.2.2.2.toNatClampNeg (fX7_bits T))))) (T := T) ⟨(pu_n (by decide) xT.1), (pu_n (by decide) xT.2.1), (pu_n (by decide) xT.2.2.1), (pu_n (by decide) xT.2.2.2.1), (by decide)⟩ ) ?_
    refine Ev.iast rfl (by decide) (pu_n (by decide) xP.2.2.1) v2 ?_
    refine Ev.go 1 (s' := ((pu (pu h 24 (eI 8 (upd P.1 P.2.2.2.2.toNatClampNeg (fX7_bits T)))) 25 (eI 8 (upd P.2.1 P.2.2.2.2.toNatClampNeg (fX7_came T)))), 40, [(0, .ref 23), (1, .ref 7), (2, .int toBeTagged)], [.ref 23])) rfl ?_
    refine Ev.get rfl (by decide) (pu_n (by decide) (pu_n (by decide) xP.1)) rfl ?_
    refine Ev.go 1 (s' := ((pu (pu h 24 (eI 8 (upd P.1 P.2.2.2.2.toNatClampNeg (fX7_bits T)))) 25 (eI 8 (upd P.2.1 P.2.2.2.2.toNatClampNeg (fX7_came T)))), 44, [(0, .ref 23), (1, .ref 7), (2, .int toBeTagged)], [.ref 23, .ref 26])) rfl ?_
    refine Ev.get rfl (by decide) (pu_n (by decide) (pu_n (by decide) xP.1)) rfl ?_
    refine Ev.go 1 (s' := ((pu (pu h 24 (eI 8 (upd P.1 P.2.2.2.2.toNatClampNeg (fX7_bits T)))) 25 (eI 8 (upd P.2.1 P.2.2.2.2.toNatClampNeg (fX7_came T)))), 48, [(0, .ref 23), (1, .ref 7), (2, .int toBeTagged)], [.int toBeTagged, .int P.2.2.2.2, .ref 26])) rfl ?_
    refine Ev.iast rfl (by decide) (pu_n (by decide) (pu_n (by decide) xP.2.2.2.1)) v2 ?_
    refine Ev.go 1 (s' := ((pu (pu (pu h 24 (eI 8 (upd P.1 P.2.2.2.2.toNatClampNeg (fX7_bits T)))) 25 (eI 8 (upd P.2.1 P.2.2.2.2.toNatClampNeg (fX7_came T)))) 26 (eI 8 (upd P.2.2.1 P.2.2.2.2.toNatClampNeg toBeTagged))), 50, [(0, .ref 23), (1, .ref 7), (2, .int toBeTagged)], [.ref 23])) rfl ?_
    refine Ev.get rfl (by decide) (pu_n (by decide) (pu_n (by decide) (pu_n (by decide) xP.1))) rfl ?_
    refine Ev.go 1 (s' := ((pu (pu (pu h 24 (eI 8 (upd P.1 P.2.2.2.2.toNatClampNeg (fX7_bits T)))) 25 (eI 8 (upd P.2.1 P.2.2.2.2.toNatClampNeg (fX7_came T)))) 26 (eI 8 (upd P.2.2.1 P.2.2.2.2.toNatClampNeg toBeTagged))), 54, [(0, .ref 23), (1, .ref 7), (2, .int toBeTagged)], [.ref 23, .ref 27])) rfl ?_
    refine Ev.get rfl (by decide) (pu_n (by decide) (pu_n (by decide) (pu_n (by decide) xP.1))) rfl ?_
    refine Ev.go 2 (s' := ((pu (pu (pu h 24 (eI 8 (upd P.1 P.2.2.2.2.toNatClampNeg (fX7_bits T)))) 25 (eI 8 (upd P.2.1 P.2.2.2.2.toNatClampNeg (fX7_came T)))) 26 (eI 8 (upd P.2.2.1 P.2.2.2.2.toNatClampNeg toBeTagged))), 59, [(0, .ref 23), (1, .ref 7), (2, .int toBeTagged)], [.int toBeTagged, .ref 7, .int P.2.2.2.2, .ref 27])) rfl ?_
    refine Ev.callE rfl rfl rfl (p_argsV (by decide) (pu_n (by decide) (pu_n (by decide) (pu_n (by decide) xT.1))) (Nat.le_of_ble_eq_true rfl)) rfl (Nat.le_of_ble_eq_true rfl) (spX7_tagOf (h := (pu (pu (pu h 24 (eI 8 (upd P.1 P.2.2.2.2.toNatClampNeg (fX7_bits T)))) 25 (eI 8 (upd P.2.1 P.2.2.2.2.toNatClampNeg (fX7_came T)))) 26 (eI 8 (upd P.2.2.1 P.2.2.2.2.toNatClampNeg toBeTagged)))) (T := T) ⟨(pu_n (by decide) (pu_n (by decide) (pu_n (by decide) xT.1))), (pu_n (by decide) (pu_n (by decide) (pu_n (by decide) xT.2.1))), (pu_n (by decide) (pu_n (by decide) (pu_n (by decide) xT.2.2.1))), (pu_n (by decide) (pu_n (by decide) (pu_n (by decide) xT.2.2.2.1))), (by decide)⟩ toBeTagged) ?_
    refine Ev.iast rfl (by decide) (pu_n (by decide) (pu_n (by decide) (pu_n (by decide) xP.2.2.2.2))) v2 ?_
    refine Ev.go 2 (s' := ((pu (pu (pu (pu h 24 (eI 8 (upd P.1 P.2.2.2.2.toNatClampNeg (fX7_bits T)))) 25 (eI 8 (upd P.2.1 P.2.2.2.2.toNatClampNeg (fX7_came T)))) 26 (eI 8 (upd P.2.2.1 P.2.2.2.2.toNatClampNeg toBeTagged))) 27 (eI 8 (upd P.2.2.2.1 P.2.2.2.2.toNatClampNeg (fX7_tagOf T toBeTagged)))), 65, [(0, .ref 23), (1, .ref 7), (2, .int toBeTagged)], [.ref 23, .ref 23])) rfl ?_
    refine Ev.get rfl (by decide) (pu_n (by decide) (pu_n (by decide) (pu_n (by decide) (pu_n (by decide) xP.1)))) rfl ?_
    refine Ev.go 2 (s' := ((pu (pu (pu (pu h 24 (eI 8 (upd P.1 P.2.2.2.2.toNatClampNeg (fX7_bits T)))) 25 (eI 8 (upd P.2.1 P.2.2.2.2.toNatClampNeg (fX7_came T)))) 26 (eI 8 (upd P.2.2.1 P.2.2.2.2.toNatClampNeg toBeTagged))) 27 (eI 8 (upd P.2.2.2.1 P.2.2.2.2.toNatClampNeg (fX7_tagOf T toBeTagged)))), 70, [(0, .ref 23), (1, .ref 7), (2, .int toBeTagged)], [.int (P.2.2.2.2 + 1), .ref 23])) rfl ?_
    refine Ev.put rfl rfl (by decide) (pu_n (by decide) (pu_n (by decide) (pu_n (by decide) (pu_n (by decide) xP.1)))) (Nat.le_of_ble_eq_true rfl) rfl rfl (fs' := [.ref 24, .ref 25, .ref 26, .ref 27, .int (P.2.2.2.2 + 1)]) rfl ?_
    cases H
    exact Ev.ret rfl rfl rfl ⟨rfl, ⟨pu_s, (pu_n (by decide) (pu_n (by decide) (pu_n (by decide) (pu_n (by decide) pu_s)))), (pu_n (by decide) (pu_n (by decide) (pu_n (by decide) pu_s))), (pu_n (by decide) (pu_n (by decide) pu_s)), (pu_n (by decide) pu_s)⟩, (fun k hk => by rw [pu_x (show k ≠ 23 from fun e => by have := hk; simp at this; omega)]; rw [pu_x (show k ≠ 27 from fun e => by have := hk; simp at this; omega)]; rw [pu_x (show k ≠ 26 from fun e => by have := hk; simp at this; omega)]; rw [pu_x (show k ≠ 25 from fun e => by have := hk; simp at this; omega)]; rw [pu_x (show k ≠ 24 from fun e => by have := hk; simp at this; omega)])⟩
  · have c1 : ¬ (P.2.2.2.2 < 8) := c1
    rw [if_neg c1] at H
    refine Ev.go 1 (s' := (h, 10, [(0, .ref 23), (1, .ref 7), (2, .int toBeTagged)], [.ref 23])) rfl ?_
    obtain ⟨y4, e3, H⟩ := Option.bind_eq_some_iff.mp H
    refine Ev.call rfl rfl rfl (p_argsV (by decide) xP.1 (Nat.le_of_ble_eq_true rfl)) rfl (Nat.le_of_ble_eq_true rfl) ((spX4_forgetFirst xP  e3).mono (fun r h5 q6 => ?_))
    obtain ⟨rfl, q6_P, q6_f⟩ := q6
    have i7 : isT h5 7 T := isT.fr q6_f (fr1 (by omega)) xT
    refine Ev.go 1 (s' := (h5, 14, [(0, .ref 23), (1, .ref 7), (2, .int toBeTagged)], [.ref 23])) rfl ?_
    refine Ev.get rfl (by decide) q6_P.1 rfl ?_
    refine Ev.go 1 (s' := (h5, 18, [(0, .ref 23), (1, .ref 7), (2, .int toBeTagged)], [.ref 23, .ref 24])) rfl ?_
    refine Ev.get rfl (by decide) q6_P.1 rfl ?_
    refine Ev.go 1 (s' := (h5, 22, [(0, .ref 23), (1, .ref 7), (2, .int toBeTagged)], [.ref 7, .int y4.2.2.2.2, .ref 24])) rfl ?_
    refine Ev.callE rfl rfl rfl (p_argsV (by decide) i7.1 (Nat.le_of_ble_eq_true rfl)) rfl (Nat.le_of_ble_eq_true rfl) (spX7_bits i7 ) ?_
    have v8 : vp_in y4.2.2.2.2 8 := fun q => by rw [if_pos q] at H; cases H
    rw [if_neg v8] at H
    refine Ev.iast rfl (by decide) q6_P.2.1 v8 ?_
    refine Ev.go 1 (s' := ((pu h5 24 (eI 8 (upd y4.1 y4.2.2.2.2.toNatClampNeg (fX7_bits T)))), 27, [(0, .ref 23), (1, .ref 7), (2, .int toBeTagged)], [.ref 23])) rfl ?_
    refine Ev.get rfl (by decide) (pu_n (by decide) q6_P.1) rfl ?_
    refine Ev.go 1 (s' := ((pu h5 24 (eI 8 (upd y4.1 y4.2.2.2.2.toNatClampNeg (fX7_bits T)))), 31, [(0, .ref 23), (1, .ref 7), (2, .int toBeTagged)], [.ref 23, .ref 25])) rfl ?_
    refine Ev.get rfl (by decide) (pu_n (by decide) q6_P.1) rfl ?_
    refine Ev.go 1 (s' := ((pu h5 24 (eI 8 (upd y4.1 y4.2.2.2.2.toNatClampNeg (fX7_bits T)))), 35, [(0, .ref 23), (1, .ref 7), (2, .int toBeTagged)], [.ref 7, .int y4.2.2.2.2, .ref 25])) rfl ?_
    refine Ev.callE rfl rfl rfl (p_argsV (by decide) (pu_n (by decide) i7.1) (Nat.le_of_ble_eq_true rfl)) rfl (Nat.le_of_ble_eq_true rfl) (spX7_came (h := (pu h5 24 (eI 8 (upd y4.1 y4.2.2.2.2.toNatClampNeg (fX7_bits T))))) (T := T) ⟨(pu_n (by decide) i7.1), (pu_n (by decide) i7.2.1), (pu_n (by decide) i7.2.2.1), (pu_n (by decide) i7.2.2.2.1), (by decide)⟩ ) ?_
    refine Ev.iast rfl (by decide) (pu_n (by decide) q6_P.2.2.1) v8 ?_
    refine Ev.go 1 (s' := ((pu (pu h5 24 (eI 8 (upd y4.1 y4.2.2.2.2.toNatClampNeg (fX7_bits T)))) 25 (eI 8 (upd y4.2.1 y4.2.2.2.2.toNatClampNeg (fX7_came T)))), 40, [(0, .ref 23), (1, .ref 7), (2, .int toBeTagged)], [.ref 23])) rfl ?_
    refine Ev.get rfl (by decide) (pu_n (by decide) (pu_n (by decide) q6_P.1)) rfl ?_
    refine Ev.go 1 (s' := ((pu (pu h5 24 (eI 8 (upd y4.1 y4.2.2.2.2.toNatClampNeg (fX7_bits T)))) 25 (eI 8 (upd y4.2.1 y4.2.2.2.2.toNatClampNeg (fX7_came T)))), 44, [(0, .ref 23), (1, .ref 7), (2, .int toBeTagged)], [.ref 23, .ref 26])) rfl ?_
    refine Ev.get rfl (by decide) (pu_n (by decide) (pu_n (by decide) q6_P.1)) rfl ?_
    refine Ev.go 1 (s' := ((pu (pu h5 24 (eI 8 (upd y4.1 y4.2.2.2.2.toNatClampNeg (fX7_bits T)))) 25 (eI 8 (upd y4.2.1 y4.2.2.2.2.toNatClampNeg (fX7_came T)))), 48, [(0, .ref 23), (1, .ref 7), (2, .int toBeTagged)], [.int toBeTagged, .int y4.2.2.2.2, .ref 26])) rfl ?_
    refine Ev.iast rfl (by decide) (pu_n (by decide) (pu_n (by decide) q6_P.2.2.2.1)) v8 ?_
    refine Ev.go 1 (s' := ((pu (pu (pu h5 24 (eI 8 (upd y4.1 y4.2.2.2.2.toNatClampNeg (fX7_bits T)))) 25 (eI 8 (upd y4.2.1 y4.2.2.2.2.toNatClampNeg (fX7_came T)))) 26 (eI 8 (upd y4.2.2.1 y4.2.2.2.2.toNatClampNeg toBeTagged))), 50, [(0, .ref 23), (1, .ref 7), (2, .int toBeTagged)], [.ref 23])) rfl ?_
    refine Ev.get rfl (by decide) (pu_n (by decide) (pu_n (by decide) (pu_n (by decide) q6_P.1))) rfl ?_
    refine Ev.go 1 (s' := ((pu (pu (pu h5 24 (eI 8 (upd y4.1 y4.2.2.2.2.toNatClampNeg (fX7_bits T)))) 25 (eI 8 (upd y4.2.1 y4.2.2.2.2.toNatClampNeg (fX7_came T)))) 26 (eI 8 (upd y4.2.2.1 y4.2.2.2.2.toNatClampNeg toBeTagged))), 54, [(0, .ref 23), (1, .ref 7), (2, .int toBeTagged)], [.ref 23, .ref 27])) rfl ?_
    refine Ev.get rfl (by decide) (pu_n (by decide) (pu_n (by decide) (pu_n (by decide) q6_P.1))) rfl ?_
    refine Ev.go 2 (s' := ((pu (pu (pu h5 24 (eI 8 (upd y4.1 y4.2.2.2.2.toNatClampNeg (fX7_bits T)))) 25 (eI 8 (upd y4.2.1 y4.2.2.2.2.toNatClampNeg (fX7_came T)))) 26 (eI 8 (upd y4.2.2.1 y4.2.2.2.2.toNatClampNeg toBeTagged))), 59, [(0, .ref 23), (1, .ref 7), (2, .int toBeTagged)], [.int toBeTagged, .ref 7, .int y4.2.2.2.2, .ref 27])) rfl ?_
    refine Ev.callE rfl rfl rfl (p_argsV (by decide) (pu_n (by decide) (pu_n (by decide) (pu_n (by decide) i7.1))) (Nat.le_of_ble_eq_true rfl)) rfl (Nat.le_of_ble_eq_true rfl) (spX7_tagOf (h := (pu (pu (pu h5 24 (eI 8 (upd y4.1 y4.2.2.2.2.toNatClampNeg (fX7_bits T)))) 25 (eI 8 (upd y4.2.1 y4.2.2.2.2.toNatClampNeg (fX7_came T)))) 26 (eI 8 (upd y4.2.2.1 y4.2.2.2.2.toNatClampNeg toBeTagged)))) (T := T) ⟨(pu_n (by decide) (pu_n (by decide) (pu_n (by decide) i7.1))), (pu_n (by decide) (pu_n (by decide) (pu_n (by decide) i7.2.1))), (pu_n (by decide) (pu_n (by decide) (pu_n (by decide) i7.2.2.1))), (pu_n (by decide) (pu_n (by decide) (pu_n (by decide) i7.2.2.2.1))), (by decide)⟩ toBeTagged) ?_
    refine Ev.iast rfl (by decide) (pu_n (by decide) (pu_n (by decide) (pu_n (by decide) q6_P.2.2.2.2))) v8 ?_
    refine Ev.go 2 (s' := ((pu (pu (pu (pu h5 24 (eI 8 (upd y4.1 y4.2.2.2.2.toNatClampNeg (fX7_bits T)))) 25 (eI 8 (upd y4.2.1 y4.2.2.2.2.toNatClampNeg (fX7_came T)))) 26 (eI 8 (upd y4.2.2.1 y4.2.2.2.2.toNatClampNeg toBeTagged))) 27 (eI 8 (upd y4.2.2.2.1 y4.2.2.2.2.toNatClampNeg (fX7_tagOf T toBeTagged)))), 65, [(0, .ref 23), (1, .ref 7), (2, .int toBeTagged)], [.ref 23, .ref 23])) rfl ?_
    refine Ev.get rfl (by decide) (pu_n (by decide) (pu_n (by decide) (pu_n (by decide) (pu_n (by decide) q6_P.1)))) rfl ?_
    refine Ev.go 2 (s' := ((pu (pu (pu (pu h5 24 (eI 8 (upd y4.1 y4.2.2.2.2.toNatClampNeg (fX7_bits T)))) 25 (eI 8 (upd y4.2.1 y4.2.2.2.2.toNatClampNeg (fX7_came T)))) 26 (eI 8 (upd y4.2.2.1 y4.2.2.2.2.toNatClampNeg toBeTagged))) 27 (eI 8 (upd y4.2.2.2.1 y4.2.2.2.2.toNatClampNeg (fX7_tagOf T toBeTagged)))), 70, [(0, .ref 23), (1, .ref 7), (2, .int toBeTagged)], [.int (y4.2.2.2.2 + 1), .ref 23])) rfl ?_
    refine Ev.put rfl rfl (by decide) (pu_n (by decide) (pu_n (by decide) (pu_n (by decide) (pu_n (by decide) q6_P.1)))) (Nat.le_of_ble_eq_true rfl) rfl rfl (fs' := [.ref 24, .ref 25, .ref 26, .ref 27, .int (y4.2.2.2.2 + 1)]) rfl ?_
    cases H
    exact Ev.ret rfl rfl rfl ⟨rfl, ⟨pu_s, (pu_n (by decide) (pu_n (by decide) (pu_n (by decide) (pu_n (by decide) pu_s)))), (pu_n (by decide) (pu_n (by decide) (pu_n (by decide) pu_s))), (pu_n (by decide) (pu_n (by decide) pu_s)), (pu_n (by decide) pu_s)⟩, (fun k hk => by rw [pu_x (show k ≠ 23 from fun e => by have := hk; simp at this; omega)]; rw [pu_x (show k ≠ 27 from fun e => by have := hk; simp at this; omega)]; rw [pu_x (show k ≠ 26 from fun e => by have := hk; simp at this; omega)]; rw [pu_x (show k ≠ 25 from fun e => by have := hk; simp at this; omega)]; rw [pu_x (show k ≠ 24 from fun e => by have := hk; simp at this; omega)]; rw [q6_f k (by have := hk; simp at this ⊢; omega)])⟩
def fX4_restore (P : tP) (T : tT) : Option (tP × tT) := (if P.2.2.2.2 ≤ 0 then some (P, T) else (if (P.2.2.2.2 - 1) < 0 ∨ 8 ≤ (P.2.2.2.2 - 1).toNatClampNeg then none else ((fX7_rewind T (P.1 (P.2.2.2.2 - 1).toNatClampNeg) (P.2.1 (P.2.2.2.2 - 1).toNatClampNeg)).bind fun y4 => (if ((P.1, P.2.1, P.2.2.1, P.2.2.2.1, P.2.2.2.2 - 1).2.2.2.2) < 0 ∨ 8 ≤ ((P.1, P.2.1, P.2.2.1, P.2.2.2.1, P.2.2.2.2 - 1).2.2.2.2).toNatClampNeg then none else ((fX7_setTag y4 (((P.1, P.2.1, P.2.2.1, P.2.2.2.1, P.2.2.2.2 - 1).2.2.1) ((P.1, P.2.1, P.2.2.1, P.2.2.2.1, P.2.2.2.2 - 1).2.2.2.2).toNatClampNeg) (((P.1, P.2.1, P.2.2.1, P.2.2.2.1, P.2.2.2.2 - 1).2.2.2.1) ((P.1, P.2.1, P.2.2.1, P.2.2.2.1, P.2.2.2.2 - 1).2.2.2.2).toNatClampNeg)).bind fun y10 => some ((P.1, P.2.1, P.2.2.1, P.2.2.2.1, P.2.2.2.2 - 1), y10))))))
theorem spX4_restore {d : Nat} {h : pH} {P : tP} {T : tT} (xP : isP h P) (xT : isT h 7 T) {res : tP × tT} (H : fX4_restore P T = some res) : Ev (d + 2) mX4_restore (h, 0, [(0, .ref 23), (1, .ref 7)], []) (fun r h1 => r = none ∧ isP h1 res.1 ∧ isT h1 7 res.2 ∧ fr [(23, 28), (7, 11)] h h1) := by
  unfold fX4_restore at H
  refine Ev.go 1 (s' := (h, 1, [(0, .ref 23), (1, .ref 7)], [.ref 23])) rfl ?_
  refine Ev.get rfl (by decide) xP.1 rfl ?_
  refine Ev.if1 rfl (fun c1 => ?_) (fun c1 => ?_)
  · have c1 : P.2.2.2.2 ≤ 0 := c1
    rw [if_pos c1] at H
    cases H
    exact Ev.ret rfl rfl rfl ⟨rfl, xP, xT, (fun k _ => rfl)⟩
  · have c1 : ¬ (P.2.2.2.2 ≤ 0) := c1
    rw [if_neg c1] at H
    refine Ev.go 2 (s' := (h, 9, [(0, .ref 23), (1, .ref 7)], [.ref 23, .ref 23])) rfl ?_
    refine Ev.get rfl (by decide) xP.1 rfl ?_
    refine Ev.go 2 (s' := (h, 14, [(0, .ref 23), (1, .ref 7)], [.int (P.2.2.2.2 - 1), .ref 23])) rfl ?_
    refine Ev.put rfl rfl (by decide) xP.1 (Nat.le_of_ble_eq_true rfl) rfl rfl (fs' := [.ref 24, .ref 25, .ref 26, .ref 27, .int (P.2.2.2.2 - 1)]) rfl ?_
    refine Ev.go 2 (s' := ((pu h 23 (eO 3 [.ref 24, .ref 25, .ref 26, .ref 27, .int (P.2.2.2.2 - 1)])), 19, [(0, .ref 23), (1, .ref 7)], [.ref 23, .ref 7])) rfl ?_
    refine Ev.get rfl (by decide) pu_s rfl ?_
    refine Ev.go 1 (s' := ((pu h 23 (eO 3 [.ref 24, .ref 25, .ref 26, .ref 27, .int (P.2.2.2.2 - 1)])), 23, [(0, .ref 23), (1, .ref 7)], [.ref 23, .ref 24, .ref 7])) rfl ?_
    refine Ev.get rfl (by decide) pu_s rfl ?_
    have v2 : vp_in (P.2.2.2.2 - 1) 8 := fun q => by rw [if_pos q] at H; cases H
    rw [if_neg v2] at H
    refine Ev.iald rfl (by decide) (pu_n (by decide) xP.2.1) v2 ?_
    refine Ev.go 1 (s' := ((pu h 23 (eO 3 [.ref 24, .ref 25, .ref 26, .ref 27, .int (P.2.2.2.2 - 1)])), 28, [(0, .ref 23), (1, .ref 7)], [.ref 23, .int (P.1 (P.2.2.2.2 - 1).toNatClampNeg), .ref 7])) rfl ?_
    refine Ev.get rfl (by decide) pu_s rfl ?_
    refine Ev.go 1 (s' := ((pu h 23 (eO 3 [.ref 24, .ref 25, .ref 26, .ref 27, .int (P.2.2.2.2 - 1)])), 32, [(0, .ref 23), (1, .ref 7)], [.ref 23, .ref 25, .int (P.1 (P.2.2.2.2 - 1).toNatClampNeg), .ref 7])) rfl ?_
    refine Ev.get rfl (by decide) pu_s rfl ?_
    refine Ev.iald rfl (by decide) (pu_n (by decide) xP.2.2.1) v2 ?_
    obtain ⟨y4, e3, H⟩ := Option.bind_eq_some_iff.mp H
    refine Ev.call rfl rfl rfl (p_argsV (by decide) (pu_n (by decide) xT.1) (Nat.le_of_ble_eq_true rfl)) rfl (Nat.le_of_ble_eq_true rfl) ((spX7_rewind (h := (pu h 23 (eO 3 [.ref 24, .ref 25, .ref 26, .ref 27, .int (P.2.2.2.2 - 1)]))) (T := T) ⟨(pu_n (by decide) xT.1), (pu_n (by decide) xT.2.1), (pu_n (by decide) xT.2.2.1), (pu_n (by decide) xT.2.2.2.1), (by decide)⟩ (P.1 (P.2.2.2.2 - 1).toNatClampNeg) (P.2.1 (P.2.2.2.2 - 1).toNatClampNeg) e3).mono (fun r h5 q6 => ?_))
    obtain ⟨rfl, q6_T, q6_f⟩ := q6
    have i7 : isP h5 (P.1, P.2.1, P.2.2.1, P.2.2.2.1, P.2.2.2.2 - 1) := isP.fr q6_f (fr1 (by omega)) ⟨pu_s, (pu_n (by decide) xP.2.1), (pu_n (by decide) xP.2.2.1), (pu_n (by decide) xP.2.2.2.1), (pu_n (by decide) xP.2.2.2.2)⟩
    refine Ev.go 2 (s' := (h5, 41, [(0, .ref 23), (1, .ref 7)], [.ref 23, .ref 7])) rfl ?_
    refine Ev.get rfl (by decide) i7.1 rfl ?_
    refine Ev.go 1 (s' := (h5, 45, [(0, .ref 23), (1, .ref 7)], [.ref 23, .ref 26, .ref 7])) rfl ?_
    refine Ev.get rfl (by decide) i7.1 rfl ?_
    have v8 : vp_in ((P.1, P.2.1, P.2.2.1, P.2.2.2.1, P.2.2.2.2 - 1).2.2.2.2) 8 := fun q => by rw [if_pos q] at H; cases H
    rw [if_neg v8] at H
    refine Ev.iald rfl (by decide) i7.2.2.2.1 v8 ?_
    refine Ev.go 1 (s' := (h5, 50, [(0, .ref 23), (1, .ref 7)], [.ref 23, .int (((P.1, P.2.1, P.2.2.1, P.2.2.2.1, P.2.2.2.2 - 1).2.2.1) ((P.1, P.2.1, P.2.2.1, P.2.2.2.1, P.2.2.2.2 - 1).2.2.2.2).toNatClampNeg), .ref 7])) rfl ?_
    refine Ev.get rfl (by decide) i7.1 rfl ?_
    refine Ev.go 1 (s' := (h5, 54, [(0, .ref 23), (1, .ref 7)], [.ref 23, .ref 27, .int (((P.1, P.2.1, P.2.2.1, P.2.2.2.1, P.2.2.2.2 - 1).2.2.1) ((P.1, P.2.1, P.2.2.1, P.2.2.2.1, P.2.2.2.2 - 1).2.2.2.2).toNatClampNeg), .ref 7])) rfl ?_
    refine Ev.get rfl (by decide) i7.1 rfl ?_
    refine Ev.iald rfl (by decide) i7.2.2.2.2 v8 ?_
    obtain ⟨y10, e9, H⟩ := Option.bind_eq_some_iff.mp H
    refine Ev.call rfl rfl rfl (p_argsV (by decide) q6_T.1 (Nat.le_of_ble_eq_true rfl)) rfl (Nat.le_of_ble_eq_true rfl) ((spX7_setTag q6_T (((P.1, P.2.1, P.2.2.1, P.2.2.2.1, P.2.2.2.2 - 1).2.2.1) ((P.1, P.2.1, P.2.2.1, P.2.2.2.1, P.2.2.2.2 - 1).2.2.2.2).toNatClampNeg) (((P.1, P.2.1, P.2.2.1, P.2.2.2.1, P.2.2.2.2 - 1).2.2.2.1) ((P.1, P.2.1, P.2.2.1, P.2.2.2.1, P.2.2.2.2 - 1).2.2.2.2).toNatClampNeg) e9).mono (fun r h11 q12 => ?_))
    obtain ⟨rfl, q12_T, q12_f⟩ := q12
    have i13 : isP h11 (P.1, P.2.1, P.2.2.1, P.2.2.2.1, P.2.2.2.2 - 1) := isP.fr q12_f (fr1 (by omega)) i7
    cases H
    exact Ev.ret rfl rfl rfl ⟨rfl, i13, q12_T, (fun k hk => by rw [q12_f k (by have := hk; simp at this ⊢; omega)]; rw [q6_f k (by have := hk; simp at this ⊢; omega)]; rw [pu_x (show k ≠ 23 from fun e => by have := hk; simp at this; omega)])⟩
end
section
/-! the readers: their methods as functions -/
def fX9_isTag (number : Int32) : Int32 := (if number < 0 then 0 else (if 6 ≤ number then 0 else 1))
theorem spX9_isTag {d : Nat} {h : pH}  (number : Int32) : Ev d mX9_isTag (h, 0, [(0, .int number)], []) (fun r h1 => r = some (.int (fX9_isTag number)) ∧ h1 = h) := by
  refine Ev.go 1 (s' := (h, 1, [(0, .int number)], [.int number])) rfl ?_
  refine Ev.if1 rfl (fun c1 => ?_) (fun c1 => ?_)
  · have c1 : number < 0 := c1
    refine Ev.go 1 (s' := (h, 15, [(0, .int number)], [.int 0])) rfl ?_
    exact Ev.ret rfl rfl (p_retZ rfl) ⟨congrArg (fun z => some (Value.int z)) (by rw [fX9_isTag, if_pos c1]), rfl⟩
  · have c1 : ¬ (number < 0) := c1
    refine Ev.go 2 (s' := (h, 7, [(0, .int number)], [.int 6, .int number])) rfl ?_
    refine Ev.if2 rfl (fun c2 => ?_) (fun c2 => ?_)
    · have c2 : 6 ≤ number := c2
      refine Ev.go 1 (s' := (h, 15, [(0, .int number)], [.int 0])) rfl ?_
      exact Ev.ret rfl rfl (p_retZ rfl) ⟨congrArg (fun z => some (Value.int z)) (by rw [fX9_isTag, if_neg c1, if_pos c2]), rfl⟩
    · have c2 : ¬ (6 ≤ number) := c2
      refine Ev.go 2 (s' := (h, 15, [(0, .int number)], [.int 1])) rfl ?_
      exact Ev.ret rfl rfl (p_retZ rfl) ⟨congrArg (fun z => some (Value.int z)) (by rw [fX9_isTag, if_neg c1, if_neg c2]), rfl⟩
def fX8_numbersBehind (letter : Int32) : Int32 := (if letter = 107 then 1 else (if ¬ letter = 114 then (if ¬ letter = 103 then 0 else 3) else 1))
theorem spX8_numbersBehind {d : Nat} {h : pH}  (letter : Int32) : Ev d mX8_numbersBehind (h, 0, [(0, .int letter)], []) (fun r h1 => r = some (.int (fX8_numbersBehind letter)) ∧ h1 = h) := by
  refine Ev.go 2 (s' := (h, 3, [(0, .int letter)], [.int 107, .int letter])) rfl ?_
  refine Ev.if2 rfl (fun c1 => ?_) (fun c1 => ?_)
  · have c1 : letter = 107 := c1
    refine Ev.go 1 (s' := (h, 13, [(0, .int letter)], [.int 1])) rfl ?_
    exact Ev.ret rfl rfl (p_retZ rfl) ⟨congrArg (fun z => some (Value.int z)) (by rw [fX8_numbersBehind, if_pos c1]), rfl⟩
  · have c1 : ¬ (letter = 107) := c1
    refine Ev.go 2 (s' := (h, 9, [(0, .int letter)], [.int 114, .int letter])) rfl ?_
    refine Ev.if2 rfl (fun c2 => ?_) (fun c2 => ?_)
    · have c2 : ¬ letter = 114 := c2
      refine Ev.go 2 (s' := (h, 17, [(0, .int letter)], [.int 103, .int letter])) rfl ?_
      refine Ev.if2 rfl (fun c3 => ?_) (fun c3 => ?_)
      · have c3 : ¬ letter = 103 := c3
        refine Ev.go 1 (s' := (h, 25, [(0, .int letter)], [.int 0])) rfl ?_
        exact Ev.ret rfl rfl (p_retZ rfl) ⟨congrArg (fun z => some (Value.int z)) (by rw [fX8_numbersBehind, if_neg c1, if_pos c2, if_pos c3]), rfl⟩
      · have c3 : ¬ (¬ letter = 103) := c3
        refine Ev.go 2 (s' := (h, 25, [(0, .int letter)], [.int 3])) rfl ?_
        exact Ev.ret rfl rfl (p_retZ rfl) ⟨congrArg (fun z => some (Value.int z)) (by rw [fX8_numbersBehind, if_neg c1, if_pos c2, if_neg c3]), rfl⟩
    · have c2 : ¬ (¬ letter = 114) := c2
      refine Ev.go 1 (s' := (h, 13, [(0, .int letter)], [.int 1])) rfl ?_
      exact Ev.ret rfl rfl (p_retZ rfl) ⟨congrArg (fun z => some (Value.int z)) (by rw [fX8_numbersBehind, if_neg c1, if_neg c2]), rfl⟩
def fX8_figureAt (L : tL) (place : Int32) : Option (Int32) := ((fX1_letterAt L place).bind fun y2 => (if y2 < 48 then some (-1) else (if 57 < y2 then some (-1) else some (y2 - 48))))
theorem spX8_figureAt {d : Nat} {h : pH} {L : tL} (xL : isL h L) (place : Int32) {res : Int32} (H : fX8_figureAt L place = some res) : Ev (d + 1) mX8_figureAt (h, 0, [(0, .ref 1), (1, .int place)], []) (fun r h1 => r = some (.int res) ∧ h1 = h) := by
  unfold fX8_figureAt at H
  refine Ev.go 2 (s' := (h, 2, [(0, .ref 1), (1, .int place)], [.int place, .ref 1])) rfl ?_
  obtain ⟨y2, e1, H⟩ := Option.bind_eq_some_iff.mp H
  refine Ev.callE rfl rfl rfl (p_argsV (by decide) xL.1 (Nat.le_of_ble_eq_true rfl)) rfl (Nat.le_of_ble_eq_true rfl) (spX1_letterAt xL place e1) ?_
  refine Ev.go 3 (s' := (h, 9, [(0, .ref 1), (1, .int place), (2, .int y2)], [.int 48, .int y2])) rfl ?_
  refine Ev.if2 rfl (fun c3 => ?_) (fun c3 => ?_)
  · have c3 : y2 < 48 := c3
    rw [if_pos c3] at H
    refine Ev.go 1 (s' := (h, 26, [(0, .ref 1), (1, .int place), (2, .int y2)], [.int ((-1))])) rfl ?_
    cases H
    exact Ev.ret rfl rfl (p_retZ rfl) ⟨rfl, rfl⟩
  · have c3 : ¬ (y2 < 48) := c3
    rw [if_neg c3] at H
    refine Ev.go 2 (s' := (h, 15, [(0, .ref 1), (1, .int place), (2, .int y2)], [.int 57, .int y2])) rfl ?_
    refine Ev.if2 rfl (fun c4 => ?_) (fun c4 => ?_)
    · have c4 : 57 < y2 := c4
      rw [if_pos c4] at H
      refine Ev.go 1 (s' := (h, 26, [(0, .ref 1), (1, .int place), (2, .int y2)], [.int ((-1))])) rfl ?_
      cases H
      exact Ev.ret rfl rfl (p_retZ rfl) ⟨rfl, rfl⟩
    · have c4 : ¬ (57 < y2) := c4
      rw [if_neg c4] at H
      refine Ev.go 4 (s' := (h, 26, [(0, .ref 1), (1, .int place), (2, .int y2)], [.int (y2 - 48)])) rfl ?_
      cases H
      exact Ev.ret rfl rfl (p_retZ rfl) ⟨rfl, rfl⟩
def fX8_readNumber (K : tK) (L : tL) : Option (Int32 × tK) := ((fX8_figureAt L K.2.1).bind fun y2 => (if 0 ≤ y2 then ((fX8_figureAt L (K.2.1 + 1)).bind fun y5 => (if 0 ≤ y5 then some ((y2 * 10) + y5, (K.1, (K.2.1 + 1) + 1, K.2.2)) else some (y2, (K.1, K.2.1 + 1, K.2.2)))) else some ((-1), K)))
theorem spX8_readNumber {d : Nat} {h : pH} {K : tK} {L : tL} (xK : isK h K) (xL : isL h L) {res : Int32 × tK} (H : fX8_readNumber K L = some res) : Ev (d + 2) mX8_readNumber (h, 0, [(0, .ref 3), (1, .ref 1)], []) (fun r h1 => r = some (.int res.1) ∧ isK h1 res.2 ∧ fr [(3, 5)] h h1) := by
  unfold fX8_readNumber at H
  refine Ev.go 2 (s' := (h, 2, [(0, .ref 3), (1, .ref 1)], [.ref 3, .ref 1])) rfl ?_
  refine Ev.get rfl (by decide) xK.1 rfl ?_
  obtain ⟨y2, e1, H⟩ := Option.bind_eq_some_iff.mp H
  refine Ev.callE rfl rfl rfl rfl rfl (Nat.le_of_ble_eq_true rfl) (spX8_figureAt xL K.2.1 e1) ?_
  refine Ev.go 2 (s' := (h, 10, [(0, .ref 3), (1, .ref 1), (2, .int y2)], [.int y2])) rfl ?_
  refine Ev.if1 rfl (fun c3 => ?_) (fun c3 => ?_)
  · have c3 : 0 ≤ y2 := c3
    rw [if_pos c3] at H
    refine Ev.go 2 (s' := (h, 17, [(0, .ref 3), (1, .ref 1), (2, .int y2)], [.ref 3, .ref 3])) rfl ?_
    refine Ev.get rfl (by decide) xK.1 rfl ?_
    refine Ev.go 2 (s' := (h, 22, [(0, .ref 3), (1, .ref 1), (2, .int y2)], [.int (K.2.1 + 1), .ref 3])) rfl ?_
    refine Ev.put rfl rfl (by decide) xK.1 (Nat.le_of_ble_eq_true rfl) rfl rfl (fs' := [.ref 4, .int (K.2.1 + 1), .int K.2.2]) rfl ?_
    refine Ev.go 2 (s' := ((pu h 3 (eO 7 [.ref 4, .int (K.2.1 + 1), .int K.2.2])), 27, [(0, .ref 3), (1, .ref 1), (2, .int y2)], [.ref 3, .ref 1])) rfl ?_
    refine Ev.get rfl (by decide) pu_s rfl ?_
    obtain ⟨y5, e4, H⟩ := Option.bind_eq_some_iff.mp H
    refine Ev.callE rfl rfl rfl rfl rfl (Nat.le_of_ble_eq_true rfl) (spX8_figureAt (h := (pu h 3 (eO 7 [.ref 4, .int (K.2.1 + 1), .int K.2.2]))) (L := L) ⟨(pu_n (by decide) xL.1), (pu_n (by decide) xL.2)⟩ (K.2.1 + 1) e4) ?_
    refine Ev.go 2 (s' := ((pu h 3 (eO 7 [.ref 4, .int (K.2.1 + 1), .int K.2.2])), 35, [(0, .ref 3), (1, .ref 1), (2, .int y2), (3, .int y5)], [.int y5])) rfl ?_
    refine Ev.if1 rfl (fun c6 => ?_) (fun c6 => ?_)
    · have c6 : 0 ≤ y5 := c6
      rw [if_pos c6] at H
      refine Ev.go 2 (s' := ((pu h 3 (eO 7 [.ref 4, .int (K.2.1 + 1), .int K.2.2])), 42, [(0, .ref 3), (1, .ref 1), (2, .int y2), (3, .int y5)], [.ref 3, .ref 3])) rfl ?_
      refine Ev.get rfl (by decide) pu_s rfl ?_
      refine Ev.go 2 (s' := ((pu h 3 (eO 7 [.ref 4, .int (K.2.1 + 1), .int K.2.2])), 47, [(0, .ref 3), (1, .ref 1), (2, .int y2), (3, .int y5)], [.int ((K.2.1 + 1) + 1), .ref 3])) rfl ?_
      refine Ev.put rfl rfl (by decide) pu_s (Nat.le_of_ble_eq_true rfl) rfl rfl (fs' := [.ref 4, .int ((K.2.1 + 1) + 1), .int K.2.2]) rfl ?_
      refine Ev.go 5 (s' := ((pu (pu h 3 (eO 7 [.ref 4, .int (K.2.1 + 1), .int K.2.2])) 3 (eO 7 [.ref 4, .int ((K.2.1 + 1) + 1), .int K.2.2])), 56, [(0, .ref 3), (1, .ref 1), (2, .int y2), (3, .int y5)], [.int ((y2 * 10) + y5)])) rfl ?_
      cases H
      exact Ev.ret rfl rfl (p_retZ rfl) ⟨rfl, ⟨pu_s, (pu_n (by decide) (pu_n (by decide) xK.2))⟩, (fun k hk => by rw [pu_x (show k ≠ 3 from fun e => by have := hk; simp at this; omega)]; rw [pu_x (show k ≠ 3 from fun e => by have := hk; simp at this; omega)])⟩
    · have c6 : ¬ (0 ≤ y5) := c6
      rw [if_neg c6] at H
      refine Ev.go 1 (s' := ((pu h 3 (eO 7 [.ref 4, .int (K.2.1 + 1), .int K.2.2])), 39, [(0, .ref 3), (1, .ref 1), (2, .int y2), (3, .int y5)], [.int y2])) rfl ?_
      cases H
      exact Ev.ret rfl rfl (p_retZ rfl) ⟨rfl, ⟨pu_s, (pu_n (by decide) xK.2)⟩, (fun k hk => by rw [pu_x (show k ≠ 3 from fun e => by have := hk; simp at this; omega)])⟩
  · have c3 : ¬ (0 ≤ y2) := c3
    rw [if_neg c3] at H
    refine Ev.go 1 (s' := (h, 14, [(0, .ref 3), (1, .ref 1), (2, .int y2)], [.int ((-1))])) rfl ?_
    cases H
    exact Ev.ret rfl rfl (p_retZ rfl) ⟨rfl, xK, (fun k _ => rfl)⟩
def lX8_readNumbers_2 (n : Nat) (L : tL) : Nat → Int32 → Int32 → tK → Option (Int32 × tK)
  | 0, _, _, _ => none
  | m + 1, x2, x3, K => (if x2 ≤ x3 then (if x2 ≤ 0 then some (0, K) else some (1, K)) else (if 3 ≤ x3 then (if x2 ≤ 0 then some (0, K) else some (1, K)) else ((fX8_readNumber K L).bind fun y6 => (if x3 < 0 ∨ 3 ≤ x3.toNatClampNeg then none else (if ¬ x3 = (x2 - 1) then (if ((upd y6.2.1 x3.toNatClampNeg y6.1) x3.toNatClampNeg) < 0 then some (0, (upd y6.2.1 x3.toNatClampNeg y6.1, y6.2.2.1, y6.2.2.2)) else ((fX1_letterAt L y6.2.2.1).bind fun y14 => (if y14 = 44 then lX8_readNumbers_2 n L m x2 (x3 + 1) (upd y6.2.1 x3.toNatClampNeg y6.1, y6.2.2.1 + 1, y6.2.2.2) else some (0, (upd y6.2.1 x3.toNatClampNeg y6.1, y6.2.2.1, y6.2.2.2))))) else (if ((upd y6.2.1 x3.toNatClampNeg y6.1) x3.toNatClampNeg) < 0 then some (0, (upd y6.2.1 x3.toNatClampNeg y6.1, y6.2.2.1, y6.2.2.2)) else ((fX1_letterAt L y6.2.2.1).bind fun y18 => (if y18 = 59 then lX8_readNumbers_2 n L m x2 (x3 + 1) (upd y6.2.1 x3.toNatClampNeg y6.1, y6.2.2.1 + 1, y6.2.2.2) else some (0, (upd y6.2.1 x3.toNatClampNeg y6.1, y6.2.2.1, y6.2.2.2))))))))))
theorem llX8_readNumbers_2 {d n : Nat} {L : tL} : ∀ (m : Nat) (h : pH) (x2 : Int32) (x3 : Int32) (K : tK) (res : Int32 × tK), lX8_readNumbers_2 n L m x2 x3 K = some res → isL h L → isK h K → Ev (d + 3) mX8_readNumbers (h, 2, [(0, .ref 3), (1, .ref 1), (2, .int x2), (3, .int x3)], []) (fun r h1 => r = some (.int res.1) ∧ isK h1 res.2 ∧ fr [(3, 5)] h h1)
  | 0, h, x2, x3, K, res, H, _, _ => by cases H
  | m + 1, h, x2, x3, K, res, H, xL, xK => by
    have H : (if x2 ≤ x3 then (if x2 ≤ 0 then some (0, K) else some (1, K)) else (if 3 ≤ x3 then (if x2 ≤ 0 then some (0, K) else some (1, K)) else ((fX8_readNumber K L).bind fun y6 => (if x3 < 0 ∨ 3 ≤ x3.toNatClampNeg then none else (if ¬ x3 = (x2 - 1) then (if ((upd y6.2.1 x3.toNatClampNeg y6.1) x3.toNatClampNeg) < 0 then some (0, (upd y6.2.1 x3.toNatClampNeg y6.1, y6.2.2.1, y6.2.2.2)) else ((fX1_letterAt L y6.2.2.1).bind fun y14 => (if y14 = 44 then lX8_readNumbers_2 n L m x2 (x3 + 1) (upd y6.2.1 x3.toNatClampNeg y6.1, y6.2.2.1 + 1, y6.2.2.2) else some (0, (upd y6.2.1 x3.toNatClampNeg y6.1, y6.2.2.1, y6.2.2.2))))) else (if ((upd y6.2.1 x3.toNatClampNeg y6.1) x3.toNatClampNeg) < 0 then some (0, (upd y6.2.1 x3.toNatClampNeg y6.1, y6.2.2.1, y6.2.2.2)) else ((fX1_letterAt L y6.2.2.1).bind fun y18 => (if y18 = 59 then lX8_readNumbers_2 n L m x2 (x3 + 1) (upd y6.2.1 x3.toNatClampNeg y6.1, y6.2.2.1 + 1, y6.2.2.2) else some (0, (upd y6.2.1 x3.toNatClampNeg y6.1, y6.2.2.1, y6.2.2.2)))))))))) = some res := H
    refine Ev.go 2 (s' := (h, 4, [(0, .ref 3), (1, .ref 1), (2, .int x2), (3, .int x3)], [.int x2, .int x3])) rfl ?_
    refine Ev.if2 rfl (fun c1 => ?_) (fun c1 => ?_)
    · have c1 : x2 ≤ x3 := c1
      rw [if_pos c1] at H
      refine Ev.go 1 (s' := (h, 84, [(0, .ref 3), (1, .ref 1), (2, .int x2), (3, .int x3)], [.int x2])) rfl ?_
      refine Ev.if1 rfl (fun c2 => ?_) (fun c2 => ?_)
      · have c2 : x2 ≤ 0 := c2
        rw [if_pos c2] at H
        refine Ev.go 1 (s' := (h, 92, [(0, .ref 3), (1, .ref 1), (2, .int x2), (3, .int x3)], [.int 0])) rfl ?_
        cases H
        exact Ev.ret rfl rfl (p_retZ rfl) ⟨rfl, xK, (fun k _ => rfl)⟩
      · have c2 : ¬ (x2 ≤ 0) := c2
        rw [if_neg c2] at H
        refine Ev.go 2 (s' := (h, 92, [(0, .ref 3), (1, .ref 1), (2, .int x2), (3, .int x3)], [.int 1])) rfl ?_
        cases H
        exact Ev.ret rfl rfl (p_retZ rfl) ⟨rfl, xK, (fun k _ => rfl)⟩
    · have c1 : ¬ (x2 ≤ x3) := c1
      rw [if_neg c1] at H
      refine Ev.go 2 (s' := (h, 9, [(0, .ref 3), (1, .ref 1), (2, .int x2), (3, .int x3)], [.ref 3, .int x3])) rfl ?_
      refine Ev.get rfl (by decide) xK.1 rfl ?_
      refine Ev.alen rfl (by decide) (congrArg p_len xK.2) ?_
      refine Ev.if2 rfl (fun c3 => ?_) (fun c3 => ?_)
      · have c3 : 3 ≤ x3 := c3
        rw [if_pos c3] at H
        refine Ev.go 1 (s' := (h, 84, [(0, .ref 3), (1, .ref 1), (2, .int x2), (3, .int x3)], [.int x2])) rfl ?_
        refine Ev.if1 rfl (fun c4 => ?_) (fun c4 => ?_)
        · have c4 : x2 ≤ 0 := c4
          rw [if_pos c4] at H
          refine Ev.go 1 (s' := (h, 92, [(0, .ref 3), (1, .ref 1), (2, .int x2), (3, .int x3)], [.int 0])) rfl ?_
          cases H
          exact Ev.ret rfl rfl (p_retZ rfl) ⟨rfl, xK, (fun k _ => rfl)⟩
        · have c4 : ¬ (x2 ≤ 0) := c4
          rw [if_neg c4] at H
          refine Ev.go 2 (s' := (h, 92, [(0, .ref 3), (1, .ref 1), (2, .int x2), (3, .int x3)], [.int 1])) rfl ?_
          cases H
          exact Ev.ret rfl rfl (p_retZ rfl) ⟨rfl, xK, (fun k _ => rfl)⟩
      · have c3 : ¬ (3 ≤ x3) := c3
        rw [if_neg c3] at H
        refine Ev.go 1 (s' := (h, 17, [(0, .ref 3), (1, .ref 1), (2, .int x2), (3, .int x3)], [.ref 3])) rfl ?_
        refine Ev.get rfl (by decide) xK.1 rfl ?_
        refine Ev.go 3 (s' := (h, 23, [(0, .ref 3), (1, .ref 1), (2, .int x2), (3, .int x3)], [.ref 1, .ref 3, .int x3, .ref 4])) rfl ?_
        obtain ⟨y6, e5, H⟩ := Option.bind_eq_some_iff.mp H
        refine Ev.call rfl rfl rfl (p_argsV (by decide) xK.1 (Nat.le_of_ble_eq_true rfl)) rfl (Nat.le_of_ble_eq_true rfl) ((spX8_readNumber xK xL  e5).mono (fun r h7 q8 => ?_))
        obtain ⟨rfl, q8_K, q8_f⟩ := q8
        have i9 : isL h7 L := isL.fr q8_f (fr1 (by omega)) xL
        have v10 : vp_in x3 3 := fun q => by rw [if_pos q] at H; cases H
        rw [if_neg v10] at H
        refine Ev.iast rfl (by decide) q8_K.2 v10 ?_
        refine Ev.go 4 (s' := ((pu h7 4 (eI 3 (upd y6.2.1 x3.toNatClampNeg y6.1))), 31, [(0, .ref 3), (1, .ref 1), (2, .int x2), (3, .int x3)], [.int (x2 - 1), .int x3])) rfl ?_
        refine Ev.if2 rfl (fun c11 => ?_) (fun c11 => ?_)
        · have c11 : ¬ x3 = (x2 - 1) := c11
          rw [if_pos c11] at H
          refine Ev.go 3 (s' := ((pu h7 4 (eI 3 (upd y6.2.1 x3.toNatClampNeg y6.1))), 44, [(0, .ref 3), (1, .ref 1), (2, .int x2), (3, .int x3), (4, .int 44)], [.ref 3])) rfl ?_
          refine Ev.get rfl (by decide) (pu_n (by decide) q8_K.1) rfl ?_
          refine Ev.go 1 (s' := ((pu h7 4 (eI 3 (upd y6.2.1 x3.toNatClampNeg y6.1))), 48, [(0, .ref 3), (1, .ref 1), (2, .int x2), (3, .int x3), (4, .int 44)], [.int x3, .ref 4])) rfl ?_
          refine Ev.iald rfl (by decide) pu_s v10 ?_
          refine Ev.if1 rfl (fun c12 => ?_) (fun c12 => ?_)
          · have c12 : ((upd y6.2.1 x3.toNatClampNeg y6.1) x3.toNatClampNeg) < 0 := c12
            rw [if_pos c12] at H
            refine Ev.go 1 (s' := ((pu h7 4 (eI 3 (upd y6.2.1 x3.toNatClampNeg y6.1))), 66, [(0, .ref 3), (1, .ref 1), (2, .int x2), (3, .int x3), (4, .int 44)], [.int 0])) rfl ?_
            cases H
            exact Ev.ret rfl rfl (p_retZ rfl) ⟨rfl, ⟨(pu_n (by decide) q8_K.1), pu_s⟩, (fun k hk => by rw [pu_x (show k ≠ 4 from fun e => by have := hk; simp at this; omega)]; rw [q8_f k (by have := hk; simp at this ⊢; omega)])⟩
          · have c12 : ¬ (((upd y6.2.1 x3.toNatClampNeg y6.1) x3.toNatClampNeg) < 0) := c12
            rw [if_neg c12] at H
            refine Ev.go 2 (s' := ((pu h7 4 (eI 3 (upd y6.2.1 x3.toNatClampNeg y6.1))), 54, [(0, .ref 3), (1, .ref 1), (2, .int x2), (3, .int x3), (4, .int 44)], [.ref 3, .ref 1])) rfl ?_
            refine Ev.get rfl (by decide) (pu_n (by decide) q8_K.1) rfl ?_
            obtain ⟨y14, e13, H⟩ := Option.bind_eq_some_iff.mp H
            refine Ev.callE rfl rfl rfl (p_argsV (by decide) (pu_n (by decide) i9.1) (Nat.le_of_ble_eq_true rfl)) rfl (Nat.le_of_ble_eq_true rfl) (spX1_letterAt (h := (pu h7 4 (eI 3 (upd y6.2.1 x3.toNatClampNeg y6.1)))) (L := L) ⟨(pu_n (by decide) i9.1), (pu_n (by decide) i9.2)⟩ y6.2.2.1 e13) ?_
            refine Ev.go 1 (s' := ((pu h7 4 (eI 3 (upd y6.2.1 x3.toNatClampNeg y6.1))), 62, [(0, .ref 3), (1, .ref 1), (2, .int x2), (3, .int x3), (4, .int 44)], [.int 44, .int y14])) rfl ?_
            refine Ev.if2 rfl (fun c15 => ?_) (fun c15 => ?_)
            · have c15 : y14 = 44 := c15
              rw [if_pos c15] at H
              refine Ev.go 2 (s' := ((pu h7 4 (eI 3 (upd y6.2.1 x3.toNatClampNeg y6.1))), 69, [(0, .ref 3), (1, .ref 1), (2, .int x2), (3, .int x3), (4, .int 44)], [.ref 3, .ref 3])) rfl ?_
              refine Ev.get rfl (by decide) (pu_n (by decide) q8_K.1) rfl ?_
              refine Ev.go 2 (s' := ((pu h7 4 (eI 3 (upd y6.2.1 x3.toNatClampNeg y6.1))), 74, [(0, .ref 3), (1, .ref 1), (2, .int x2), (3, .int x3), (4, .int 44)], [.int (y6.2.2.1 + 1), .ref 3])) rfl ?_
              refine Ev.put rfl rfl (by decide) (pu_n (by decide) q8_K.1) (Nat.le_of_ble_eq_true rfl) rfl rfl (fs' := [.ref 4, .int (y6.2.2.1 + 1), .int y6.2.2.2]) rfl ?_
              refine Ev.go 2 (s' := ((pu (pu h7 4 (eI 3 (upd y6.2.1 x3.toNatClampNeg y6.1))) 3 (eO 7 [.ref 4, .int (y6.2.2.1 + 1), .int y6.2.2.2])), 2, [(0, .ref 3), (1, .ref 1), (2, .int x2), (3, .int (x3 + 1)), (4, .int 44)], [])) rfl ?_
              refine Ev.live rfl (lv' := [(0, .ref 3), (1, .ref 1), (2, .int x2), (3, .int (x3 + 1))]) rfl ?_
              refine (llX8_readNumbers_2 m (pu (pu h7 4 (eI 3 (upd y6.2.1 x3.toNatClampNeg y6.1))) 3 (eO 7 [.ref 4, .int (y6.2.2.1 + 1), .int y6.2.2.2])) x2 (x3 + 1) (upd y6.2.1 x3.toNatClampNeg y6.1, y6.2.2.1 + 1, y6.2.2.2) _ H ⟨(pu_n (by decide) (pu_n (by decide) i9.1)), (pu_n (by decide) (pu_n (by decide) i9.2))⟩ ⟨pu_s, (pu_n (by decide) pu_s)⟩).mono (fun r h9 q9 => ?_)
              obtain ⟨q9r, q9_0, q9f⟩ := q9
              exact ⟨q9r, q9_0, fun k hk => (q9f k hk).trans (by rw [pu_x (show k ≠ 3 from fun e => by have := hk; simp at this; omega)]; rw [pu_x (show k ≠ 4 from fun e => by have := hk; simp at this; omega)]; rw [q8_f k (by have := hk; simp at this ⊢; omega)])⟩
            · have c15 : ¬ (y14 = 44) := c15
              rw [if_neg c15] at H
              refine Ev.go 1 (s' := ((pu h7 4 (eI 3 (upd y6.2.1 x3.toNatClampNeg y6.1))), 66, [(0, .ref 3), (1, .ref 1), (2, .int x2), (3, .int x3), (4, .int 44)], [.int 0])) rfl ?_
              cases H
              exact Ev.ret rfl rfl (p_retZ rfl) ⟨rfl, ⟨(pu_n (by decide) q8_K.1), pu_s⟩, (fun k hk => by rw [pu_x (show k ≠ 4 from fun e => by have := hk; simp at this; omega)]; rw [q8_f k (by have := hk; simp at this ⊢; omega)])⟩
        · have c11 : ¬ (¬ x3 = (x2 - 1)) := c11
          rw [if_neg c11] at H
          refine Ev.go 4 (s' := ((pu h7 4 (eI 3 (upd y6.2.1 x3.toNatClampNeg y6.1))), 44, [(0, .ref 3), (1, .ref 1), (2, .int x2), (3, .int x3), (4, .int 59)], [.ref 3])) rfl ?_
          refine Ev.get rfl (by decide) (pu_n (by decide) q8_K.1) rfl ?_
          refine Ev.go 1 (s' := ((pu h7 4 (eI 3 (upd y6.2.1 x3.toNatClampNeg y6.1))), 48, [(0, .ref 3), (1, .ref 1), (2, .int x2), (3, .int x3), (4, .int 59)], [.int x3, .ref 4])) rfl ?_
          refine Ev.iald rfl (by decide) pu_s v10 ?_
          refine Ev.if1 rfl (fun c16 => ?_) (fun c16 => ?_)
          · have c16 : ((upd y6.2.1 x3.toNatClampNeg y6.1) x3.toNatClampNeg) < 0 := c16
            rw [if_pos c16] at H
            refine Ev.go 1 (s' := ((pu h7 4 (eI 3 (upd y6.2.1 x3.toNatClampNeg y6.1))), 66, [(0, .ref 3), (1, .ref 1), (2, .int x2), (3, .int x3), (4, .int 59)], [.int 0])) rfl ?_
            cases H
            exact Ev.ret rfl rfl (p_retZ rfl) ⟨rfl, ⟨(pu_n (by decide) q8_K.1), pu_s⟩, (fun k hk => by rw [pu_x (show k ≠ 4 from fun e => by have := hk; simp at this; omega)]; rw [q8_f k (by have := hk; simp at this ⊢; omega)])⟩
          · have c16 : ¬ (((upd y6.2.1 x3.toNatClampNeg y6.1) x3.toNatClampNeg) < 0) := c16
            rw [if_neg c16] at H
            refine Ev.go 2 (s' := ((pu h7 4 (eI 3 (upd y6.2.1 x3.toNatClampNeg y6.1))), 54, [(0, .ref 3), (1, .ref 1), (2, .int x2), (3, .int x3), (4, .int 59)], [.ref 3, .ref 1])) rfl ?_
            refine Ev.get rfl (by decide) (pu_n (by decide) q8_K.1) rfl ?_
            obtain ⟨y18, e17, H⟩ := Option.bind_eq_some_iff.mp H
            refine Ev.callE rfl rfl rfl (p_argsV (by decide) (pu_n (by decide) i9.1) (Nat.le_of_ble_eq_true rfl)) rfl (Nat.le_of_ble_eq_true rfl) (spX1_letterAt (h := (pu h7 4 (eI 3 (upd y6.2.1 x3.toNatClampNeg y6.1)))) (L := L) ⟨(pu_n (by decide) i9.1), (pu_n (by decide) i9.2)⟩ y6.2.2.1 e17) ?_
            refine Ev.go 1 (s' := ((pu h7 4 (eI 3 (upd y6.2.1 x3.toNatClampNeg y6.1))), 62, [(0, .ref 3), (1, .ref 1), (2, .int x2), (3, .int x3), (4, .int 59)], [.int 59, .int y18])) rfl ?_
            refine Ev.if2 rfl (fun c19 => ?_) (fun c19 => ?_)
            · have c19 : y18 = 59 := c19
              rw [if_pos c19] at H
              refine Ev.go 2 (s' := ((pu h7 4 (eI 3 (upd y6.2.1 x3.toNatClampNeg y6.1))), 69, [(0, .ref 3), (1, .ref 1), (2, .int x2), (3, .int x3), (4, .int 59)], [.ref 3, .ref 3])) rfl ?_
              refine Ev.get rfl (by decide) (pu_n (by decide) q8_K.1) rfl ?_
              refine Ev.go 2 (s' := ((pu h7 4 (eI 3 (upd y6.2.1 x3.toNatClampNeg y6.1))), 74, [(0, .ref 3), (1, .ref 1), (2, .int x2), (3, .int x3), (4, .int 59)], [.int (y6.2.2.1 + 1), .ref 3])) rfl ?_
              refine Ev.put rfl rfl (by decide) (pu_n (by decide) q8_K.1) (Nat.le_of_ble_eq_true rfl) rfl rfl (fs' := [.ref 4, .int (y6.2.2.1 + 1), .int y6.2.2.2]) rfl ?_
              refine Ev.go 2 (s' := ((pu (pu h7 4 (eI 3 (upd y6.2.1 x3.toNatClampNeg y6.1))) 3 (eO 7 [.ref 4, .int (y6.2.2.1 + 1), .int y6.2.2.2])), 2, [(0, .ref 3), (1, .ref 1), (2, .int x2), (3, .int (x3 + 1)), (4, .int 59)], [])) rfl ?_
              refine Ev.live rfl (lv' := [(0, .ref 3), (1, .ref 1), (2, .int x2), (3, .int (x3 + 1))]) rfl ?_
              refine (llX8_readNumbers_2 m (pu (pu h7 4 (eI 3 (upd y6.2.1 x3.toNatClampNeg y6.1))) 3 (eO 7 [.ref 4, .int (y6.2.2.1 + 1), .int y6.2.2.2])) x2 (x3 + 1) (upd y6.2.1 x3.toNatClampNeg y6.1, y6.2.2.1 + 1, y6.2.2.2) _ H ⟨(pu_n (by decide) (pu_n (by decide) i9.1)), (pu_n (by decide) (pu_n (by decide) i9.2))⟩ ⟨pu_s, (pu_n (by decide) pu_s)⟩).mono (fun r h9 q9 => ?_)
              obtain ⟨q9r, q9_0, q9f⟩ := q9
              exact ⟨q9r, q9_0, fun k hk => (q9f k hk).trans (by rw [pu_x (show k ≠ 3 from fun e => by have := hk; simp at this; omega)]; rw [pu_x (show k ≠ 4 from fun e => by have := hk; simp at this; omega)]; rw [q8_f k (by have := hk; simp at this ⊢; omega)])⟩
            · have c19 : ¬ (y18 = 59) := c19
              rw [if_neg c19] at H
              refine Ev.go 1 (s' := ((pu h7 4 (eI 3 (upd y6.2.1 x3.toNatClampNeg y6.1))), 66, [(0, .ref 3), (1, .ref 1), (2, .int x2), (3, .int x3), (4, .int 59)], [.int 0])) rfl ?_
              cases H
              exact Ev.ret rfl rfl (p_retZ rfl) ⟨rfl, ⟨(pu_n (by decide) q8_K.1), pu_s⟩, (fun k hk => by rw [pu_x (show k ≠ 4 from fun e => by have := hk; simp at this; omega)]; rw [q8_f k (by have := hk; simp at this ⊢; omega)])⟩
def fX8_readNumbers (n : Nat) (K : tK) (L : tL) (due : Int32) : Option (Int32 × tK) := lX8_readNumbers_2 n L n due 0 K
theorem spX8_readNumbers {d n : Nat} {h : pH} {K : tK} {L : tL} (xK : isK h K) (xL : isL h L) (due : Int32) {res : Int32 × tK} (H : fX8_readNumbers n K L due = some res) : Ev (d + 3) mX8_readNumbers (h, 0, [(0, .ref 3), (1, .ref 1), (2, .int due)], []) (fun r h1 => r = some (.int res.1) ∧ isK h1 res.2 ∧ fr [(3, 5)] h h1) := by
  unfold fX8_readNumbers at H
  refine Ev.go 2 (s' := (h, 2, [(0, .ref 3), (1, .ref 1), (2, .int due), (3, .int 0)], [])) rfl ?_
  refine Ev.live rfl (lv' := [(0, .ref 3), (1, .ref 1), (2, .int due), (3, .int 0)]) rfl ?_
  exact llX8_readNumbers_2 n h due 0 K _ H xL xK
def fX8_applyKind (K : tK) (T : tT) : Option (Int32 × tK × tT) := (if ¬ K.2.2 = 0 then some (0, K, T) else (if 0 < (fX7_came T) then some (0, K, T) else (if (K.1 0) < 4 then ((fX7_setKind T (K.1 0)).bind fun y5 => some (1, (K.1, K.2.1, 1), y5)) else some (0, K, T))))
theorem spX8_applyKind {d : Nat} {h : pH} {t : Nat} {K : tK} {T : tT} (xK : isK h K) (xT : isT h t T) (ht : 7 ≤ t) {res : Int32 × tK × tT} (H : fX8_applyKind K T = some res) : Ev (d + 1) mX8_applyKind (h, 0, [(0, .ref 3), (1, .ref t)], []) (fun r h1 => r = some (.int res.1) ∧ isK h1 res.2.1 ∧ isT h1 t res.2.2 ∧ fr [(3, 5), (t, t + 4)] h h1) := by
  unfold fX8_applyKind at H
  refine Ev.go 1 (s' := (h, 1, [(0, .ref 3), (1, .ref t)], [.ref 3])) rfl ?_
  refine Ev.get rfl (by decide) xK.1 rfl ?_
  refine Ev.if1 rfl (fun c1 => ?_) (fun c1 => ?_)
  · have c1 : ¬ K.2.2 = 0 := c1
    rw [if_pos c1] at H
    refine Ev.go 1 (s' := (h, 25, [(0, .ref 3), (1, .ref t)], [.int 0])) rfl ?_
    cases H
    exact Ev.ret rfl rfl (p_retZ rfl) ⟨rfl, xK, xT, (fun k _ => rfl)⟩
  · have c1 : ¬ (¬ K.2.2 = 0) := c1
    rw [if_neg c1] at H
    refine Ev.go 1 (s' := (h, 8, [(0, .ref 3), (1, .ref t)], [.ref t])) rfl ?_
    refine Ev.callE rfl rfl rfl (p_argsV (by have := xT.2.2.2.2; omega) xT.1 (Nat.le_of_ble_eq_true rfl)) rfl (Nat.le_of_ble_eq_true rfl) (spX7_came xT ) ?_
    refine Ev.if1 rfl (fun c2 => ?_) (fun c2 => ?_)
    · have c2 : 0 < (fX7_came T) := c2
      rw [if_pos c2] at H
      refine Ev.go 1 (s' := (h, 25, [(0, .ref 3), (1, .ref t)], [.int 0])) rfl ?_
      cases H
      exact Ev.ret rfl rfl (p_retZ rfl) ⟨rfl, xK, xT, (fun k _ => rfl)⟩
    · have c2 : ¬ (0 < (fX7_came T)) := c2
      rw [if_neg c2] at H
      refine Ev.go 1 (s' := (h, 15, [(0, .ref 3), (1, .ref t)], [.ref 3])) rfl ?_
      refine Ev.get rfl (by decide) xK.1 rfl ?_
      refine Ev.go 1 (s' := (h, 19, [(0, .ref 3), (1, .ref t)], [.int 0, .ref 4])) rfl ?_
      refine Ev.iald rfl (by decide) xK.2 (by unfold vp_in; decide) ?_
      refine Ev.go 1 (s' := (h, 21, [(0, .ref 3), (1, .ref t)], [.int 4, .int (K.1 0)])) rfl ?_
      refine Ev.if2 rfl (fun c3 => ?_) (fun c3 => ?_)
      · have c3 : (K.1 0) < 4 := c3
        rw [if_pos c3] at H
        refine Ev.go 2 (s' := (h, 28, [(0, .ref 3), (1, .ref t)], [.int 1, .ref 3])) rfl ?_
        refine Ev.put rfl rfl (by decide) xK.1 (Nat.le_of_ble_eq_true rfl) rfl rfl (fs' := [.ref 4, .int K.2.1, .int 1]) rfl ?_
        refine Ev.go 2 (s' := ((pu h 3 (eO 7 [.ref 4, .int K.2.1, .int 1])), 33, [(0, .ref 3), (1, .ref t)], [.ref 3, .ref t])) rfl ?_
        refine Ev.get rfl (by decide) pu_s rfl ?_
        refine Ev.go 1 (s' := ((pu h 3 (eO 7 [.ref 4, .int K.2.1, .int 1])), 37, [(0, .ref 3), (1, .ref t)], [.int 0, .ref 4, .ref t])) rfl ?_
        refine Ev.iald rfl (by decide) (pu_n (by decide) xK.2) (by unfold vp_in; decide) ?_
        obtain ⟨y5, e4, H⟩ := Option.bind_eq_some_iff.mp H
        refine Ev.call rfl rfl rfl (p_argsV (by have := xT.2.2.2.2; omega) (pu_n (by omega) xT.1) (Nat.le_of_ble_eq_true rfl)) rfl (Nat.le_of_ble_eq_true rfl) ((spX7_setKind (h := (pu h 3 (eO 7 [.ref 4, .int K.2.1, .int 1]))) (T := T) ⟨(pu_n (by omega) xT.1), (pu_n (by omega) xT.2.1), (pu_n (by omega) xT.2.2.1), (pu_n (by omega) xT.2.2.2.1), (by have := xT.2.2.2.2; omega)⟩ (K.1 0) e4).mono (fun r h6 q7 => ?_))
        obtain ⟨rfl, q7_T, q7_f⟩ := q7
        have i8 : isK h6 (K.1, K.2.1, 1) := isK.fr q7_f (fr1 (by omega)) ⟨pu_s, (pu_n (by decide) xK.2)⟩
        refine Ev.go 1 (s' := (h6, 42, [(0, .ref 3), (1, .ref t)], [.int 1])) rfl ?_
        cases H
        exact Ev.ret rfl rfl (p_retZ rfl) ⟨rfl, i8, q7_T, (fun k hk => by rw [q7_f k (by have := hk; simp at this ⊢; omega)]; rw [pu_x (show k ≠ 3 from fun e => by have := hk; simp at this; omega)])⟩
      · have c3 : ¬ ((K.1 0) < 4) := c3
        rw [if_neg c3] at H
        refine Ev.go 1 (s' := (h, 25, [(0, .ref 3), (1, .ref t)], [.int 0])) rfl ?_
        cases H
        exact Ev.ret rfl rfl (p_retZ rfl) ⟨rfl, xK, xT, (fun k _ => rfl)⟩
def fX8_applyRoot (K : tK) (T : tT) : Option (Int32 × tT) := (if 0 < (fX7_came T) then some (0, T) else (if ¬ (fX9_isTag (K.1 0)) = 0 then ((fX7_add T (-1) 0 (K.1 0)).bind fun y4 => some (1, y4.2)) else some (0, T)))
theorem spX8_applyRoot {d : Nat} {h : pH} {t : Nat} {K : tK} {T : tT} (xK : isK h K) (xT : isT h t T) (ht : 7 ≤ t) {res : Int32 × tT} (H : fX8_applyRoot K T = some res) : Ev (d + 2) mX8_applyRoot (h, 0, [(0, .ref 3), (1, .ref t)], []) (fun r h1 => r = some (.int res.1) ∧ isT h1 t res.2 ∧ fr [(t, t + 4)] h h1) := by
  unfold fX8_applyRoot at H
  refine Ev.go 1 (s' := (h, 1, [(0, .ref 3), (1, .ref t)], [.ref t])) rfl ?_
  refine Ev.callE rfl rfl rfl (p_argsV (by have := xT.2.2.2.2; omega) xT.1 (Nat.le_of_ble_eq_true rfl)) rfl (Nat.le_of_ble_eq_true rfl) (spX7_came xT ) ?_
  refine Ev.if1 rfl (fun c1 => ?_) (fun c1 => ?_)
  · have c1 : 0 < (fX7_came T) := c1
    rw [if_pos c1] at H
    refine Ev.go 1 (s' := (h, 20, [(0, .ref 3), (1, .ref t)], [.int 0])) rfl ?_
    cases H
    exact Ev.ret rfl rfl (p_retZ rfl) ⟨rfl, xT, (fun k _ => rfl)⟩
  · have c1 : ¬ (0 < (fX7_came T)) := c1
    rw [if_neg c1] at H
    refine Ev.go 1 (s' := (h, 8, [(0, .ref 3), (1, .ref t)], [.ref 3])) rfl ?_
    refine Ev.get rfl (by decide) xK.1 rfl ?_
    refine Ev.go 1 (s' := (h, 12, [(0, .ref 3), (1, .ref t)], [.int 0, .ref 4])) rfl ?_
    refine Ev.iald rfl (by decide) xK.2 (by unfold vp_in; decide) ?_
    refine Ev.callE rfl rfl rfl rfl rfl (Nat.le_of_ble_eq_true rfl) (spX9_isTag  (K.1 0)) ?_
    refine Ev.if1 rfl (fun c2 => ?_) (fun c2 => ?_)
    · have c2 : ¬ (fX9_isTag (K.1 0)) = 0 := c2
      rw [if_pos c2] at H
      refine Ev.go 4 (s' := (h, 25, [(0, .ref 3), (1, .ref t)], [.ref 3, .int 0, .int ((-1)), .ref t])) rfl ?_
      refine Ev.get rfl (by decide) xK.1 rfl ?_
      refine Ev.go 1 (s' := (h, 29, [(0, .ref 3), (1, .ref t)], [.int 0, .ref 4, .int 0, .int ((-1)), .ref t])) rfl ?_
      refine Ev.iald rfl (by decide) xK.2 (by unfold vp_in; decide) ?_
      obtain ⟨y4, e3, H⟩ := Option.bind_eq_some_iff.mp H
      refine Ev.call rfl rfl rfl (p_argsV (by have := xT.2.2.2.2; omega) xT.1 (Nat.le_of_ble_eq_true rfl)) rfl (Nat.le_of_ble_eq_true rfl) ((spX7_add xT (-1) 0 (K.1 0) e3).mono (fun r h5 q6 => ?_))
      obtain ⟨rfl, q6_T, q6_f⟩ := q6
      have i7 : isK h5 K := isK.fr q6_f (fr1 (by omega)) xK
      refine Ev.go 2 (s' := (h5, 35, [(0, .ref 3), (1, .ref t)], [.int 1])) rfl ?_
      cases H
      exact Ev.ret rfl rfl (p_retZ rfl) ⟨rfl, q6_T, (fun k hk => by rw [q6_f k (by have := hk; simp at this ⊢; omega)])⟩
    · have c2 : ¬ (¬ (fX9_isTag (K.1 0)) = 0) := c2
      rw [if_neg c2] at H
      refine Ev.go 1 (s' := (h, 20, [(0, .ref 3), (1, .ref t)], [.int 0])) rfl ?_
      cases H
      exact Ev.ret rfl rfl (p_retZ rfl) ⟨rfl, xT, (fun k _ => rfl)⟩
def fX8_applyNode (n : Nat) (K : tK) (T : tT) : Option (Int32 × tT) := (if ¬ (fX7_isFull T) = 0 then some (0, T) else (if (fX7_isThere T (K.1 0)) = 0 then some (0, T) else ((fX7_kidsOf n T (K.1 0)).bind fun y4 => (if y4 < (K.1 1) then some (0, T) else (if ¬ (fX9_isTag (K.1 2)) = 0 then ((fX7_spotFor n T (K.1 0) (K.1 1)).bind fun y8 => (if ¬ y8 = 0 then ((fX7_add T (K.1 0) y8 (K.1 2)).bind fun y11 => some (1, y11.2)) else some (0, T))) else some (0, T))))))
theorem spX8_applyNode {d n : Nat} {h : pH} {t : Nat} {K : tK} {T : tT} (xK : isK h K) (xT : isT h t T) (ht : 7 ≤ t) {res : Int32 × tT} (H : fX8_applyNode n K T = some res) : Ev (d + 4) mX8_applyNode (h, 0, [(0, .ref 3), (1, .ref t)], []) (fun r h1 => r = some (.int res.1) ∧ isT h1 t res.2 ∧ fr [(t, t + 4)] h h1) := by
  unfold fX8_applyNode at H
  refine Ev.go 1 (s' := (h, 1, [(0, .ref 3), (1, .ref t)], [.ref 3])) rfl ?_
  refine Ev.get rfl (by decide) xK.1 rfl ?_
  refine Ev.go 1 (s' := (h, 5, [(0, .ref 3), (1, .ref t)], [.int 0, .ref 4])) rfl ?_
  refine Ev.iald rfl (by decide) xK.2 (by unfold vp_in; decide) ?_
  refine Ev.go 2 (s' := (h, 8, [(0, .ref 3), (1, .ref t), (2, .int (K.1 0))], [.ref t])) rfl ?_
  refine Ev.callE rfl rfl rfl (p_argsV (by have := xT.2.2.2.2; omega) xT.1 (Nat.le_of_ble_eq_true rfl)) rfl (Nat.le_of_ble_eq_true rfl) (spX7_isFull xT ) ?_
  refine Ev.if1 rfl (fun c1 => ?_) (fun c1 => ?_)
  · have c1 : ¬ (fX7_isFull T) = 0 := c1
    rw [if_pos c1] at H
    refine Ev.go 1 (s' := (h, 49, [(0, .ref 3), (1, .ref t), (2, .int (K.1 0))], [.int 0])) rfl ?_
    cases H
    exact Ev.ret rfl rfl (p_retZ rfl) ⟨rfl, xT, (fun k _ => rfl)⟩
  · have c1 : ¬ (¬ (fX7_isFull T) = 0) := c1
    rw [if_neg c1] at H
    refine Ev.go 2 (s' := (h, 16, [(0, .ref 3), (1, .ref t), (2, .int (K.1 0))], [.int (K.1 0), .ref t])) rfl ?_
    refine Ev.callE rfl rfl rfl (p_argsV (by have := xT.2.2.2.2; omega) xT.1 (Nat.le_of_ble_eq_true rfl)) rfl (Nat.le_of_ble_eq_true rfl) (spX7_isThere xT (K.1 0)) ?_
    refine Ev.if1 rfl (fun c2 => ?_) (fun c2 => ?_)
    · have c2 : (fX7_isThere T (K.1 0)) = 0 := c2
      rw [if_pos c2] at H
      refine Ev.go 1 (s' := (h, 49, [(0, .ref 3), (1, .ref t), (2, .int (K.1 0))], [.int 0])) rfl ?_
      cases H
      exact Ev.ret rfl rfl (p_retZ rfl) ⟨rfl, xT, (fun k _ => rfl)⟩
    · have c2 : ¬ ((fX7_isThere T (K.1 0)) = 0) := c2
      rw [if_neg c2] at H
      refine Ev.go 1 (s' := (h, 23, [(0, .ref 3), (1, .ref t), (2, .int (K.1 0))], [.ref 3])) rfl ?_
      refine Ev.get rfl (by decide) xK.1 rfl ?_
      refine Ev.go 1 (s' := (h, 27, [(0, .ref 3), (1, .ref t), (2, .int (K.1 0))], [.int 1, .ref 4])) rfl ?_
      refine Ev.iald rfl (by decide) xK.2 (by unfold vp_in; decide) ?_
      refine Ev.go 2 (s' := (h, 30, [(0, .ref 3), (1, .ref t), (2, .int (K.1 0))], [.int (K.1 0), .ref t, .int (K.1 1)])) rfl ?_
      obtain ⟨y4, e3, H⟩ := Option.bind_eq_some_iff.mp H
      refine Ev.callE rfl rfl rfl (p_argsV (by have := xT.2.2.2.2; omega) xT.1 (Nat.le_of_ble_eq_true rfl)) rfl (Nat.le_of_ble_eq_true rfl) (spX7_kidsOf xT (K.1 0) e3) ?_
      refine Ev.if2 rfl (fun c5 => ?_) (fun c5 => ?_)
      · have c5 : y4 < (K.1 1) := c5
        rw [if_pos c5] at H
        refine Ev.go 1 (s' := (h, 49, [(0, .ref 3), (1, .ref t), (2, .int (K.1 0))], [.int 0])) rfl ?_
        cases H
        exact Ev.ret rfl rfl (p_retZ rfl) ⟨rfl, xT, (fun k _ => rfl)⟩
      · have c5 : ¬ (y4 < (K.1 1)) := c5
        rw [if_neg c5] at H
        refine Ev.go 1 (s' := (h, 37, [(0, .ref 3), (1, .ref t), (2, .int (K.1 0))], [.ref 3])) rfl ?_
        refine Ev.get rfl (by decide) xK.1 rfl ?_
        refine Ev.go 1 (s' := (h, 41, [(0, .ref 3), (1, .ref t), (2, .int (K.1 0))], [.int 2, .ref 4])) rfl ?_
        refine Ev.iald rfl (by decide) xK.2 (by unfold vp_in; decide) ?_
        refine Ev.callE rfl rfl rfl rfl rfl (Nat.le_of_ble_eq_true rfl) (spX9_isTag  (K.1 2)) ?_
        refine Ev.if1 rfl (fun c6 => ?_) (fun c6 => ?_)
        · have c6 : ¬ (fX9_isTag (K.1 2)) = 0 := c6
          rw [if_pos c6] at H
          refine Ev.go 3 (s' := (h, 53, [(0, .ref 3), (1, .ref t), (2, .int (K.1 0))], [.ref 3, .int (K.1 0), .ref t])) rfl ?_
          refine Ev.get rfl (by decide) xK.1 rfl ?_
          refine Ev.go 1 (s' := (h, 57, [(0, .ref 3), (1, .ref t), (2, .int (K.1 0))], [.int 1, .ref 4, .int (K.1 0), .ref t])) rfl ?_
          refine Ev.iald rfl (by decide) xK.2 (by unfold vp_in; decide) ?_
          obtain ⟨y8, e7, H⟩ := Option.bind_eq_some_iff.mp H
          refine Ev.callE rfl rfl rfl (p_argsV (by have := xT.2.2.2.2; omega) xT.1 (Nat.le_of_ble_eq_true rfl)) rfl (Nat.le_of_ble_eq_true rfl) (spX7_spotFor xT (K.1 0) (K.1 1) e7) ?_
          refine Ev.go 2 (s' := (h, 63, [(0, .ref 3), (1, .ref t), (2, .int (K.1 0)), (3, .int y8)], [.int y8])) rfl ?_
          refine Ev.if1 rfl (fun c9 => ?_) (fun c9 => ?_)
          · have c9 : ¬ y8 = 0 := c9
            rw [if_pos c9] at H
            refine Ev.go 4 (s' := (h, 72, [(0, .ref 3), (1, .ref t), (2, .int (K.1 0)), (3, .int y8)], [.ref 3, .int y8, .int (K.1 0), .ref t])) rfl ?_
            refine Ev.get rfl (by decide) xK.1 rfl ?_
            refine Ev.go 1 (s' := (h, 76, [(0, .ref 3), (1, .ref t), (2, .int (K.1 0)), (3, .int y8)], [.int 2, .ref 4, .int y8, .int (K.1 0), .ref t])) rfl ?_
            refine Ev.iald rfl (by decide) xK.2 (by unfold vp_in; decide) ?_
            obtain ⟨y11, e10, H⟩ := Option.bind_eq_some_iff.mp H
            refine Ev.call rfl rfl rfl (p_argsV (by have := xT.2.2.2.2; omega) xT.1 (Nat.le_of_ble_eq_true rfl)) rfl (Nat.le_of_ble_eq_true rfl) ((spX7_add xT (K.1 0) y8 (K.1 2) e10).mono (fun r h12 q13 => ?_))
            obtain ⟨rfl, q13_T, q13_f⟩ := q13
            have i14 : isK h12 K := isK.fr q13_f (fr1 (by omega)) xK
            refine Ev.go 2 (s' := (h12, 82, [(0, .ref 3), (1, .ref t), (2, .int (K.1 0)), (3, .int y8)], [.int 1])) rfl ?_
            cases H
            exact Ev.ret rfl rfl (p_retZ rfl) ⟨rfl, q13_T, (fun k hk => by rw [q13_f k (by have := hk; simp at this ⊢; omega)])⟩
          · have c9 : ¬ (¬ y8 = 0) := c9
            rw [if_neg c9] at H
            refine Ev.go 1 (s' := (h, 67, [(0, .ref 3), (1, .ref t), (2, .int (K.1 0)), (3, .int y8)], [.int 0])) rfl ?_
            cases H
            exact Ev.ret rfl rfl (p_retZ rfl) ⟨rfl, xT, (fun k _ => rfl)⟩
        · have c6 : ¬ (¬ (fX9_isTag (K.1 2)) = 0) := c6
          rw [if_neg c6] at H
          refine Ev.go 1 (s' := (h, 49, [(0, .ref 3), (1, .ref t), (2, .int (K.1 0))], [.int 0])) rfl ?_
          cases H
          exact Ev.ret rfl rfl (p_retZ rfl) ⟨rfl, xT, (fun k _ => rfl)⟩
def fX8_apply (n : Nat) (K : tK) (letter : Int32) (T : tT) : Option (Int32 × tK × tT) := (if ¬ letter = 107 then (if ¬ letter = 114 then ((fX8_applyNode n K T).bind fun y4 => (if y4.1 &&& 1 = y4.1 then some (y4.1, K, y4.2) else none)) else ((fX8_applyRoot K T).bind fun y10 => (if y10.1 &&& 1 = y10.1 then some (y10.1, K, y10.2) else none))) else ((fX8_applyKind K T).bind fun y16 => (if y16.1 &&& 1 = y16.1 then some (y16.1, y16.2.1, y16.2.2) else none)))
theorem spX8_apply {d n : Nat} {h : pH} {t : Nat} {K : tK} {T : tT} (xK : isK h K) (xT : isT h t T) (ht : 7 ≤ t) (letter : Int32) {res : Int32 × tK × tT} (H : fX8_apply n K letter T = some res) : Ev (d + 5) mX8_apply (h, 0, [(0, .ref 3), (1, .int letter), (2, .ref t)], []) (fun r h1 => r = some (.int res.1) ∧ isK h1 res.2.1 ∧ isT h1 t res.2.2 ∧ fr [(3, 5), (t, t + 4)] h h1) := by
  unfold fX8_apply at H
  refine Ev.go 2 (s' := (h, 3, [(0, .ref 3), (1, .int letter), (2, .ref t)], [.int 107, .int letter])) rfl ?_
  refine Ev.if2 rfl (fun c1 => ?_) (fun c1 => ?_)
  · have c1 : ¬ letter = 107 := c1
    rw [if_pos c1] at H
    refine Ev.go 2 (s' := (h, 15, [(0, .ref 3), (1, .int letter), (2, .ref t)], [.int 114, .int letter])) rfl ?_
    refine Ev.if2 rfl (fun c2 => ?_) (fun c2 => ?_)
    · have c2 : ¬ letter = 114 := c2
      rw [if_pos c2] at H
      refine Ev.go 2 (s' := (h, 28, [(0, .ref 3), (1, .int letter), (2, .ref t)], [.ref t, .ref 3])) rfl ?_
      obtain ⟨y4, e3, H⟩ := Option.bind_eq_some_iff.mp H
      refine Ev.call rfl rfl rfl (p_argsV (by decide) xK.1 (Nat.le_of_ble_eq_true rfl)) rfl (Nat.le_of_ble_eq_true rfl) ((spX8_applyNode xK xT (by omega)  e3).mono (fun r h5 q6 => ?_))
      obtain ⟨rfl, q6_T, q6_f⟩ := q6
      have i7 : isK h5 K := isK.fr q6_f (fr1 (by omega)) xK
      have v8 : y4.1 &&& 1 = y4.1 := Classical.byContradiction fun q => by rw [if_neg q] at H; cases H
      rw [if_pos v8] at H
      cases H
      exact Ev.ret rfl rfl (p_retZ (t := .boolean) (congrArg Value.int v8)) ⟨rfl, i7, q6_T, (fun k hk => by rw [q6_f k (by have := hk; simp at this ⊢; omega)])⟩
    · have c2 : ¬ (¬ letter = 114) := c2
      rw [if_neg c2] at H
      refine Ev.go 2 (s' := (h, 20, [(0, .ref 3), (1, .int letter), (2, .ref t)], [.ref t, .ref 3])) rfl ?_
      obtain ⟨y10, e9, H⟩ := Option.bind_eq_some_iff.mp H
      refine Ev.call rfl rfl rfl (p_argsV (by decide) xK.1 (Nat.le_of_ble_eq_true rfl)) rfl (Nat.le_of_ble_eq_true rfl) ((spX8_applyRoot xK xT (by omega)  e9).mono (fun r h11 q12 => ?_))
      obtain ⟨rfl, q12_T, q12_f⟩ := q12
      have i13 : isK h11 K := isK.fr q12_f (fr1 (by omega)) xK
      refine Ev.go 1 (s' := (h11, 31, [(0, .ref 3), (1, .int letter), (2, .ref t)], [.int y10.1])) rfl ?_
      have v14 : y10.1 &&& 1 = y10.1 := Classical.byContradiction fun q => by rw [if_neg q] at H; cases H
      rw [if_pos v14] at H
      cases H
      exact Ev.ret rfl rfl (p_retZ (t := .boolean) (congrArg Value.int v14)) ⟨rfl, i13, q12_T, (fun k hk => by rw [q12_f k (by have := hk; simp at this ⊢; omega)])⟩
  · have c1 : ¬ (¬ letter = 107) := c1
    rw [if_neg c1] at H
    refine Ev.go 2 (s' := (h, 8, [(0, .ref 3), (1, .int letter), (2, .ref t)], [.ref t, .ref 3])) rfl ?_
    obtain ⟨y16, e15, H⟩ := Option.bind_eq_some_iff.mp H
    refine Ev.call rfl rfl rfl (p_argsV (by decide) xK.1 (Nat.le_of_ble_eq_true rfl)) rfl (Nat.le_of_ble_eq_true rfl) ((spX8_applyKind xK xT (by omega)  e15).mono (fun r h17 q18 => ?_))
    obtain ⟨rfl, q18_K, q18_T, q18_f⟩ := q18
    have v19 : y16.1 &&& 1 = y16.1 := Classical.byContradiction fun q => by rw [if_neg q] at H; cases H
    rw [if_pos v19] at H
    cases H
    exact Ev.ret rfl rfl (p_retZ (t := .boolean) (congrArg Value.int v19)) ⟨rfl, q18_K, q18_T, (fun k hk => by rw [q18_f k (by have := hk; simp at this ⊢; omega)])⟩
def lX8_read_14 (n : Nat) (L : tL) : Nat → tK → tT → Option (Int32 × tK × tT)
  | 0, _, _ => none
  | m + 1, K, T => (if (fX1_size L) ≤ K.2.1 then some ((-1), K, T) else ((fX1_letterAt L K.2.1).bind fun y9 => ((fX8_readNumbers n (K.1, K.2.1 + 1, K.2.2) L (fX8_numbersBehind y9)).bind fun y11 => (if y11.1 = 0 then some (K.2.1, y11.2, T) else ((fX8_apply n y11.2 y9 T).bind fun y18 => (if ¬ y18.1 = 0 then lX8_read_14 n L m y18.2.1 y18.2.2 else some (K.2.1, y18.2.1, y18.2.2)))))))
theorem llX8_read_14 {d n : Nat} {t : Nat} {L : tL} (ht : 7 ≤ t) : ∀ (m : Nat) (h : pH) (K : tK) (T : tT) (res : Int32 × tK × tT), lX8_read_14 n L m K T = some res → isL h L → isK h K → isT h t T → Ev (d + 6) mX8_read (h, 14, [(0, .ref 3), (1, .ref 1), (2, .ref t)], []) (fun r h1 => r = some (.int res.1) ∧ isK h1 res.2.1 ∧ isT h1 t res.2.2 ∧ fr [(3, 5), (t, t + 4)] h h1)
  | 0, h, K, T, res, H, _, _, _ => by cases H
  | m + 1, h, K, T, res, H, xL, xK, xT => by
    have H : (if (fX1_size L) ≤ K.2.1 then some ((-1), K, T) else ((fX1_letterAt L K.2.1).bind fun y9 => ((fX8_readNumbers n (K.1, K.2.1 + 1, K.2.2) L (fX8_numbersBehind y9)).bind fun y11 => (if y11.1 = 0 then some (K.2.1, y11.2, T) else ((fX8_apply n y11.2 y9 T).bind fun y18 => (if ¬ y18.1 = 0 then lX8_read_14 n L m y18.2.1 y18.2.2 else some (K.2.1, y18.2.1, y18.2.2))))))) = some res := H
    refine Ev.go 1 (s' := (h, 15, [(0, .ref 3), (1, .ref 1), (2, .ref t)], [.ref 3])) rfl ?_
    refine Ev.get rfl (by decide) xK.1 rfl ?_
    refine Ev.go 1 (s' := (h, 19, [(0, .ref 3), (1, .ref 1), (2, .ref t)], [.ref 1, .int K.2.1])) rfl ?_
    refine Ev.callE rfl rfl rfl (p_argsV (by decide) xL.1 (Nat.le_of_ble_eq_true rfl)) rfl (Nat.le_of_ble_eq_true rfl) (spX1_size xL ) ?_
    refine Ev.if2 rfl (fun c7 => ?_) (fun c7 => ?_)
    · have c7 : (fX1_size L) ≤ K.2.1 := c7
      rw [if_pos c7] at H
      refine Ev.go 1 (s' := (h, 79, [(0, .ref 3), (1, .ref 1), (2, .ref t)], [.int ((-1))])) rfl ?_
      cases H
      exact Ev.ret rfl rfl (p_retZ rfl) ⟨rfl, xK, xT, (fun k _ => rfl)⟩
    · have c7 : ¬ ((fX1_size L) ≤ K.2.1) := c7
      rw [if_neg c7] at H
      refine Ev.go 1 (s' := (h, 26, [(0, .ref 3), (1, .ref 1), (2, .ref t)], [.ref 3])) rfl ?_
      refine Ev.get rfl (by decide) xK.1 rfl ?_
      refine Ev.go 3 (s' := (h, 32, [(0, .ref 3), (1, .ref 1), (2, .ref t), (3, .int K.2.1)], [.ref 3, .ref 1])) rfl ?_
      refine Ev.get rfl (by decide) xK.1 rfl ?_
      obtain ⟨y9, e8, H⟩ := Option.bind_eq_some_iff.mp H
      refine Ev.callE rfl rfl rfl (p_argsV (by decide) xL.1 (Nat.le_of_ble_eq_true rfl)) rfl (Nat.le_of_ble_eq_true rfl) (spX1_letterAt xL K.2.1 e8) ?_
      refine Ev.go 3 (s' := (h, 42, [(0, .ref 3), (1, .ref 1), (2, .ref t), (3, .int K.2.1), (4, .int y9)], [.ref 3, .ref 3])) rfl ?_
      refine Ev.get rfl (by decide) xK.1 rfl ?_
      refine Ev.go 2 (s' := (h, 47, [(0, .ref 3), (1, .ref 1), (2, .ref t), (3, .int K.2.1), (4, .int y9)], [.int (K.2.1 + 1), .ref 3])) rfl ?_
      refine Ev.put rfl rfl (by decide) xK.1 (Nat.le_of_ble_eq_true rfl) rfl rfl (fs' := [.ref 4, .int (K.2.1 + 1), .int K.2.2]) rfl ?_
      refine Ev.go 3 (s' := ((pu h 3 (eO 7 [.ref 4, .int (K.2.1 + 1), .int K.2.2])), 54, [(0, .ref 3), (1, .ref 1), (2, .ref t), (3, .int K.2.1), (4, .int y9)], [.int y9, .ref 1, .ref 3])) rfl ?_
      refine Ev.callE rfl rfl rfl rfl rfl (Nat.le_of_ble_eq_true rfl) (spX8_numbersBehind  y9) ?_
      obtain ⟨y11, e10, H⟩ := Option.bind_eq_some_iff.mp H
      refine Ev.call rfl rfl rfl (p_argsV (by decide) pu_s (Nat.le_of_ble_eq_true rfl)) rfl (Nat.le_of_ble_eq_true rfl) ((spX8_readNumbers (h := (pu h 3 (eO 7 [.ref 4, .int (K.2.1 + 1), .int K.2.2]))) (K := (K.1, K.2.1 + 1, K.2.2)) (L := L) ⟨pu_s, (pu_n (by decide) xK.2)⟩ ⟨(pu_n (by decide) xL.1), (pu_n (by decide) xL.2)⟩ (fX8_numbersBehind y9) e10).mono (fun r h12 q13 => ?_))
      obtain ⟨rfl, q13_K, q13_f⟩ := q13
      have i14 : isL h12 L := isL.fr q13_f (fr1 (by omega)) ⟨(pu_n (by decide) xL.1), (pu_n (by decide) xL.2)⟩
      have i15 : isT h12 t T := isT.fr q13_f (fr1 (by omega)) ⟨(pu_n (by omega) xT.1), (pu_n (by omega) xT.2.1), (pu_n (by omega) xT.2.2.1), (pu_n (by omega) xT.2.2.2.1), (by have := xT.2.2.2.2; omega)⟩
      refine Ev.if1 rfl (fun c16 => ?_) (fun c16 => ?_)
      · have c16 : y11.1 = 0 := c16
        rw [if_pos c16] at H
        refine Ev.go 1 (s' := (h12, 74, [(0, .ref 3), (1, .ref 1), (2, .ref t), (3, .int K.2.1), (4, .int y9)], [.int K.2.1])) rfl ?_
        cases H
        exact Ev.ret rfl rfl (p_retZ rfl) ⟨rfl, q13_K, i15, (fun k hk => by rw [q13_f k (by have := hk; simp at this ⊢; omega)]; rw [pu_x (show k ≠ 3 from fun e => by have := hk; simp at this; omega)])⟩
      · have c16 : ¬ (y11.1 = 0) := c16
        rw [if_neg c16] at H
        refine Ev.go 3 (s' := (h12, 67, [(0, .ref 3), (1, .ref 1), (2, .ref t), (3, .int K.2.1), (4, .int y9)], [.ref t, .int y9, .ref 3])) rfl ?_
        obtain ⟨y18, e17, H⟩ := Option.bind_eq_some_iff.mp H
        refine Ev.call rfl rfl rfl (p_argsV (by decide) q13_K.1 (Nat.le_of_ble_eq_true rfl)) rfl (Nat.le_of_ble_eq_true rfl) ((spX8_apply q13_K i15 (by omega) y9 e17).mono (fun r h19 q20 => ?_))
        obtain ⟨rfl, q20_K, q20_T, q20_f⟩ := q20
        have i21 : isL h19 L := isL.fr q20_f (fr2 (by omega) (by omega)) i14
        refine Ev.if1 rfl (fun c22 => ?_) (fun c22 => ?_)
        · have c22 : ¬ y18.1 = 0 := c22
          rw [if_pos c22] at H
          refine Ev.go 1 (s' := (h19, 14, [(0, .ref 3), (1, .ref 1), (2, .ref t), (3, .int K.2.1), (4, .int y9)], [])) rfl ?_
          refine Ev.live rfl (lv' := [(0, .ref 3), (1, .ref 1), (2, .ref t)]) rfl ?_
          refine (llX8_read_14 ht m h19 y18.2.1 y18.2.2 _ H i21 q20_K q20_T).mono (fun r h9 q9 => ?_)
          obtain ⟨q9r, q9_0, q9_1, q9f⟩ := q9
          exact ⟨q9r, q9_0, q9_1, fun k hk => (q9f k hk).trans (by rw [q20_f k (by have := hk; simp at this ⊢; omega)]; rw [q13_f k (by have := hk; simp at this ⊢; omega)]; rw [pu_x (show k ≠ 3 from fun e => by have := hk; simp at this; omega)])⟩
        · have c22 : ¬ (¬ y18.1 = 0) := c22
          rw [if_neg c22] at H
          refine Ev.go 1 (s' := (h19, 74, [(0, .ref 3), (1, .ref 1), (2, .ref t), (3, .int K.2.1), (4, .int y9)], [.int K.2.1])) rfl ?_
          cases H
          exact Ev.ret rfl rfl (p_retZ rfl) ⟨rfl, q20_K, q20_T, (fun k hk => by rw [q20_f k (by have := hk; simp at this ⊢; omega)]; rw [q13_f k (by have := hk; simp at this ⊢; omega)]; rw [pu_x (show k ≠ 3 from fun e => by have := hk; simp at this; omega)])⟩
def fX8_read (n : Nat) (K : tK) (L : tL) (T : tT) : Option (Int32 × tK × tT) := ((fX7_clear T).bind fun y2 => lX8_read_14 n L n (K.1, 0, 0) y2)
theorem spX8_read {d n : Nat} {h : pH} {t : Nat} {K : tK} {L : tL} {T : tT} (xK : isK h K) (xL : isL h L) (xT : isT h t T) (ht : 7 ≤ t) {res : Int32 × tK × tT} (H : fX8_read n K L T = some res) : Ev (d + 6) mX8_read (h, 0, [(0, .ref 3), (1, .ref 1), (2, .ref t)], []) (fun r h1 => r = some (.int res.1) ∧ isK h1 res.2.1 ∧ isT h1 t res.2.2 ∧ fr [(3, 5), (t, t + 4)] h h1) := by
  unfold fX8_read at H
  refine Ev.go 1 (s' := (h, 1, [(0, .ref 3), (1, .ref 1), (2, .ref t)], [.ref t])) rfl ?_
  obtain ⟨y2, e1, H⟩ := Option.bind_eq_some_iff.mp H
  refine Ev.call rfl rfl rfl (p_argsV (by have := xT.2.2.2.2; omega) xT.1 (Nat.le_of_ble_eq_true rfl)) rfl (Nat.le_of_ble_eq_true rfl) ((spX7_clear xT  e1).mono (fun r h3 q4 => ?_))
  obtain ⟨rfl, q4_T, q4_f⟩ := q4
  have i5 : isK h3 K := isK.fr q4_f (fr1 (by omega)) xK
  have i6 : isL h3 L := isL.fr q4_f (fr1 (by omega)) xL
  refine Ev.go 2 (s' := (h3, 6, [(0, .ref 3), (1, .ref 1), (2, .ref t)], [.int 0, .ref 3])) rfl ?_
  refine Ev.put rfl rfl (by decide) i5.1 (Nat.le_of_ble_eq_true rfl) rfl rfl (fs' := [.ref 4, .int 0, .int K.2.2]) rfl ?_
  refine Ev.go 2 (s' := ((pu h3 3 (eO 7 [.ref 4, .int 0, .int K.2.2])), 11, [(0, .ref 3), (1, .ref 1), (2, .ref t)], [.int 0, .ref 3])) rfl ?_
  refine Ev.put rfl rfl (by decide) pu_s (Nat.le_of_ble_eq_true rfl) rfl rfl (fs' := [.ref 4, .int 0, .int 0]) rfl ?_
  refine Ev.live rfl (lv' := [(0, .ref 3), (1, .ref 1), (2, .ref t)]) rfl ?_
  refine (llX8_read_14 ht n (pu (pu h3 3 (eO 7 [.ref 4, .int 0, .int K.2.2])) 3 (eO 7 [.ref 4, .int 0, .int 0])) (K.1, 0, 0) y2 _ H ⟨(pu_n (by decide) (pu_n (by decide) i6.1)), (pu_n (by decide) (pu_n (by decide) i6.2))⟩ ⟨pu_s, (pu_n (by decide) (pu_n (by decide) i5.2))⟩ ⟨(pu_n (by omega) (pu_n (by omega) q4_T.1)), (pu_n (by omega) (pu_n (by omega) q4_T.2.1)), (pu_n (by omega) (pu_n (by omega) q4_T.2.2.1)), (pu_n (by omega) (pu_n (by omega) q4_T.2.2.2.1)), (by have := q4_T.2.2.2.2; omega)⟩).mono (fun r h9 q9 => ?_)
  obtain ⟨q9r, q9_0, q9_1, q9f⟩ := q9
  exact ⟨q9r, q9_0, q9_1, fun k hk => (q9f k hk).trans (by rw [pu_x (show k ≠ 3 from fun e => by have := hk; simp at this; omega)]; rw [pu_x (show k ≠ 3 from fun e => by have := hk; simp at this; omega)]; rw [q4_f k (by have := hk; simp at this ⊢; omega)])⟩
def fX6_axisFor (letter : Int32) : Int32 := (if letter = 43 then 2 else (if letter = 47 then 0 else (if letter = 58 then 1 else (if letter = 126 then 3 else (-1)))))
theorem spX6_axisFor {d : Nat} {h : pH}  (letter : Int32) : Ev d mX6_axisFor (h, 0, [(0, .int letter)], []) (fun r h1 => r = some (.int (fX6_axisFor letter)) ∧ h1 = h) := by
  refine Ev.go 1 (s' := (h, 1, [(0, .int letter)], [.int letter])) rfl ?_
  rcases Classical.em (letter = 43) with c1 | c1
  · skip
    refine Ev.one (s' := (h, 48, [(0, .int letter)], [])) rfl rfl (by rw [c1]; rfl) ?_
    refine Ev.go 1 (s' := (h, 49, [(0, .int letter)], [.int 2])) rfl ?_
    exact Ev.ret rfl rfl (p_retZ rfl) ⟨congrArg (fun z => some (Value.int z)) (by rw [fX6_axisFor, if_pos c1]), rfl⟩
  · skip
    rcases Classical.em (letter = 47) with c2 | c2
    · skip
      refine Ev.one (s' := (h, 44, [(0, .int letter)], [])) rfl rfl (by rw [c2]; rfl) ?_
      refine Ev.go 1 (s' := (h, 45, [(0, .int letter)], [.int 0])) rfl ?_
      exact Ev.ret rfl rfl (p_retZ rfl) ⟨congrArg (fun z => some (Value.int z)) (by rw [fX6_axisFor, if_neg c1, if_pos c2]), rfl⟩
    · skip
      rcases Classical.em (letter = 58) with c3 | c3
      · skip
        refine Ev.one (s' := (h, 46, [(0, .int letter)], [])) rfl rfl (by rw [c3]; rfl) ?_
        refine Ev.go 1 (s' := (h, 47, [(0, .int letter)], [.int 1])) rfl ?_
        exact Ev.ret rfl rfl (p_retZ rfl) ⟨congrArg (fun z => some (Value.int z)) (by rw [fX6_axisFor, if_neg c1, if_neg c2, if_pos c3]), rfl⟩
      · skip
        rcases Classical.em (letter = 126) with c4 | c4
        · skip
          refine Ev.one (s' := (h, 50, [(0, .int letter)], [])) rfl rfl (by rw [c4]; rfl) ?_
          refine Ev.go 1 (s' := (h, 51, [(0, .int letter)], [.int 3])) rfl ?_
          exact Ev.ret rfl rfl (p_retZ rfl) ⟨congrArg (fun z => some (Value.int z)) (by rw [fX6_axisFor, if_neg c1, if_neg c2, if_neg c3, if_pos c4]), rfl⟩
        · skip
          refine Ev.one (s' := (h, 52, [(0, .int letter)], [])) rfl rfl (p_swl (p_sw_43_126 c1 c2 c3 c4)) ?_
          refine Ev.go 1 (s' := (h, 53, [(0, .int letter)], [.int ((-1))])) rfl ?_
          exact Ev.ret rfl rfl (p_retZ rfl) ⟨congrArg (fun z => some (Value.int z)) (by rw [fX6_axisFor, if_neg c1, if_neg c2, if_neg c3, if_neg c4]), rfl⟩
def fX6_opens (U : tU) : Option (Int32 × tU) := (if U.2.1 < 8 then (if U.2.1 < 0 ∨ 8 ≤ U.2.1.toNatClampNeg then none else some (1, (upd U.1 U.2.1.toNatClampNeg U.2.2.2.1, U.2.1 + 1, 1, U.2.2.2.1, U.2.2.2.2))) else some (0, U))
theorem spX6_opens {d : Nat} {h : pH} {U : tU} (xU : isU h U) {res : Int32 × tU} (H : fX6_opens U = some res) : Ev d mX6_opens (h, 0, [(0, .ref 5)], []) (fun r h1 => r = some (.int res.1) ∧ isU h1 res.2 ∧ fr [(5, 7)] h h1) := by
  unfold fX6_opens at H
  refine Ev.go 1 (s' := (h, 1, [(0, .ref 5)], [.ref 5])) rfl ?_
  refine Ev.get rfl (by decide) xU.1 rfl ?_
  refine Ev.go 1 (s' := (h, 6, [(0, .ref 5)], [.int 8, .int U.2.1])) rfl ?_
  refine Ev.if2 rfl (fun c1 => ?_) (fun c1 => ?_)
  · have c1 : U.2.1 < 8 := c1
    rw [if_pos c1] at H
    refine Ev.go 1 (s' := (h, 12, [(0, .ref 5)], [.ref 5])) rfl ?_
    refine Ev.get rfl (by decide) xU.1 rfl ?_
    refine Ev.go 1 (s' := (h, 16, [(0, .ref 5)], [.ref 5, .ref 6])) rfl ?_
    refine Ev.get rfl (by decide) xU.1 rfl ?_
    refine Ev.go 1 (s' := (h, 20, [(0, .ref 5)], [.ref 5, .int U.2.1, .ref 6])) rfl ?_
    refine Ev.get rfl (by decide) xU.1 rfl ?_
    have v2 : vp_in U.2.1 8 := fun q => by rw [if_pos q] at H; cases H
    rw [if_neg v2] at H
    refine Ev.iast rfl (by decide) xU.2 v2 ?_
    refine Ev.go 2 (s' := ((pu h 6 (eI 8 (upd U.1 U.2.1.toNatClampNeg U.2.2.2.1))), 26, [(0, .ref 5)], [.ref 5, .ref 5])) rfl ?_
    refine Ev.get rfl (by decide) (pu_n (by decide) xU.1) rfl ?_
    refine Ev.go 2 (s' := ((pu h 6 (eI 8 (upd U.1 U.2.1.toNatClampNeg U.2.2.2.1))), 31, [(0, .ref 5)], [.int (U.2.1 + 1), .ref 5])) rfl ?_
    refine Ev.put rfl rfl (by decide) (pu_n (by decide) xU.1) (Nat.le_of_ble_eq_true rfl) rfl rfl (fs' := [.ref 6, .int (U.2.1 + 1), .int U.2.2.1, .int U.2.2.2.1, .int U.2.2.2.2]) rfl ?_
    refine Ev.go 2 (s' := ((pu (pu h 6 (eI 8 (upd U.1 U.2.1.toNatClampNeg U.2.2.2.1))) 5 (eO 5 [.ref 6, .int (U.2.1 + 1), .int U.2.2.1, .int U.2.2.2.1, .int U.2.2.2.2])), 36, [(0, .ref 5)], [.int 1, .ref 5])) rfl ?_
    refine Ev.put rfl rfl (by decide) pu_s (Nat.le_of_ble_eq_true rfl) rfl rfl (fs' := [.ref 6, .int (U.2.1 + 1), .int 1, .int U.2.2.2.1, .int U.2.2.2.2]) rfl ?_
    refine Ev.go 1 (s' := ((pu (pu (pu h 6 (eI 8 (upd U.1 U.2.1.toNatClampNeg U.2.2.2.1))) 5 (eO 5 [.ref 6, .int (U.2.1 + 1), .int U.2.2.1, .int U.2.2.2.1, .int U.2.2.2.2])) 5 (eO 5 [.ref 6, .int (U.2.1 + 1), .int 1, .int U.2.2.2.1, .int U.2.2.2.2])), 40, [(0, .ref 5)], [.int 1])) rfl ?_
    cases H
    exact Ev.ret rfl rfl (p_retZ rfl) ⟨rfl, ⟨pu_s, (pu_n (by decide) (pu_n (by decide) pu_s))⟩, (fun k hk => by rw [pu_x (show k ≠ 5 from fun e => by have := hk; simp at this; omega)]; rw [pu_x (show k ≠ 5 from fun e => by have := hk; simp at this; omega)]; rw [pu_x (show k ≠ 6 from fun e => by have := hk; simp at this; omega)])⟩
  · have c1 : ¬ (U.2.1 < 8) := c1
    rw [if_neg c1] at H
    refine Ev.go 1 (s' := (h, 10, [(0, .ref 5)], [.int 0])) rfl ?_
    cases H
    exact Ev.ret rfl rfl (p_retZ rfl) ⟨rfl, xU, (fun k _ => rfl)⟩
def fX6_closes (U : tU) : Option (Int32 × tU) := (if 0 < U.2.1 then (if (U.2.1 - 1) < 0 ∨ 8 ≤ (U.2.1 - 1).toNatClampNeg then none else some (1, (U.1, U.2.1 - 1, U.2.2.1, U.1 (U.2.1 - 1).toNatClampNeg, U.2.2.2.2))) else some (0, U))
theorem spX6_closes {d : Nat} {h : pH} {U : tU} (xU : isU h U) {res : Int32 × tU} (H : fX6_closes U = some res) : Ev d mX6_closes (h, 0, [(0, .ref 5)], []) (fun r h1 => r = some (.int res.1) ∧ isU h1 res.2 ∧ fr [(5, 7)] h h1) := by
  unfold fX6_closes at H
  refine Ev.go 1 (s' := (h, 1, [(0, .ref 5)], [.ref 5])) rfl ?_
  refine Ev.get rfl (by decide) xU.1 rfl ?_
  refine Ev.if1 rfl (fun c1 => ?_) (fun c1 => ?_)
  · have c1 : 0 < U.2.1 := c1
    rw [if_pos c1] at H
    refine Ev.go 2 (s' := (h, 11, [(0, .ref 5)], [.ref 5, .ref 5])) rfl ?_
    refine Ev.get rfl (by decide) xU.1 rfl ?_
    refine Ev.go 2 (s' := (h, 16, [(0, .ref 5)], [.int (U.2.1 - 1), .ref 5])) rfl ?_
    refine Ev.put rfl rfl (by decide) xU.1 (Nat.le_of_ble_eq_true rfl) rfl rfl (fs' := [.ref 6, .int (U.2.1 - 1), .int U.2.2.1, .int U.2.2.2.1, .int U.2.2.2.2]) rfl ?_
    refine Ev.go 2 (s' := ((pu h 5 (eO 5 [.ref 6, .int (U.2.1 - 1), .int U.2.2.1, .int U.2.2.2.1, .int U.2.2.2.2])), 21, [(0, .ref 5)], [.ref 5, .ref 5])) rfl ?_
    refine Ev.get rfl (by decide) pu_s rfl ?_
    refine Ev.go 1 (s' := ((pu h 5 (eO 5 [.ref 6, .int (U.2.1 - 1), .int U.2.2.1, .int U.2.2.2.1, .int U.2.2.2.2])), 25, [(0, .ref 5)], [.ref 5, .ref 6, .ref 5])) rfl ?_
    refine Ev.get rfl (by decide) pu_s rfl ?_
    have v2 : vp_in (U.2.1 - 1) 8 := fun q => by rw [if_pos q] at H; cases H
    rw [if_neg v2] at H
    refine Ev.iald rfl (by decide) (pu_n (by decide) xU.2) v2 ?_
    refine Ev.put rfl rfl (by decide) pu_s (Nat.le_of_ble_eq_true rfl) rfl rfl (fs' := [.ref 6, .int (U.2.1 - 1), .int U.2.2.1, .int (U.1 (U.2.1 - 1).toNatClampNeg), .int U.2.2.2.2]) rfl ?_
    refine Ev.go 1 (s' := ((pu (pu h 5 (eO 5 [.ref 6, .int (U.2.1 - 1), .int U.2.2.1, .int U.2.2.2.1, .int U.2.2.2.2])) 5 (eO 5 [.ref 6, .int (U.2.1 - 1), .int U.2.2.1, .int (U.1 (U.2.1 - 1).toNatClampNeg), .int U.2.2.2.2])), 33, [(0, .ref 5)], [.int 1])) rfl ?_
    cases H
    exact Ev.ret rfl rfl (p_retZ rfl) ⟨rfl, ⟨pu_s, (pu_n (by decide) (pu_n (by decide) xU.2))⟩, (fun k hk => by rw [pu_x (show k ≠ 5 from fun e => by have := hk; simp at this; omega)]; rw [pu_x (show k ≠ 5 from fun e => by have := hk; simp at this; omega)])⟩
  · have c1 : ¬ (0 < U.2.1) := c1
    rw [if_neg c1] at H
    refine Ev.go 1 (s' := (h, 8, [(0, .ref 5)], [.int 0])) rfl ?_
    cases H
    exact Ev.ret rfl rfl (p_retZ rfl) ⟨rfl, xU, (fun k _ => rfl)⟩
def fX6_takesAxis (U : tU) (letter : Int32) : Option (Int32 × tU) := (if 0 ≤ (fX6_axisFor letter) then some (1, (U.1, U.2.1, 0, U.2.2.2.1, fX6_axisFor letter)) else some (0, U))
theorem spX6_takesAxis {d : Nat} {h : pH} {U : tU} (xU : isU h U) (letter : Int32) {res : Int32 × tU} (H : fX6_takesAxis U letter = some res) : Ev (d + 1) mX6_takesAxis (h, 0, [(0, .ref 5), (1, .int letter)], []) (fun r h1 => r = some (.int res.1) ∧ isU h1 res.2 ∧ fr [(5, 7)] h h1) := by
  unfold fX6_takesAxis at H
  refine Ev.go 1 (s' := (h, 1, [(0, .ref 5), (1, .int letter)], [.int letter])) rfl ?_
  refine Ev.callE rfl rfl rfl rfl rfl (Nat.le_of_ble_eq_true rfl) (spX6_axisFor  letter) ?_
  refine Ev.go 2 (s' := (h, 6, [(0, .ref 5), (1, .int letter), (2, .int (fX6_axisFor letter))], [.int (fX6_axisFor letter)])) rfl ?_
  refine Ev.if1 rfl (fun c1 => ?_) (fun c1 => ?_)
  · have c1 : 0 ≤ (fX6_axisFor letter) := c1
    rw [if_pos c1] at H
    refine Ev.go 2 (s' := (h, 13, [(0, .ref 5), (1, .int letter), (2, .int (fX6_axisFor letter))], [.int (fX6_axisFor letter), .ref 5])) rfl ?_
    refine Ev.put rfl rfl (by decide) xU.1 (Nat.le_of_ble_eq_true rfl) rfl rfl (fs' := [.ref 6, .int U.2.1, .int U.2.2.1, .int U.2.2.2.1, .int (fX6_axisFor letter)]) rfl ?_
    refine Ev.go 2 (s' := ((pu h 5 (eO 5 [.ref 6, .int U.2.1, .int U.2.2.1, .int U.2.2.2.1, .int (fX6_axisFor letter)])), 18, [(0, .ref 5), (1, .int letter), (2, .int (fX6_axisFor letter))], [.int 0, .ref 5])) rfl ?_
    refine Ev.put rfl rfl (by decide) pu_s (Nat.le_of_ble_eq_true rfl) rfl rfl (fs' := [.ref 6, .int U.2.1, .int 0, .int U.2.2.2.1, .int (fX6_axisFor letter)]) rfl ?_
    refine Ev.go 1 (s' := ((pu (pu h 5 (eO 5 [.ref 6, .int U.2.1, .int U.2.2.1, .int U.2.2.2.1, .int (fX6_axisFor letter)])) 5 (eO 5 [.ref 6, .int U.2.1, .int 0, .int U.2.2.2.1, .int (fX6_axisFor letter)])), 22, [(0, .ref 5), (1, .int letter), (2, .int (fX6_axisFor letter))], [.int 1])) rfl ?_
    cases H
    exact Ev.ret rfl rfl (p_retZ rfl) ⟨rfl, ⟨pu_s, (pu_n (by decide) (pu_n (by decide) xU.2))⟩, (fun k hk => by rw [pu_x (show k ≠ 5 from fun e => by have := hk; simp at this; omega)]; rw [pu_x (show k ≠ 5 from fun e => by have := hk; simp at this; omega)])⟩
  · have c1 : ¬ (0 ≤ (fX6_axisFor letter)) := c1
    rw [if_neg c1] at H
    refine Ev.go 1 (s' := (h, 10, [(0, .ref 5), (1, .int letter), (2, .int (fX6_axisFor letter))], [.int 0])) rfl ?_
    cases H
    exact Ev.ret rfl rfl (p_retZ rfl) ⟨rfl, xU, (fun k _ => rfl)⟩
def fX6_takesTag (U : tU) (letter : Int32) (S : tS) : Option (Int32 × tU × tS) := (if ¬ letter = 42 then (if letter = 42 then ((fX5_add S (letter - 97) U.2.2.2.1 U.2.2.2.2).bind fun y4 => (if 0 ≤ y4.1 then (if ¬ U.2.1 = 0 then some (1, (U.1, U.2.1, 2, y4.1, U.2.2.2.2), y4.2) else ((fX5_setLastOutermost y4.2 y4.1).bind fun y11 => some (1, (U.1, U.2.1, 2, y4.1, U.2.2.2.2), y11))) else some (0, U, y4.2))) else (if ¬ (fX9_isTag (letter - 97)) = 0 then ((fX5_add S (letter - 97) U.2.2.2.1 U.2.2.2.2).bind fun y17 => (if 0 ≤ y17.1 then (if ¬ U.2.1 = 0 then some (1, (U.1, U.2.1, 2, y17.1, U.2.2.2.2), y17.2) else ((fX5_setLastOutermost y17.2 y17.1).bind fun y24 => some (1, (U.1, U.2.1, 2, y17.1, U.2.2.2.2), y24))) else some (0, U, y17.2))) else some (0, U, S))) else (if letter = 42 then ((fX5_add S 6 U.2.2.2.1 U.2.2.2.2).bind fun y30 => (if 0 ≤ y30.1 then (if ¬ U.2.1 = 0 then some (1, (U.1, U.2.1, 2, y30.1, U.2.2.2.2), y30.2) else ((fX5_setLastOutermost y30.2 y30.1).bind fun y37 => some (1, (U.1, U.2.1, 2, y30.1, U.2.2.2.2), y37))) else some (0, U, y30.2))) else (if ¬ (fX9_isTag 6) = 0 then ((fX5_add S 6 U.2.2.2.1 U.2.2.2.2).bind fun y43 => (if 0 ≤ y43.1 then (if ¬ U.2.1 = 0 then some (1, (U.1, U.2.1, 2, y43.1, U.2.2.2.2), y43.2) else ((fX5_setLastOutermost y43.2 y43.1).bind fun y50 => some (1, (U.1, U.2.1, 2, y43.1, U.2.2.2.2), y50))) else some (0, U, y43.2))) else some (0, U, S))))
theorem spX6_takesTag {d : Nat} {h : pH} {t : Nat} {U : tU} {S : tS} (xU : isU h U) (xS : isS h t S) (ht : 7 ≤ t) (letter : Int32) {res : Int32 × tU × tS} (H : fX6_takesTag U letter S = some res) : Ev (d + 1) mX6_takesTag (h, 0, [(0, .ref 5), (1, .int letter), (2, .ref t)], []) (fun r h1 => r = some (.int res.1) ∧ isU h1 res.2.1 ∧ isS h1 t res.2.2 ∧ fr [(5, 7), (t, t + 4)] h h1) := by
  unfold fX6_takesTag at H
  refine Ev.go 2 (s' := (h, 3, [(0, .ref 5), (1, .int letter), (2, .ref t)], [.int 42, .int letter])) rfl ?_
  refine Ev.if2 rfl (fun c1 => ?_) (fun c1 => ?_)
  · have c1 : ¬ letter = 42 := c1
    rw [if_pos c1] at H
    refine Ev.go 6 (s' := (h, 19, [(0, .ref 5), (1, .int letter), (2, .ref t), (3, .int (letter - 97))], [.int 42, .int letter])) rfl ?_
    refine Ev.if2 rfl (fun c2 => ?_) (fun c2 => ?_)
    · have c2 : letter = 42 := c2
      rw [if_pos c2] at H
      refine Ev.go 3 (s' := (h, 34, [(0, .ref 5), (1, .int letter), (2, .ref t), (3, .int (letter - 97))], [.ref 5, .int (letter - 97), .ref t])) rfl ?_
      refine Ev.get rfl (by decide) xU.1 rfl ?_
      refine Ev.go 1 (s' := (h, 38, [(0, .ref 5), (1, .int letter), (2, .ref t), (3, .int (letter - 97))], [.ref 5, .int U.2.2.2.1, .int (letter - 97), .ref t])) rfl ?_
      refine Ev.get rfl (by decide) xU.1 rfl ?_
      obtain ⟨y4, e3, H⟩ := Option.bind_eq_some_iff.mp H
      refine Ev.call rfl rfl rfl (p_argsV (by have := xS.2.2.2.2; omega) xS.1 (Nat.le_of_ble_eq_true rfl)) rfl (Nat.le_of_ble_eq_true rfl) ((spX5_add xS (letter - 97) U.2.2.2.1 U.2.2.2.2 e3).mono (fun r h5 q6 => ?_))
      obtain ⟨rfl, q6_S, q6_f⟩ := q6
      have i7 : isU h5 U := isU.fr q6_f (fr1 (by omega)) xU
      refine Ev.go 2 (s' := (h5, 48, [(0, .ref 5), (1, .int letter), (2, .ref t), (3, .int (letter - 97)), (4, .int y4.1)], [.int y4.1])) rfl ?_
      refine Ev.if1 rfl (fun c8 => ?_) (fun c8 => ?_)
      · have c8 : 0 ≤ y4.1 := c8
        rw [if_pos c8] at H
        refine Ev.go 1 (s' := (h5, 54, [(0, .ref 5), (1, .int letter), (2, .ref t), (3, .int (letter - 97)), (4, .int y4.1)], [.ref 5])) rfl ?_
        refine Ev.get rfl (by decide) i7.1 rfl ?_
        refine Ev.if1 rfl (fun c9 => ?_) (fun c9 => ?_)
        · have c9 : ¬ U.2.1 = 0 := c9
          rw [if_pos c9] at H
          refine Ev.go 2 (s' := (h5, 69, [(0, .ref 5), (1, .int letter), (2, .ref t), (3, .int (letter - 97)), (4, .int y4.1)], [.int y4.1, .ref 5])) rfl ?_
          refine Ev.put rfl rfl (by decide) i7.1 (Nat.le_of_ble_eq_true rfl) rfl rfl (fs' := [.ref 6, .int U.2.1, .int U.2.2.1, .int y4.1, .int U.2.2.2.2]) rfl ?_
          refine Ev.go 2 (s' := ((pu h5 5 (eO 5 [.ref 6, .int U.2.1, .int U.2.2.1, .int y4.1, .int U.2.2.2.2])), 74, [(0, .ref 5), (1, .int letter), (2, .ref t), (3, .int (letter - 97)), (4, .int y4.1)], [.int 2, .ref 5])) rfl ?_
          refine Ev.put rfl rfl (by decide) pu_s (Nat.le_of_ble_eq_true rfl) rfl rfl (fs' := [.ref 6, .int U.2.1, .int 2, .int y4.1, .int U.2.2.2.2]) rfl ?_
          refine Ev.go 1 (s' := ((pu (pu h5 5 (eO 5 [.ref 6, .int U.2.1, .int U.2.2.1, .int y4.1, .int U.2.2.2.2])) 5 (eO 5 [.ref 6, .int U.2.1, .int 2, .int y4.1, .int U.2.2.2.2])), 78, [(0, .ref 5), (1, .int letter), (2, .ref t), (3, .int (letter - 97)), (4, .int y4.1)], [.int 1])) rfl ?_
          cases H
          exact Ev.ret rfl rfl (p_retZ rfl) ⟨rfl, ⟨pu_s, (pu_n (by decide) (pu_n (by decide) i7.2))⟩, ⟨(pu_n (by omega) (pu_n (by omega) q6_S.1)), (pu_n (by omega) (pu_n (by omega) q6_S.2.1)), (pu_n (by omega) (pu_n (by omega) q6_S.2.2.1)), (pu_n (by omega) (pu_n (by omega) q6_S.2.2.2.1)), (by have := q6_S.2.2.2.2; omega)⟩, (fun k hk => by rw [pu_x (show k ≠ 5 from fun e => by have := hk; simp at this; omega)]; rw [pu_x (show k ≠ 5 from fun e => by have := hk; simp at this; omega)]; rw [q6_f k (by have := hk; simp at this ⊢; omega)])⟩
        · have c9 : ¬ (¬ U.2.1 = 0) := c9
          rw [if_neg c9] at H
          refine Ev.go 2 (s' := (h5, 63, [(0, .ref 5), (1, .int letter), (2, .ref t), (3, .int (letter - 97)), (4, .int y4.1)], [.int y4.1, .ref t])) rfl ?_
          obtain ⟨y11, e10, H⟩ := Option.bind_eq_some_iff.mp H
          refine Ev.call rfl rfl rfl (p_argsV (by have := q6_S.2.2.2.2; omega) q6_S.1 (Nat.le_of_ble_eq_true rfl)) rfl (Nat.le_of_ble_eq_true rfl) ((spX5_setLastOutermost q6_S y4.1 e10).mono (fun r h12 q13 => ?_))
          obtain ⟨rfl, q13_S, q13_f⟩ := q13
          have i14 : isU h12 U := isU.fr q13_f (fr1 (by omega)) i7
          refine Ev.go 2 (s' := (h12, 69, [(0, .ref 5), (1, .int letter), (2, .ref t), (3, .int (letter - 97)), (4, .int y4.1)], [.int y4.1, .ref 5])) rfl ?_
          refine Ev.put rfl rfl (by decide) i14.1 (Nat.le_of_ble_eq_true rfl) rfl rfl (fs' := [.ref 6, .int U.2.1, .int U.2.2.1, .int y4.1, .int U.2.2.2.2]) rfl ?_
          refine Ev.go 2 (s' := ((pu h12 5 (eO 5 [.ref 6, .int U.2.1, .int U.2.2.1, .int y4.1, .int U.2.2.2.2])), 74, [(0, .ref 5), (1, .int letter), (2, .ref t), (3, .int (letter - 97)), (4, .int y4.1)], [.int 2, .ref 5])) rfl ?_
          refine Ev.put rfl rfl (by decide) pu_s (Nat.le_of_ble_eq_true rfl) rfl rfl (fs' := [.ref 6, .int U.2.1, .int 2, .int y4.1, .int U.2.2.2.2]) rfl ?_
          refine Ev.go 1 (s' := ((pu (pu h12 5 (eO 5 [.ref 6, .int U.2.1, .int U.2.2.1, .int y4.1, .int U.2.2.2.2])) 5 (eO 5 [.ref 6, .int U.2.1, .int 2, .int y4.1, .int U.2.2.2.2])), 78, [(0, .ref 5), (1, .int letter), (2, .ref t), (3, .int (letter - 97)), (4, .int y4.1)], [.int 1])) rfl ?_
          cases H
          exact Ev.ret rfl rfl (p_retZ rfl) ⟨rfl, ⟨pu_s, (pu_n (by decide) (pu_n (by decide) i14.2))⟩, ⟨(pu_n (by omega) (pu_n (by omega) q13_S.1)), (pu_n (by omega) (pu_n (by omega) q13_S.2.1)), (pu_n (by omega) (pu_n (by omega) q13_S.2.2.1)), (pu_n (by omega) (pu_n (by omega) q13_S.2.2.2.1)), (by have := q13_S.2.2.2.2; omega)⟩, (fun k hk => by rw [pu_x (show k ≠ 5 from fun e => by have := hk; simp at this; omega)]; rw [pu_x (show k ≠ 5 from fun e => by have := hk; simp at this; omega)]; rw [q13_f k (by have := hk; simp at this ⊢; omega)]; rw [q6_f k (by have := hk; simp at this ⊢; omega)])⟩
      · have c8 : ¬ (0 ≤ y4.1) := c8
        rw [if_neg c8] at H
        refine Ev.go 1 (s' := (h5, 52, [(0, .ref 5), (1, .int letter), (2, .ref t), (3, .int (letter - 97)), (4, .int y4.1)], [.int 0])) rfl ?_
        cases H
        exact Ev.ret rfl rfl (p_retZ rfl) ⟨rfl, i7, q6_S, (fun k hk => by rw [q6_f k (by have := hk; simp at this ⊢; omega)])⟩
    · have c2 : ¬ (letter = 42) := c2
      rw [if_neg c2] at H
      refine Ev.go 1 (s' := (h, 23, [(0, .ref 5), (1, .int letter), (2, .ref t), (3, .int (letter - 97))], [.int (letter - 97)])) rfl ?_
      refine Ev.callE rfl rfl rfl rfl rfl (Nat.le_of_ble_eq_true rfl) (spX9_isTag  (letter - 97)) ?_
      refine Ev.if1 rfl (fun c15 => ?_) (fun c15 => ?_)
      · have c15 : ¬ (fX9_isTag (letter - 97)) = 0 := c15
        rw [if_pos c15] at H
        refine Ev.go 3 (s' := (h, 34, [(0, .ref 5), (1, .int letter), (2, .ref t), (3, .int (letter - 97))], [.ref 5, .int (letter - 97), .ref t])) rfl ?_
        refine Ev.get rfl (by decide) xU.1 rfl ?_
        refine Ev.go 1 (s' := (h, 38, [(0, .ref 5), (1, .int letter), (2, .ref t), (3, .int (letter - 97))], [.ref 5, .int U.2.2.2.1, .int (letter - 97), .ref t])) rfl ?_
        refine Ev.get rfl (by decide) xU.1 rfl ?_
        obtain ⟨y17, e16, H⟩ := Option.bind_eq_some_iff.mp H
        refine Ev.call rfl rfl rfl (p_argsV (by have := xS.2.2.2.2; omega) xS.1 (Nat.le_of_ble_eq_true rfl)) rfl (Nat.le_of_ble_eq_true rfl) ((spX5_add xS (letter - 97) U.2.2.2.1 U.2.2.2.2 e16).mono (fun r h18 q19 => ?_))
        obtain ⟨rfl, q19_S, q19_f⟩ := q19
        have i20 : isU h18 U := isU.fr q19_f (fr1 (by omega)) xU
        refine Ev.go 2 (s' := (h18, 48, [(0, .ref 5), (1, .int letter), (2, .ref t), (3, .int (letter - 97)), (4, .int y17.1)], [.int y17.1])) rfl ?_
        refine Ev.if1 rfl (fun c21 => ?_) (fun c21 => ?_)
        · have c21 : 0 ≤ y17.1 := c21
          rw [if_pos c21] at H
          refine Ev.go 1 (s' := (h18, 54, [(0, .ref 5), (1, .int letter), (2, .ref t), (3, .int (letter - 97)), (4, .int y17.1)], [.ref 5])) rfl ?_
          refine Ev.get rfl (by decide) i20.1 rfl ?_
          refine Ev.if1 rfl (fun c22 => ?_) (fun c22 => ?_)
          · have c22 : ¬ U.2.1 = 0 := c22
            rw [if_pos c22] at H
            refine Ev.go 2 (s' := (h18, 69, [(0, .ref 5), (1, .int letter), (2, .ref t), (3, .int (letter - 97)), (4, .int y17.1)], [.int y17.1, .ref 5])) rfl ?_
            refine Ev.put rfl rfl (by decide) i20.1 (Nat.le_of_ble_eq_true rfl) rfl rfl (fs' := [.ref 6, .int U.2.1, .int U.2.2.1, .int y17.1, .int U.2.2.2.2]) rfl ?_
            refine Ev.go 2 (s' := ((pu h18 5 (eO 5 [.ref 6, .int U.2.1, .int U.2.2.1, .int y17.1, .int U.2.2.2.2])), 74, [(0, .ref 5), (1, .int letter), (2, .ref t), (3, .int (letter - 97)), (4, .int y17.1)], [.int 2, .ref 5])) rfl ?_
            refine Ev.put rfl rfl (by decide) pu_s (Nat.le_of_ble_eq_true rfl) rfl rfl (fs' := [.ref 6, .int U.2.1, .int 2, .int y17.1, .int U.2.2.2.2]) rfl ?_
            refine Ev.go 1 (s' := ((pu (pu h18 5 (eO 5 [.ref 6, .int U.2.1, .int U.2.2.1, .int y17.1, .int U.2.2.2.2])) 5 (eO 5 [.ref 6, .int U.2.1, .int 2, .int y17.1, .int U.2.2.2.2])), 78, [(0, .ref 5), (1, .int letter), (2, .ref t), (3, .int (letter - 97)), (4, .int y17.1)], [.int 1])) rfl ?_
            cases H
            exact Ev.ret rfl rfl (p_retZ rfl) ⟨rfl, ⟨pu_s, (pu_n (by decide) (pu_n (by decide) i20.2))⟩, ⟨(pu_n (by omega) (pu_n (by omega) q19_S.1)), (pu_n (by omega) (pu_n (by omega) q19_S.2.1)), (pu_n (by omega) (pu_n (by omega) q19_S.2.2.1)), (pu_n (by omega) (pu_n (by omega) q19_S.2.2.2.1)), (by have := q19_S.2.2.2.2; omega)⟩, (fun k hk => by rw [pu_x (show k ≠ 5 from fun e => by have := hk; simp at this; omega)]; rw [pu_x (show k ≠ 5 from fun e => by have := hk; simp at this; omega)]; rw [q19_f k (by have := hk; simp at this ⊢; omega)])⟩
          · have c22 : ¬ (¬ U.2.1 = 0) := c22
            rw [if_neg c22] at H
            refine Ev.go 2 (s' := (h18, 63, [(0, .ref 5), (1, .int letter), (2, .ref t), (3, .int (letter - 97)), (4, .int y17.1)], [.int y17.1, .ref t])) rfl ?_
            obtain ⟨y24, e23, H⟩ := Option.bind_eq_some_iff.mp H
            refine Ev.call rfl rfl rfl (p_argsV (by have := q19_S.2.2.2.2; omega) q19_S.1 (Nat.le_of_ble_eq_true rfl)) rfl (Nat.le_of_ble_eq_true rfl) ((spX5_setLastOutermost q19_S y17.1 e23).mono (fun r h25 q26 => ?_))
            obtain ⟨rfl, q26_S, q26_f⟩ := q26
            have i27 : isU h25 U := isU.fr q26_f (fr1 (by omega)) i20
            refine Ev.go 2 (s' := (h25, 69, [(0, .ref 5), (1, .int letter), (2, .ref t), (3, .int (letter - 97)), (4, .int y17.1)], [.int y17.1, .ref 5])) rfl ?_
            refine Ev.put rfl rfl (by decide) i27.1 (Nat.le_of_ble_eq_true rfl) rfl rfl (fs' := [.ref 6, .int U.2.1, .int U.2.2.1, .int y17.1, .int U.2.2.2.2]) rfl ?_
            refine Ev.go 2 (s' := ((pu h25 5 (eO 5 [.ref 6, .int U.2.1, .int U.2.2.1, .int y17.1, .int U.2.2.2.2])), 74, [(0, .ref 5), (1, .int letter), (2, .ref t), (3, .int (letter - 97)), (4, .int y17.1)], [.int 2, .ref 5])) rfl ?_
            refine Ev.put rfl rfl (by decide) pu_s (Nat.le_of_ble_eq_true rfl) rfl rfl (fs' := [.ref 6, .int U.2.1, .int 2, .int y17.1, .int U.2.2.2.2]) rfl ?_
            refine Ev.go 1 (s' := ((pu (pu h25 5 (eO 5 [.ref 6, .int U.2.1, .int U.2.2.1, .int y17.1, .int U.2.2.2.2])) 5 (eO 5 [.ref 6, .int U.2.1, .int 2, .int y17.1, .int U.2.2.2.2])), 78, [(0, .ref 5), (1, .int letter), (2, .ref t), (3, .int (letter - 97)), (4, .int y17.1)], [.int 1])) rfl ?_
            cases H
            exact Ev.ret rfl rfl (p_retZ rfl) ⟨rfl, ⟨pu_s, (pu_n (by decide) (pu_n (by decide) i27.2))⟩, ⟨(pu_n (by omega) (pu_n (by omega) q26_S.1)), (pu_n (by omega) (pu_n (by omega) q26_S.2.1)), (pu_n (by omega) (pu_n (by omega) q26_S.2.2.1)), (pu_n (by omega) (pu_n (by omega) q26_S.2.2.2.1)), (by have := q26_S.2.2.2.2; omega)⟩, (fun k hk => by rw [pu_x (show k ≠ 5 from fun e => by have := hk; simp at this; omega)]; rw [pu_x (show k ≠ 5 from fun e => by have := hk; simp at this; omega)]; rw [q26_f k (by have := hk; simp at this ⊢; omega)]; rw [q19_f k (by have := hk; simp at this ⊢; omega)])⟩
        · have c21 : ¬ (0 ≤ y17.1) := c21
          rw [if_neg c21] at H
          refine Ev.go 1 (s' := (h18, 52, [(0, .ref 5), (1, .int letter), (2, .ref t), (3, .int (letter - 97)), (4, .int y17.1)], [.int 0])) rfl ?_
          cases H
          exact Ev.ret rfl rfl (p_retZ rfl) ⟨rfl, i20, q19_S, (fun k hk => by rw [q19_f k (by have := hk; simp at this ⊢; omega)])⟩
      · have c15 : ¬ (¬ (fX9_isTag (letter - 97)) = 0) := c15
        rw [if_neg c15] at H
        refine Ev.go 1 (s' := (h, 30, [(0, .ref 5), (1, .int letter), (2, .ref t), (3, .int (letter - 97))], [.int 0])) rfl ?_
        cases H
        exact Ev.ret rfl rfl (p_retZ rfl) ⟨rfl, xU, xS, (fun k _ => rfl)⟩
  · have c1 : ¬ (¬ letter = 42) := c1
    rw [if_neg c1] at H
    refine Ev.go 5 (s' := (h, 19, [(0, .ref 5), (1, .int letter), (2, .ref t), (3, .int 6)], [.int 42, .int letter])) rfl ?_
    refine Ev.if2 rfl (fun c28 => ?_) (fun c28 => ?_)
    · have c28 : letter = 42 := c28
      rw [if_pos c28] at H
      refine Ev.go 3 (s' := (h, 34, [(0, .ref 5), (1, .int letter), (2, .ref t), (3, .int 6)], [.ref 5, .int 6, .ref t])) rfl ?_
      refine Ev.get rfl (by decide) xU.1 rfl ?_
      refine Ev.go 1 (s' := (h, 38, [(0, .ref 5), (1, .int letter), (2, .ref t), (3, .int 6)], [.ref 5, .int U.2.2.2.1, .int 6, .ref t])) rfl ?_
      refine Ev.get rfl (by decide) xU.1 rfl ?_
      obtain ⟨y30, e29, H⟩ := Option.bind_eq_some_iff.mp H
      refine Ev.call rfl rfl rfl (p_argsV (by have := xS.2.2.2.2; omega) xS.1 (Nat.le_of_ble_eq_true rfl)) rfl (Nat.le_of_ble_eq_true rfl) ((spX5_add xS 6 U.2.2.2.1 U.2.2.2.2 e29).mono (fun r h31 q32 => ?_))
      obtain ⟨rfl, q32_S, q32_f⟩ := q32
      have i33 : isU h31 U := isU.fr q32_f (fr1 (by omega)) xU
      refine Ev.go 2 (s' := (h31, 48, [(0, .ref 5), (1, .int letter), (2, .ref t), (3, .int 6), (4, .int y30.1)], [.int y30.1])) rfl ?_
      refine Ev.if1 rfl (fun c34 => ?_) (fun c34 => ?_)
      · have c34 : 0 ≤ y30.1 := c34
        rw [if_pos c34] at H
        refine Ev.go 1 (s' := (h31, 54, [(0, .ref 5), (1, .int letter), (2, .ref t), (3, .int 6), (4, .int y30.1)], [.ref 5])) rfl ?_
        refine Ev.get rfl (by decide) i33.1 rfl ?_
        refine Ev.if1 rfl (fun c35 => ?_) (fun c35 => ?_)
        · have c35 : ¬ U.2.1 = 0 := c35
          rw [if_pos c35] at H
          refine Ev.go 2 (s' := (h31, 69, [(0, .ref 5), (1, .int letter), (2, .ref t), (3, .int 6), (4, .int y30.1)], [.int y30.1, .ref 5])) rfl ?_
          refine Ev.put rfl rfl (by decide) i33.1 (Nat.le_of_ble_eq_true rfl) rfl rfl (fs' := [.ref 6, .int U.2.1, .int U.2.2.1, .int y30.1, .int U.2.2.2.2]) rfl ?_
          refine Ev.go 2 (s' := ((pu h31 5 (eO 5 [.ref 6, .int U.2.1, .int U.2.2.1, .int y30.1, .int U.2.2.2.2])), 74, [(0, .ref 5), (1, .int letter), (2, .ref t), (3, .int 6), (4, .int y30.1)], [.int 2, .ref 5])) rfl ?_
          refine Ev.put rfl rfl (by decide) pu_s (Nat.le_of_ble_eq_true rfl) rfl rfl (fs' := [.ref 6, .int U.2.1, .int 2, .int y30.1, .int U.2.2.2.2]) rfl ?_
          refine Ev.go 1 (s' := ((pu (pu h31 5 (eO 5 [.ref 6, .int U.2.1, .int U.2.2.1, .int y30.1, .int U.2.2.2.2])) 5 (eO 5 [.ref 6, .int U.2.1, .int 2, .int y30.1, .int U.2.2.2.2])), 78, [(0, .ref 5), (1, .int letter), (2, .ref t), (3, .int 6), (4, .int y30.1)], [.int 1])) rfl ?_
          cases H
          exact Ev.ret rfl rfl (p_retZ rfl) ⟨rfl, ⟨pu_s, (pu_n (by decide) (pu_n (by decide) i33.2))⟩, ⟨(pu_n (by omega) (pu_n (by omega) q32_S.1)), (pu_n (by omega) (pu_n (by omega) q32_S.2.1)), (pu_n (by omega) (pu_n (by omega) q32_S.2.2.1)), (pu_n (by omega) (pu_n (by omega) q32_S.2.2.2.1)), (by have := q32_S.2.2.2.2; omega)⟩, (fun k hk => by rw [pu_x (show k ≠ 5 from fun e => by have := hk; simp at this; omega)]; rw [pu_x (show k ≠ 5 from fun e => by have := hk; simp at this; omega)]; rw [q32_f k (by have := hk; simp at this ⊢; omega)])⟩
        · have c35 : ¬ (¬ U.2.1 = 0) := c35
          rw [if_neg c35] at H
          refine Ev.go 2 (s' := (h31, 63, [(0, .ref 5), (1, .int letter), (2, .ref t), (3, .int 6), (4, .int y30.1)], [.int y30.1, .ref t])) rfl ?_
          obtain ⟨y37, e36, H⟩ := Option.bind_eq_some_iff.mp H
          refine Ev.call rfl rfl rfl (p_argsV (by have := q32_S.2.2.2.2; omega) q32_S.1 (Nat.le_of_ble_eq_true rfl)) rfl (Nat.le_of_ble_eq_true rfl) ((spX5_setLastOutermost q32_S y30.1 e36).mono (fun r h38 q39 => ?_))
          obtain ⟨rfl, q39_S, q39_f⟩ := q39
          have i40 : isU h38 U := isU.fr q39_f (fr1 (by omega)) i33
          refine Ev.go 2 (s' := (h38, 69, [(0, .ref 5), (1, .int letter), (2, .ref t), (3, .int 6), (4, .int y30.1)], [.int y30.1, .ref 5])) rfl ?_
          refine Ev.put rfl rfl (by decide) i40.1 (Nat.le_of_ble_eq_true rfl) rfl rfl (fs' := [.ref 6, .int U.2.1, .int U.2.2.1, .int y30.1, .int U.2.2.2.2]) rfl ?_
          refine Ev.go 2 (s' := ((pu h38 5 (eO 5 [.ref 6, .int U.2.1, .int U.2.2.1, .int y30.1, .int U.2.2.2.2])), 74, [(0, .ref 5), (1, .int letter), (2, .ref t), (3, .int 6), (4, .int y30.1)], [.int 2, .ref 5])) rfl ?_
          refine Ev.put rfl rfl (by decide) pu_s (Nat.le_of_ble_eq_true rfl) rfl rfl (fs' := [.ref 6, .int U.2.1, .int 2, .int y30.1, .int U.2.2.2.2]) rfl ?_
          refine Ev.go 1 (s' := ((pu (pu h38 5 (eO 5 [.ref 6, .int U.2.1, .int U.2.2.1, .int y30.1, .int U.2.2.2.2])) 5 (eO 5 [.ref 6, .int U.2.1, .int 2, .int y30.1, .int U.2.2.2.2])), 78, [(0, .ref 5), (1, .int letter), (2, .ref t), (3, .int 6), (4, .int y30.1)], [.int 1])) rfl ?_
          cases H
          exact Ev.ret rfl rfl (p_retZ rfl) ⟨rfl, ⟨pu_s, (pu_n (by decide) (pu_n (by decide) i40.2))⟩, ⟨(pu_n (by omega) (pu_n (by omega) q39_S.1)), (pu_n (by omega) (pu_n (by omega) q39_S.2.1)), (pu_n (by omega) (pu_n (by omega) q39_S.2.2.1)), (pu_n (by omega) (pu_n (by omega) q39_S.2.2.2.1)), (by have := q39_S.2.2.2.2; omega)⟩, (fun k hk => by rw [pu_x (show k ≠ 5 from fun e => by have := hk; simp at this; omega)]; rw [pu_x (show k ≠ 5 from fun e => by have := hk; simp at this; omega)]; rw [q39_f k (by have := hk; simp at this ⊢; omega)]; rw [q32_f k (by have := hk; simp at this ⊢; omega)])⟩
      · have c34 : ¬ (0 ≤ y30.1) := c34
        rw [if_neg c34] at H
        refine Ev.go 1 (s' := (h31, 52, [(0, .ref 5), (1, .int letter), (2, .ref t), (3, .int 6), (4, .int y30.1)], [.int 0])) rfl ?_
        cases H
        exact Ev.ret rfl rfl (p_retZ rfl) ⟨rfl, i33, q32_S, (fun k hk => by rw [q32_f k (by have := hk; simp at this ⊢; omega)])⟩
    · have c28 : ¬ (letter = 42) := c28
      rw [if_neg c28] at H
      refine Ev.go 1 (s' := (h, 23, [(0, .ref 5), (1, .int letter), (2, .ref t), (3, .int 6)], [.int 6])) rfl ?_
      refine Ev.callE rfl rfl rfl rfl rfl (Nat.le_of_ble_eq_true rfl) (spX9_isTag  6) ?_
      refine Ev.if1 rfl (fun c41 => ?_) (fun c41 => ?_)
      · have c41 : ¬ (fX9_isTag 6) = 0 := c41
        rw [if_pos c41] at H
        refine Ev.go 3 (s' := (h, 34, [(0, .ref 5), (1, .int letter), (2, .ref t), (3, .int 6)], [.ref 5, .int 6, .ref t])) rfl ?_
        refine Ev.get rfl (by decide) xU.1 rfl ?_
        refine Ev.go 1 (s' := (h, 38, [(0, .ref 5), (1, .int letter), (2, .ref t), (3, .int 6)], [.ref 5, .int U.2.2.2.1, .int 6, .ref t])) rfl ?_
        refine Ev.get rfl (by decide) xU.1 rfl ?_
        obtain ⟨y43, e42, H⟩ := Option.bind_eq_some_iff.mp H
        refine Ev.call rfl rfl rfl (p_argsV (by have := xS.2.2.2.2; omega) xS.1 (Nat.le_of_ble_eq_true rfl)) rfl (Nat.le_of_ble_eq_true rfl) ((spX5_add xS 6 U.2.2.2.1 U.2.2.2.2 e42).mono (fun r h44 q45 => ?_))
        obtain ⟨rfl, q45_S, q45_f⟩ := q45
        have i46 : isU h44 U := isU.fr q45_f (fr1 (by omega)) xU
        refine Ev.go 2 (s' := (h44, 48, [(0, .ref 5), (1, .int letter), (2, .ref t), (3, .int 6), (4, .int y43.1)], [.int y43.1])) rfl ?_
        refine Ev.if1 rfl (fun c47 => ?_) (fun c47 => ?_)
        · have c47 : 0 ≤ y43.1 := c47
          rw [if_pos c47] at H
          refine Ev.go 1 (s' := (h44, 54, [(0, .ref 5), (1, .int letter), (2, .ref t), (3, .int 6), (4, .int y43.1)], [.ref 5])) rfl ?_
          refine Ev.get rfl (by decide) i46.1 rfl ?_
          refine Ev.if1 rfl (fun c48 => ?_) (fun c48 => ?_)
          · have c48 : ¬ U.2.1 = 0 := c48
            rw [if_pos c48] at H
            refine Ev.go 2 (s' := (h44, 69, [(0, .ref 5), (1, .int letter), (2, .ref t), (3, .int 6), (4, .int y43.1)], [.int y43.1, .ref 5])) rfl ?_
            refine Ev.put rfl rfl (by decide) i46.1 (Nat.le_of_ble_eq_true rfl) rfl rfl (fs' := [.ref 6, .int U.2.1, .int U.2.2.1, .int y43.1, .int U.2.2.2.2]) rfl ?_
            refine Ev.go 2 (s' := ((pu h44 5 (eO 5 [.ref 6, .int U.2.1, .int U.2.2.1, .int y43.1, .int U.2.2.2.2])), 74, [(0, .ref 5), (1, .int letter), (2, .ref t), (3, .int 6), (4, .int y43.1)], [.int 2, .ref 5])) rfl ?_
            refine Ev.put rfl rfl (by decide) pu_s (Nat.le_of_ble_eq_true rfl) rfl rfl (fs' := [.ref 6, .int U.2.1, .int 2, .int y43.1, .int U.2.2.2.2]) rfl ?_
            refine Ev.go 1 (s' := ((pu (pu h44 5 (eO 5 [.ref 6, .int U.2.1, .int U.2.2.1, .int y43.1, .int U.2.2.2.2])) 5 (eO 5 [.ref 6, .int U.2.1, .int 2, .int y43.1, .int U.2.2.2.2])), 78, [(0, .ref 5), (1, .int letter), (2, .ref t), (3, .int 6), (4, .int y43.1)], [.int 1])) rfl ?_
            cases H
            exact Ev.ret rfl rfl (p_retZ rfl) ⟨rfl, ⟨pu_s, (pu_n (by decide) (pu_n (by decide) i46.2))⟩, ⟨(pu_n (by omega) (pu_n (by omega) q45_S.1)), (pu_n (by omega) (pu_n (by omega) q45_S.2.1)), (pu_n (by omega) (pu_n (by omega) q45_S.2.2.1)), (pu_n (by omega) (pu_n (by omega) q45_S.2.2.2.1)), (by have := q45_S.2.2.2.2; omega)⟩, (fun k hk => by rw [pu_x (show k ≠ 5 from fun e => by have := hk; simp at this; omega)]; rw [pu_x (show k ≠ 5 from fun e => by have := hk; simp at this; omega)]; rw [q45_f k (by have := hk; simp at this ⊢; omega)])⟩
          · have c48 : ¬ (¬ U.2.1 = 0) := c48
            rw [if_neg c48] at H
            refine Ev.go 2 (s' := (h44, 63, [(0, .ref 5), (1, .int letter), (2, .ref t), (3, .int 6), (4, .int y43.1)], [.int y43.1, .ref t])) rfl ?_
            obtain ⟨y50, e49, H⟩ := Option.bind_eq_some_iff.mp H
            refine Ev.call rfl rfl rfl (p_argsV (by have := q45_S.2.2.2.2; omega) q45_S.1 (Nat.le_of_ble_eq_true rfl)) rfl (Nat.le_of_ble_eq_true rfl) ((spX5_setLastOutermost q45_S y43.1 e49).mono (fun r h51 q52 => ?_))
            obtain ⟨rfl, q52_S, q52_f⟩ := q52
            have i53 : isU h51 U := isU.fr q52_f (fr1 (by omega)) i46
            refine Ev.go 2 (s' := (h51, 69, [(0, .ref 5), (1, .int letter), (2, .ref t), (3, .int 6), (4, .int y43.1)], [.int y43.1, .ref 5])) rfl ?_
            refine Ev.put rfl rfl (by decide) i53.1 (Nat.le_of_ble_eq_true rfl) rfl rfl (fs' := [.ref 6, .int U.2.1, .int U.2.2.1, .int y43.1, .int U.2.2.2.2]) rfl ?_
            refine Ev.go 2 (s' := ((pu h51 5 (eO 5 [.ref 6, .int U.2.1, .int U.2.2.1, .int y43.1, .int U.2.2.2.2])), 74, [(0, .ref 5), (1, .int letter), (2, .ref t), (3, .int 6), (4, .int y43.1)], [.int 2, .ref 5])) rfl ?_
            refine Ev.put rfl rfl (by decide) pu_s (Nat.le_of_ble_eq_true rfl) rfl rfl (fs' := [.ref 6, .int U.2.1, .int 2, .int y43.1, .int U.2.2.2.2]) rfl ?_
            refine Ev.go 1 (s' := ((pu (pu h51 5 (eO 5 [.ref 6, .int U.2.1, .int U.2.2.1, .int y43.1, .int U.2.2.2.2])) 5 (eO 5 [.ref 6, .int U.2.1, .int 2, .int y43.1, .int U.2.2.2.2])), 78, [(0, .ref 5), (1, .int letter), (2, .ref t), (3, .int 6), (4, .int y43.1)], [.int 1])) rfl ?_
            cases H
            exact Ev.ret rfl rfl (p_retZ rfl) ⟨rfl, ⟨pu_s, (pu_n (by decide) (pu_n (by decide) i53.2))⟩, ⟨(pu_n (by omega) (pu_n (by omega) q52_S.1)), (pu_n (by omega) (pu_n (by omega) q52_S.2.1)), (pu_n (by omega) (pu_n (by omega) q52_S.2.2.1)), (pu_n (by omega) (pu_n (by omega) q52_S.2.2.2.1)), (by have := q52_S.2.2.2.2; omega)⟩, (fun k hk => by rw [pu_x (show k ≠ 5 from fun e => by have := hk; simp at this; omega)]; rw [pu_x (show k ≠ 5 from fun e => by have := hk; simp at this; omega)]; rw [q52_f k (by have := hk; simp at this ⊢; omega)]; rw [q45_f k (by have := hk; simp at this ⊢; omega)])⟩
        · have c47 : ¬ (0 ≤ y43.1) := c47
          rw [if_neg c47] at H
          refine Ev.go 1 (s' := (h44, 52, [(0, .ref 5), (1, .int letter), (2, .ref t), (3, .int 6), (4, .int y43.1)], [.int 0])) rfl ?_
          cases H
          exact Ev.ret rfl rfl (p_retZ rfl) ⟨rfl, i46, q45_S, (fun k hk => by rw [q45_f k (by have := hk; simp at this ⊢; omega)])⟩
      · have c41 : ¬ (¬ (fX9_isTag 6) = 0) := c41
        rw [if_neg c41] at H
        refine Ev.go 1 (s' := (h, 30, [(0, .ref 5), (1, .int letter), (2, .ref t), (3, .int 6)], [.int 0])) rfl ?_
        cases H
        exact Ev.ret rfl rfl (p_retZ rfl) ⟨rfl, xU, xS, (fun k _ => rfl)⟩
def fX6_takes (U : tU) (letter : Int32) (S : tS) : Option (Int32 × tU × tS) := (if ¬ U.2.2.1 = 0 then (if ¬ U.2.2.1 = 2 then (if ¬ U.2.2.1 = 2 then ((fX6_takesAxis U letter).bind fun y5 => (if y5.1 &&& 1 = y5.1 then some (y5.1, y5.2, S) else none)) else (if ¬ letter = 93 then ((fX6_takesAxis U letter).bind fun y12 => (if y12.1 &&& 1 = y12.1 then some (y12.1, y12.2, S) else none)) else ((fX6_closes U).bind fun y18 => (if y18.1 &&& 1 = y18.1 then some (y18.1, y18.2, S) else none)))) else (if ¬ letter = 91 then (if ¬ U.2.2.1 = 2 then ((fX6_takesAxis U letter).bind fun y26 => (if y26.1 &&& 1 = y26.1 then some (y26.1, y26.2, S) else none)) else (if ¬ letter = 93 then ((fX6_takesAxis U letter).bind fun y33 => (if y33.1 &&& 1 = y33.1 then some (y33.1, y33.2, S) else none)) else ((fX6_closes U).bind fun y39 => (if y39.1 &&& 1 = y39.1 then some (y39.1, y39.2, S) else none)))) else ((fX6_opens U).bind fun y45 => (if y45.1 &&& 1 = y45.1 then some (y45.1, y45.2, S) else none)))) else ((fX6_takesTag U letter S).bind fun y51 => (if y51.1 &&& 1 = y51.1 then some (y51.1, y51.2.1, y51.2.2) else none)))
theorem spX6_takes {d : Nat} {h : pH} {t : Nat} {U : tU} {S : tS} (xU : isU h U) (xS : isS h t S) (ht : 7 ≤ t) (letter : Int32) {res : Int32 × tU × tS} (H : fX6_takes U letter S = some res) : Ev (d + 2) mX6_takes (h, 0, [(0, .ref 5), (1, .int letter), (2, .ref t)], []) (fun r h1 => r = some (.int res.1) ∧ isU h1 res.2.1 ∧ isS h1 t res.2.2 ∧ fr [(5, 7), (t, t + 4)] h h1) := by
  unfold fX6_takes at H
  refine Ev.go 1 (s' := (h, 1, [(0, .ref 5), (1, .int letter), (2, .ref t)], [.ref 5])) rfl ?_
  refine Ev.get rfl (by decide) xU.1 rfl ?_
  refine Ev.if1 rfl (fun c1 => ?_) (fun c1 => ?_)
  · have c1 : ¬ U.2.2.1 = 0 := c1
    rw [if_pos c1] at H
    refine Ev.go 1 (s' := (h, 15, [(0, .ref 5), (1, .int letter), (2, .ref t)], [.ref 5])) rfl ?_
    refine Ev.get rfl (by decide) xU.1 rfl ?_
    refine Ev.go 1 (s' := (h, 19, [(0, .ref 5), (1, .int letter), (2, .ref t)], [.int 2, .int U.2.2.1])) rfl ?_
    refine Ev.if2 rfl (fun c2 => ?_) (fun c2 => ?_)
    · have c2 : ¬ U.2.2.1 = 2 := c2
      rw [if_pos c2] at H
      refine Ev.go 1 (s' := (h, 34, [(0, .ref 5), (1, .int letter), (2, .ref t)], [.ref 5])) rfl ?_
      refine Ev.get rfl (by decide) xU.1 rfl ?_
      refine Ev.go 1 (s' := (h, 38, [(0, .ref 5), (1, .int letter), (2, .ref t)], [.int 2, .int U.2.2.1])) rfl ?_
      refine Ev.if2 rfl (fun c3 => ?_) (fun c3 => ?_)
      · have c3 : ¬ U.2.2.1 = 2 := c3
        rw [if_pos c3] at H
        refine Ev.go 2 (s' := (h, 54, [(0, .ref 5), (1, .int letter), (2, .ref t)], [.int letter, .ref 5])) rfl ?_
        obtain ⟨y5, e4, H⟩ := Option.bind_eq_some_iff.mp H
        refine Ev.call rfl rfl rfl (p_argsV (by decide) xU.1 (Nat.le_of_ble_eq_true rfl)) rfl (Nat.le_of_ble_eq_true rfl) ((spX6_takesAxis xU letter e4).mono (fun r h6 q7 => ?_))
        obtain ⟨rfl, q7_U, q7_f⟩ := q7
        have i8 : isS h6 t S := isS.fr q7_f (fr1 (by omega)) xS
        have v9 : y5.1 &&& 1 = y5.1 := Classical.byContradiction fun q => by rw [if_neg q] at H; cases H
        rw [if_pos v9] at H
        cases H
        exact Ev.ret rfl rfl (p_retZ (t := .boolean) (congrArg Value.int v9)) ⟨rfl, q7_U, i8, (fun k hk => by rw [q7_f k (by have := hk; simp at this ⊢; omega)])⟩
      · have c3 : ¬ (¬ U.2.2.1 = 2) := c3
        rw [if_neg c3] at H
        refine Ev.go 2 (s' := (h, 44, [(0, .ref 5), (1, .int letter), (2, .ref t)], [.int 93, .int letter])) rfl ?_
        refine Ev.if2 rfl (fun c10 => ?_) (fun c10 => ?_)
        · have c10 : ¬ letter = 93 := c10
          rw [if_pos c10] at H
          refine Ev.go 2 (s' := (h, 54, [(0, .ref 5), (1, .int letter), (2, .ref t)], [.int letter, .ref 5])) rfl ?_
          obtain ⟨y12, e11, H⟩ := Option.bind_eq_some_iff.mp H
          refine Ev.call rfl rfl rfl (p_argsV (by decide) xU.1 (Nat.le_of_ble_eq_true rfl)) rfl (Nat.le_of_ble_eq_true rfl) ((spX6_takesAxis xU letter e11).mono (fun r h13 q14 => ?_))
          obtain ⟨rfl, q14_U, q14_f⟩ := q14
          have i15 : isS h13 t S := isS.fr q14_f (fr1 (by omega)) xS
          have v16 : y12.1 &&& 1 = y12.1 := Classical.byContradiction fun q => by rw [if_neg q] at H; cases H
          rw [if_pos v16] at H
          cases H
          exact Ev.ret rfl rfl (p_retZ (t := .boolean) (congrArg Value.int v16)) ⟨rfl, q14_U, i15, (fun k hk => by rw [q14_f k (by have := hk; simp at this ⊢; omega)])⟩
        · have c10 : ¬ (¬ letter = 93) := c10
          rw [if_neg c10] at H
          refine Ev.go 1 (s' := (h, 48, [(0, .ref 5), (1, .int letter), (2, .ref t)], [.ref 5])) rfl ?_
          obtain ⟨y18, e17, H⟩ := Option.bind_eq_some_iff.mp H
          refine Ev.call rfl rfl rfl (p_argsV (by decide) xU.1 (Nat.le_of_ble_eq_true rfl)) rfl (Nat.le_of_ble_eq_true rfl) ((spX6_closes xU  e17).mono (fun r h19 q20 => ?_))
          obtain ⟨rfl, q20_U, q20_f⟩ := q20
          have i21 : isS h19 t S := isS.fr q20_f (fr1 (by omega)) xS
          have v22 : y18.1 &&& 1 = y18.1 := Classical.byContradiction fun q => by rw [if_neg q] at H; cases H
          rw [if_pos v22] at H
          cases H
          exact Ev.ret rfl rfl (p_retZ (t := .boolean) (congrArg Value.int v22)) ⟨rfl, q20_U, i21, (fun k hk => by rw [q20_f k (by have := hk; simp at this ⊢; omega)])⟩
    · have c2 : ¬ (¬ U.2.2.1 = 2) := c2
      rw [if_neg c2] at H
      refine Ev.go 2 (s' := (h, 25, [(0, .ref 5), (1, .int letter), (2, .ref t)], [.int 91, .int letter])) rfl ?_
      refine Ev.if2 rfl (fun c23 => ?_) (fun c23 => ?_)
      · have c23 : ¬ letter = 91 := c23
        rw [if_pos c23] at H
        refine Ev.go 1 (s' := (h, 34, [(0, .ref 5), (1, .int letter), (2, .ref t)], [.ref 5])) rfl ?_
        refine Ev.get rfl (by decide) xU.1 rfl ?_
        refine Ev.go 1 (s' := (h, 38, [(0, .ref 5), (1, .int letter), (2, .ref t)], [.int 2, .int U.2.2.1])) rfl ?_
        refine Ev.if2 rfl (fun c24 => ?_) (fun c24 => ?_)
        · have c24 : ¬ U.2.2.1 = 2 := c24
          rw [if_pos c24] at H
          refine Ev.go 2 (s' := (h, 54, [(0, .ref 5), (1, .int letter), (2, .ref t)], [.int letter, .ref 5])) rfl ?_
          obtain ⟨y26, e25, H⟩ := Option.bind_eq_some_iff.mp H
          refine Ev.call rfl rfl rfl (p_argsV (by decide) xU.1 (Nat.le_of_ble_eq_true rfl)) rfl (Nat.le_of_ble_eq_true rfl) ((spX6_takesAxis xU letter e25).mono (fun r h27 q28 => ?_))
          obtain ⟨rfl, q28_U, q28_f⟩ := q28
          have i29 : isS h27 t S := isS.fr q28_f (fr1 (by omega)) xS
          have v30 : y26.1 &&& 1 = y26.1 := Classical.byContradiction fun q => by rw [if_neg q] at H; cases H
          rw [if_pos v30] at H
          cases H
          exact Ev.ret rfl rfl (p_retZ (t := .boolean) (congrArg Value.int v30)) ⟨rfl, q28_U, i29, (fun k hk => by rw [q28_f k (by have := hk; simp at this ⊢; omega)])⟩
        · have c24 : ¬ (¬ U.2.2.1 = 2) := c24
          rw [if_neg c24] at H
          refine Ev.go 2 (s' := (h, 44, [(0, .ref 5), (1, .int letter), (2, .ref t)], [.int 93, .int letter])) rfl ?_
          refine Ev.if2 rfl (fun c31 => ?_) (fun c31 => ?_)
          · have c31 : ¬ letter = 93 := c31
            rw [if_pos c31] at H
            refine Ev.go 2 (s' := (h, 54, [(0, .ref 5), (1, .int letter), (2, .ref t)], [.int letter, .ref 5])) rfl ?_
            obtain ⟨y33, e32, H⟩ := Option.bind_eq_some_iff.mp H
            refine Ev.call rfl rfl rfl (p_argsV (by decide) xU.1 (Nat.le_of_ble_eq_true rfl)) rfl (Nat.le_of_ble_eq_true rfl) ((spX6_takesAxis xU letter e32).mono (fun r h34 q35 => ?_))
            obtain ⟨rfl, q35_U, q35_f⟩ := q35
            have i36 : isS h34 t S := isS.fr q35_f (fr1 (by omega)) xS
            have v37 : y33.1 &&& 1 = y33.1 := Classical.byContradiction fun q => by rw [if_neg q] at H; cases H
            rw [if_pos v37] at H
            cases H
            exact Ev.ret rfl rfl (p_retZ (t := .boolean) (congrArg Value.int v37)) ⟨rfl, q35_U, i36, (fun k hk => by rw [q35_f k (by have := hk; simp at this ⊢; omega)])⟩
          · have c31 : ¬ (¬ letter = 93) := c31
            rw [if_neg c31] at H
            refine Ev.go 1 (s' := (h, 48, [(0, .ref 5), (1, .int letter), (2, .ref t)], [.ref 5])) rfl ?_
            obtain ⟨y39, e38, H⟩ := Option.bind_eq_some_iff.mp H
            refine Ev.call rfl rfl rfl (p_argsV (by decide) xU.1 (Nat.le_of_ble_eq_true rfl)) rfl (Nat.le_of_ble_eq_true rfl) ((spX6_closes xU  e38).mono (fun r h40 q41 => ?_))
            obtain ⟨rfl, q41_U, q41_f⟩ := q41
            have i42 : isS h40 t S := isS.fr q41_f (fr1 (by omega)) xS
            have v43 : y39.1 &&& 1 = y39.1 := Classical.byContradiction fun q => by rw [if_neg q] at H; cases H
            rw [if_pos v43] at H
            cases H
            exact Ev.ret rfl rfl (p_retZ (t := .boolean) (congrArg Value.int v43)) ⟨rfl, q41_U, i42, (fun k hk => by rw [q41_f k (by have := hk; simp at this ⊢; omega)])⟩
      · have c23 : ¬ (¬ letter = 91) := c23
        rw [if_neg c23] at H
        refine Ev.go 1 (s' := (h, 29, [(0, .ref 5), (1, .int letter), (2, .ref t)], [.ref 5])) rfl ?_
        obtain ⟨y45, e44, H⟩ := Option.bind_eq_some_iff.mp H
        refine Ev.call rfl rfl rfl (p_argsV (by decide) xU.1 (Nat.le_of_ble_eq_true rfl)) rfl (Nat.le_of_ble_eq_true rfl) ((spX6_opens xU  e44).mono (fun r h46 q47 => ?_))
        obtain ⟨rfl, q47_U, q47_f⟩ := q47
        have i48 : isS h46 t S := isS.fr q47_f (fr1 (by omega)) xS
        have v49 : y45.1 &&& 1 = y45.1 := Classical.byContradiction fun q => by rw [if_neg q] at H; cases H
        rw [if_pos v49] at H
        cases H
        exact Ev.ret rfl rfl (p_retZ (t := .boolean) (congrArg Value.int v49)) ⟨rfl, q47_U, i48, (fun k hk => by rw [q47_f k (by have := hk; simp at this ⊢; omega)])⟩
  · have c1 : ¬ (¬ U.2.2.1 = 0) := c1
    rw [if_neg c1] at H
    refine Ev.go 3 (s' := (h, 10, [(0, .ref 5), (1, .int letter), (2, .ref t)], [.ref t, .int letter, .ref 5])) rfl ?_
    obtain ⟨y51, e50, H⟩ := Option.bind_eq_some_iff.mp H
    refine Ev.call rfl rfl rfl (p_argsV (by decide) xU.1 (Nat.le_of_ble_eq_true rfl)) rfl (Nat.le_of_ble_eq_true rfl) ((spX6_takesTag xU xS (by omega) letter e50).mono (fun r h52 q53 => ?_))
    obtain ⟨rfl, q53_U, q53_S, q53_f⟩ := q53
    have v54 : y51.1 &&& 1 = y51.1 := Classical.byContradiction fun q => by rw [if_neg q] at H; cases H
    rw [if_pos v54] at H
    cases H
    exact Ev.ret rfl rfl (p_retZ (t := .boolean) (congrArg Value.int v54)) ⟨rfl, q53_U, q53_S, (fun k hk => by rw [q53_f k (by have := hk; simp at this ⊢; omega)])⟩
def lX6_read_26 (n : Nat) (L : tL) : Nat → Int32 → tU → tS → Option (Int32 × tU × tS)
  | 0, _, _, _ => none
  | m + 1, x3, U, S => (if (fX1_size L) ≤ x3 then (if ¬ U.2.2.1 = 2 then some (fX1_size L, U, S) else (if ¬ U.2.1 = 0 then some (fX1_size L, U, S) else some ((-1), U, S))) else ((fX1_letterAt L x3).bind fun y11 => ((fX6_takes U y11 S).bind fun y13 => (if ¬ y13.1 = 0 then lX6_read_26 n L m (x3 + 1) y13.2.1 y13.2.2 else some (x3, y13.2.1, y13.2.2)))))
theorem llX6_read_26 {d n : Nat} {t : Nat} {L : tL} (ht : 7 ≤ t) : ∀ (m : Nat) (h : pH) (x3 : Int32) (U : tU) (S : tS) (res : Int32 × tU × tS), lX6_read_26 n L m x3 U S = some res → isL h L → isU h U → isS h t S → Ev (d + 3) mX6_read (h, 26, [(0, .ref 5), (1, .ref 1), (2, .ref t), (3, .int x3)], []) (fun r h1 => r = some (.int res.1) ∧ isU h1 res.2.1 ∧ isS h1 t res.2.2 ∧ fr [(5, 7), (t, t + 4)] h h1)
  | 0, h, x3, U, S, res, H, _, _, _ => by cases H
  | m + 1, h, x3, U, S, res, H, xL, xU, xS => by
    have H : (if (fX1_size L) ≤ x3 then (if ¬ U.2.2.1 = 2 then some (fX1_size L, U, S) else (if ¬ U.2.1 = 0 then some (fX1_size L, U, S) else some ((-1), U, S))) else ((fX1_letterAt L x3).bind fun y11 => ((fX6_takes U y11 S).bind fun y13 => (if ¬ y13.1 = 0 then lX6_read_26 n L m (x3 + 1) y13.2.1 y13.2.2 else some (x3, y13.2.1, y13.2.2))))) = some res := H
    refine Ev.go 2 (s' := (h, 28, [(0, .ref 5), (1, .ref 1), (2, .ref t), (3, .int x3)], [.ref 1, .int x3])) rfl ?_
    refine Ev.callE rfl rfl rfl (p_argsV (by decide) xL.1 (Nat.le_of_ble_eq_true rfl)) rfl (Nat.le_of_ble_eq_true rfl) (spX1_size xL ) ?_
    refine Ev.if2 rfl (fun c7 => ?_) (fun c7 => ?_)
    · have c7 : (fX1_size L) ≤ x3 := c7
      rw [if_pos c7] at H
      refine Ev.go 1 (s' := (h, 56, [(0, .ref 5), (1, .ref 1), (2, .ref t), (3, .int x3)], [.ref 5])) rfl ?_
      refine Ev.get rfl (by decide) xU.1 rfl ?_
      refine Ev.go 1 (s' := (h, 60, [(0, .ref 5), (1, .ref 1), (2, .ref t), (3, .int x3)], [.int 2, .int U.2.2.1])) rfl ?_
      refine Ev.if2 rfl (fun c8 => ?_) (fun c8 => ?_)
      · have c8 : ¬ U.2.2.1 = 2 := c8
        rw [if_pos c8] at H
        refine Ev.go 1 (s' := (h, 75, [(0, .ref 5), (1, .ref 1), (2, .ref t), (3, .int x3)], [.ref 1])) rfl ?_
        refine Ev.callE rfl rfl rfl (p_argsV (by decide) xL.1 (Nat.le_of_ble_eq_true rfl)) rfl (Nat.le_of_ble_eq_true rfl) (spX1_size xL ) ?_
        cases H
        exact Ev.ret rfl rfl (p_retZ rfl) ⟨rfl, xU, xS, (fun k _ => rfl)⟩
      · have c8 : ¬ (¬ U.2.2.1 = 2) := c8
        rw [if_neg c8] at H
        refine Ev.go 1 (s' := (h, 64, [(0, .ref 5), (1, .ref 1), (2, .ref t), (3, .int x3)], [.ref 5])) rfl ?_
        refine Ev.get rfl (by decide) xU.1 rfl ?_
        refine Ev.if1 rfl (fun c9 => ?_) (fun c9 => ?_)
        · have c9 : ¬ U.2.1 = 0 := c9
          rw [if_pos c9] at H
          refine Ev.go 1 (s' := (h, 75, [(0, .ref 5), (1, .ref 1), (2, .ref t), (3, .int x3)], [.ref 1])) rfl ?_
          refine Ev.callE rfl rfl rfl (p_argsV (by decide) xL.1 (Nat.le_of_ble_eq_true rfl)) rfl (Nat.le_of_ble_eq_true rfl) (spX1_size xL ) ?_
          cases H
          exact Ev.ret rfl rfl (p_retZ rfl) ⟨rfl, xU, xS, (fun k _ => rfl)⟩
        · have c9 : ¬ (¬ U.2.1 = 0) := c9
          rw [if_neg c9] at H
          refine Ev.go 2 (s' := (h, 78, [(0, .ref 5), (1, .ref 1), (2, .ref t), (3, .int x3)], [.int ((-1))])) rfl ?_
          cases H
          exact Ev.ret rfl rfl (p_retZ rfl) ⟨rfl, xU, xS, (fun k _ => rfl)⟩
    · have c7 : ¬ ((fX1_size L) ≤ x3) := c7
      rw [if_neg c7] at H
      refine Ev.go 3 (s' := (h, 37, [(0, .ref 5), (1, .ref 1), (2, .ref t), (3, .int x3)], [.int x3, .ref 1, .ref 5])) rfl ?_
      obtain ⟨y11, e10, H⟩ := Option.bind_eq_some_iff.mp H
      refine Ev.callE rfl rfl rfl (p_argsV (by decide) xL.1 (Nat.le_of_ble_eq_true rfl)) rfl (Nat.le_of_ble_eq_true rfl) (spX1_letterAt xL x3 e10) ?_
      refine Ev.go 1 (s' := (h, 41, [(0, .ref 5), (1, .ref 1), (2, .ref t), (3, .int x3)], [.ref t, .int y11, .ref 5])) rfl ?_
      obtain ⟨y13, e12, H⟩ := Option.bind_eq_some_iff.mp H
      refine Ev.call rfl rfl rfl (p_argsV (by decide) xU.1 (Nat.le_of_ble_eq_true rfl)) rfl (Nat.le_of_ble_eq_true rfl) ((spX6_takes xU xS (by omega) y11 e12).mono (fun r h14 q15 => ?_))
      obtain ⟨rfl, q15_U, q15_S, q15_f⟩ := q15
      have i16 : isL h14 L := isL.fr q15_f (fr2 (by omega) (by omega)) xL
      refine Ev.if1 rfl (fun c17 => ?_) (fun c17 => ?_)
      · have c17 : ¬ y13.1 = 0 := c17
        rw [if_pos c17] at H
        refine Ev.go 2 (s' := (h14, 26, [(0, .ref 5), (1, .ref 1), (2, .ref t), (3, .int (x3 + 1))], [])) rfl ?_
        refine Ev.live rfl (lv' := [(0, .ref 5), (1, .ref 1), (2, .ref t), (3, .int (x3 + 1))]) rfl ?_
        refine (llX6_read_26 ht m h14 (x3 + 1) y13.2.1 y13.2.2 _ H i16 q15_U q15_S).mono (fun r h9 q9 => ?_)
        obtain ⟨q9r, q9_0, q9_1, q9f⟩ := q9
        exact ⟨q9r, q9_0, q9_1, fun k hk => (q9f k hk).trans (by rw [q15_f k (by have := hk; simp at this ⊢; omega)])⟩
      · have c17 : ¬ (¬ y13.1 = 0) := c17
        rw [if_neg c17] at H
        refine Ev.go 1 (s' := (h14, 48, [(0, .ref 5), (1, .ref 1), (2, .ref t), (3, .int x3)], [.int x3])) rfl ?_
        cases H
        exact Ev.ret rfl rfl (p_retZ rfl) ⟨rfl, q15_U, q15_S, (fun k hk => by rw [q15_f k (by have := hk; simp at this ⊢; omega)])⟩
def fX6_read (n : Nat) (U : tU) (L : tL) (S : tS) : Option (Int32 × tU × tS) := ((fX5_clear S).bind fun y2 => lX6_read_26 n L n 0 (U.1, 0, 0, (-1), (-1)) y2)
theorem spX6_read {d n : Nat} {h : pH} {t : Nat} {U : tU} {L : tL} {S : tS} (xU : isU h U) (xL : isL h L) (xS : isS h t S) (ht : 7 ≤ t) {res : Int32 × tU × tS} (H : fX6_read n U L S = some res) : Ev (d + 3) mX6_read (h, 0, [(0, .ref 5), (1, .ref 1), (2, .ref t)], []) (fun r h1 => r = some (.int res.1) ∧ isU h1 res.2.1 ∧ isS h1 t res.2.2 ∧ fr [(5, 7), (t, t + 4)] h h1) := by
  unfold fX6_read at H
  refine Ev.go 1 (s' := (h, 1, [(0, .ref 5), (1, .ref 1), (2, .ref t)], [.ref t])) rfl ?_
  obtain ⟨y2, e1, H⟩ := Option.bind_eq_some_iff.mp H
  refine Ev.call rfl rfl rfl (p_argsV (by have := xS.2.2.2.2; omega) xS.1 (Nat.le_of_ble_eq_true rfl)) rfl (Nat.le_of_ble_eq_true rfl) ((spX5_clear xS  e1).mono (fun r h3 q4 => ?_))
  obtain ⟨rfl, q4_S, q4_f⟩ := q4
  have i5 : isU h3 U := isU.fr q4_f (fr1 (by omega)) xU
  have i6 : isL h3 L := isL.fr q4_f (fr1 (by omega)) xL
  refine Ev.go 2 (s' := (h3, 6, [(0, .ref 5), (1, .ref 1), (2, .ref t)], [.int 0, .ref 5])) rfl ?_
  refine Ev.put rfl rfl (by decide) i5.1 (Nat.le_of_ble_eq_true rfl) rfl rfl (fs' := [.ref 6, .int 0, .int U.2.2.1, .int U.2.2.2.1, .int U.2.2.2.2]) rfl ?_
  refine Ev.go 2 (s' := ((pu h3 5 (eO 5 [.ref 6, .int 0, .int U.2.2.1, .int U.2.2.2.1, .int U.2.2.2.2])), 11, [(0, .ref 5), (1, .ref 1), (2, .ref t)], [.int 0, .ref 5])) rfl ?_
  refine Ev.put rfl rfl (by decide) pu_s (Nat.le_of_ble_eq_true rfl) rfl rfl (fs' := [.ref 6, .int 0, .int 0, .int U.2.2.2.1, .int U.2.2.2.2]) rfl ?_
  refine Ev.go 2 (s' := ((pu (pu h3 5 (eO 5 [.ref 6, .int 0, .int U.2.2.1, .int U.2.2.2.1, .int U.2.2.2.2])) 5 (eO 5 [.ref 6, .int 0, .int 0, .int U.2.2.2.1, .int U.2.2.2.2])), 16, [(0, .ref 5), (1, .ref 1), (2, .ref t)], [.int ((-1)), .ref 5])) rfl ?_
  refine Ev.put rfl rfl (by decide) pu_s (Nat.le_of_ble_eq_true rfl) rfl rfl (fs' := [.ref 6, .int 0, .int 0, .int ((-1)), .int U.2.2.2.2]) rfl ?_
  refine Ev.go 2 (s' := ((pu (pu (pu h3 5 (eO 5 [.ref 6, .int 0, .int U.2.2.1, .int U.2.2.2.1, .int U.2.2.2.2])) 5 (eO 5 [.ref 6, .int 0, .int 0, .int U.2.2.2.1, .int U.2.2.2.2])) 5 (eO 5 [.ref 6, .int 0, .int 0, .int ((-1)), .int U.2.2.2.2])), 21, [(0, .ref 5), (1, .ref 1), (2, .ref t)], [.int ((-1)), .ref 5])) rfl ?_
  refine Ev.put rfl rfl (by decide) pu_s (Nat.le_of_ble_eq_true rfl) rfl rfl (fs' := [.ref 6, .int 0, .int 0, .int ((-1)), .int ((-1))]) rfl ?_
  refine Ev.go 2 (s' := ((pu (pu (pu (pu h3 5 (eO 5 [.ref 6, .int 0, .int U.2.2.1, .int U.2.2.2.1, .int U.2.2.2.2])) 5 (eO 5 [.ref 6, .int 0, .int 0, .int U.2.2.2.1, .int U.2.2.2.2])) 5 (eO 5 [.ref 6, .int 0, .int 0, .int ((-1)), .int U.2.2.2.2])) 5 (eO 5 [.ref 6, .int 0, .int 0, .int ((-1)), .int ((-1))])), 26, [(0, .ref 5), (1, .ref 1), (2, .ref t), (3, .int 0)], [])) rfl ?_
  refine Ev.live rfl (lv' := [(0, .ref 5), (1, .ref 1), (2, .ref t), (3, .int 0)]) rfl ?_
  refine (llX6_read_26 ht n (pu (pu (pu (pu h3 5 (eO 5 [.ref 6, .int 0, .int U.2.2.1, .int U.2.2.2.1, .int U.2.2.2.2])) 5 (eO 5 [.ref 6, .int 0, .int 0, .int U.2.2.2.1, .int U.2.2.2.2])) 5 (eO 5 [.ref 6, .int 0, .int 0, .int ((-1)), .int U.2.2.2.2])) 5 (eO 5 [.ref 6, .int 0, .int 0, .int ((-1)), .int ((-1))])) 0 (U.1, 0, 0, (-1), (-1)) y2 _ H ⟨(pu_n (by decide) (pu_n (by decide) (pu_n (by decide) (pu_n (by decide) i6.1)))), (pu_n (by decide) (pu_n (by decide) (pu_n (by decide) (pu_n (by decide) i6.2))))⟩ ⟨pu_s, (pu_n (by decide) (pu_n (by decide) (pu_n (by decide) (pu_n (by decide) i5.2))))⟩ ⟨(pu_n (by omega) (pu_n (by omega) (pu_n (by omega) (pu_n (by omega) q4_S.1)))), (pu_n (by omega) (pu_n (by omega) (pu_n (by omega) (pu_n (by omega) q4_S.2.1)))), (pu_n (by omega) (pu_n (by omega) (pu_n (by omega) (pu_n (by omega) q4_S.2.2.1)))), (pu_n (by omega) (pu_n (by omega) (pu_n (by omega) (pu_n (by omega) q4_S.2.2.2.1)))), (by have := q4_S.2.2.2.2; omega)⟩).mono (fun r h9 q9 => ?_)
  obtain ⟨q9r, q9_0, q9_1, q9f⟩ := q9
  exact ⟨q9r, q9_0, q9_1, fun k hk => (q9f k hk).trans (by rw [pu_x (show k ≠ 5 from fun e => by have := hk; simp at this; omega)]; rw [pu_x (show k ≠ 5 from fun e => by have := hk; simp at this; omega)]; rw [pu_x (show k ≠ 5 from fun e => by have := hk; simp at this; omega)]; rw [pu_x (show k ≠ 5 from fun e => by have := hk; simp at this; omega)]; rw [q4_f k (by have := hk; simp at this ⊢; omega)])⟩
end
section
/-! Arrays.fill, bitCount, the Matcher: their methods as functions -/
theorem gJ7_fill_0 {d : Nat} {Q : Option Value → pH → Prop} {h : pH} {t : Nat} {f : Nat → Int64} {x : Int64} (ht : t < pN) (hh : h t = eJ 24 f) (k : Ev d mJ7_fill_d0a16 (h, 6, [(0, .ref t), (1, .long x), (3, .int 0), (4, .int 24)], []) Q) : Ev d mJ7_fill_d0a16 (h, 0, [(0, .ref t), (1, .long x)], []) Q := by
  refine Ev.go 3 (s' := (h, 3, [(0, .ref t), (1, .long x), (3, .int 0)], [.ref t])) rfl ?_
  refine Ev.alen rfl (ht) (congrArg p_len hh) ?_
  refine Ev.go 1 (s' := (h, 6, [(0, .ref t), (1, .long x), (3, .int 0), (4, .int 24)], [])) rfl ?_
  exact k
theorem gJ7_fill_6 {d : Nat} {Q : Option Value → pH → Prop} {h : pH} {t : Nat} {f : Nat → Int64} {x : Int64} {i : Int32} (ht : t < pN) (hh : h t = eJ 24 f) (k : ((24 ≤ i → Q none h) ∧ (¬ (24 ≤ i) → (vp_in i 24 ∧ Ev d mJ7_fill_d0a16 ((pu h t (eJ 24 (vp_updL f i.toNatClampNeg x))), 6, [(0, .ref t), (1, .long x), (3, .int (i + 1)), (4, .int 24)], []) Q)))) : Ev d mJ7_fill_d0a16 (h, 6, [(0, .ref t), (1, .long x), (3, .int i), (4, .int 24)], []) Q := by
  refine Ev.go 2 (s' := (h, 9, [(0, .ref t), (1, .long x), (3, .int i), (4, .int 24)], [.int 24, .int i])) rfl ?_
  refine Ev.if2 rfl (fun c9 => ?_) (fun c9 => ?_)
  · exact Ev.ret rfl rfl rfl (k.1 c9)
  · refine Ev.go 3 (s' := (h, 15, [(0, .ref t), (1, .long x), (3, .int i), (4, .int 24)], [.long x, .int i, .ref t])) rfl ?_
    refine Ev.last rfl (ht) hh (k.2 c9).1 ?_
    refine Ev.go 2 (s' := ((pu h t (eJ 24 (vp_updL f i.toNatClampNeg x))), 6, [(0, .ref t), (1, .long x), (3, .int (i + 1)), (4, .int 24)], [])) rfl ?_
    exact (k.2 c9).2
theorem p_fill_at (f : Nat → Int64) (x : Int64) : ∀ (k : Nat) (g : Nat → Int64), g = (fun j => if j < k then x else f j) → vp_updL g k x = (fun j => if j < k + 1 then x else f j) := fun k g e => by
  subst e
  funext j
  unfold vp_updL
  by_cases h1 : j = k
  · subst h1
    simp
  · simp only [if_neg h1]
    by_cases h2 : j < k
    · rw [if_pos h2, if_pos (by omega)]
    · rw [if_neg h2, if_neg (by omega)]
theorem pu_pu (h : pH) (k : Nat) (a b : pE) : pu (pu h k a) k b = pu h k b := by
  funext j
  unfold pu
  split <;> rfl
theorem llJ7_fill {d t : Nat} {f : Nat → Int64} {x : Int64} (ht : t < pN) : ∀ (m k : Nat) (h h0 : pH), k ≤ 24 → 24 - k = m → h = pu h0 t (eJ 24 (fun j => if j < k then x else f j)) → Ev d mJ7_fill_d0a16 (h, 6, [(0, .ref t), (1, .long x), (3, .int (nI k)), (4, .int 24)], []) (fun r h1 => r = none ∧ h1 = pu h0 t (eJ 24 (p_fill f x)))
  | 0, k, h, h0, h1, h2, he => by
    have ek : k = 24 := by omega
    subst ek
    refine gJ7_fill_6 ht (h := h) (f := fun j => if j < 24 then x else f j) (by rw [he]; exact pu_s) ⟨fun _ => ⟨rfl, he⟩, fun c => absurd (show (24 : Int32) ≤ nI 24 by decide) c⟩
  | m + 1, k, h, h0, h1, h2, he => by
    refine gJ7_fill_6 ht (h := h) (f := fun j => if j < k then x else f j) (by rw [he]; exact pu_s) ⟨fun c => absurd c (nI_ge (show k < 24 by omega) (by decide)), fun _ => ⟨vp_in_nI (show k < 24 by omega) (by decide), ?_⟩⟩
    rw [nI_1]
    refine llJ7_fill ht m (k + 1) _ h0 (by omega) (by omega) ?_
    rw [he, pu_pu, nI_clamp (show k < 2 ^ 31 by omega), p_fill_at f x k _ rfl]
theorem spJ7_fill {d t : Nat} {h : pH} {f : Nat → Int64} (ht : t < pN) (hh : h t = eJ 24 f) (x : Int64) : Ev d mJ7_fill_d0a16 (h, 0, [(0, .ref t), (1, .long x)], []) (fun r h1 => r = none ∧ h1 = pu h t (eJ 24 (p_fill f x))) := by
  refine gJ7_fill_0 ht hh ?_
  refine llJ7_fill ht 24 0 h h (by decide) (by decide) ?_
  funext j
  unfold pu
  split
  · rename_i e
    rw [e, hh]
    congr 2
  · rfl
def fJ6_bitCount_0f7a4 (i : Int32) : Int32 := (((((((i - (((i.toUInt32 >>> (Int32.toUInt32 1 &&& Int32.toUInt32 31)).toInt32) &&& 1431655765)) &&& 858993459) + ((((i - (((i.toUInt32 >>> (Int32.toUInt32 1 &&& Int32.toUInt32 31)).toInt32) &&& 1431655765)).toUInt32 >>> (Int32.toUInt32 2 &&& Int32.toUInt32 31)).toInt32) &&& 858993459)) + (((((i - (((i.toUInt32 >>> (Int32.toUInt32 1 &&& Int32.toUInt32 31)).toInt32) &&& 1431655765)) &&& 858993459) + ((((i - (((i.toUInt32 >>> (Int32.toUInt32 1 &&& Int32.toUInt32 31)).toInt32) &&& 1431655765)).toUInt32 >>> (Int32.toUInt32 2 &&& Int32.toUInt32 31)).toInt32) &&& 858993459)).toUInt32 >>> (Int32.toUInt32 4 &&& Int32.toUInt32 31)).toInt32)) &&& 252645135) + (((((((i - (((i.toUInt32 >>> (Int32.toUInt32 1 &&& Int32.toUInt32 31)).toInt32) &&& 1431655765)) &&& 858993459) + ((((i - (((i.toUInt32 >>> (Int32.toUInt32 1 &&& Int32.toUInt32 31)).toInt32) &&& 1431655765)).toUInt32 >>> (Int32.toUInt32 2 &&& Int32.toUInt32 31)).toInt32) &&& 858993459)) + (((((i - (((i.toUInt32 >>> (Int32.toUInt32 1 &&& Int32.toUInt32 31)).toInt32) &&& 1431655765)) &&& 858993459) + ((((i - (((i.toUInt32 >>> (Int32.toUInt32 1 &&& Int32.toUInt32 31)).toInt32) &&& 1431655765)).toUInt32 >>> (Int32.toUInt32 2 &&& Int32.toUInt32 31)).toInt32) &&& 858993459)).toUInt32 >>> (Int32.toUInt32 4 &&& Int32.toUInt32 31)).toInt32)) &&& 252645135).toUInt32 >>> (Int32.toUInt32 8 &&& Int32.toUInt32 31)).toInt32)) + ((((((((i - (((i.toUInt32 >>> (Int32.toUInt32 1 &&& Int32.toUInt32 31)).toInt32) &&& 1431655765)) &&& 858993459) + ((((i - (((i.toUInt32 >>> (Int32.toUInt32 1 &&& Int32.toUInt32 31)).toInt32) &&& 1431655765)).toUInt32 >>> (Int32.toUInt32 2 &&& Int32.toUInt32 31)).toInt32) &&& 858993459)) + (((((i - (((i.toUInt32 >>> (Int32.toUInt32 1 &&& Int32.toUInt32 31)).toInt32) &&& 1431655765)) &&& 858993459) + ((((i - (((i.toUInt32 >>> (Int32.toUInt32 1 &&& Int32.toUInt32 31)).toInt32) &&& 1431655765)).toUInt32 >>> (Int32.toUInt32 2 &&& Int32.toUInt32 31)).toInt32) &&& 858993459)).toUInt32 >>> (Int32.toUInt32 4 &&& Int32.toUInt32 31)).toInt32)) &&& 252645135) + (((((((i - (((i.toUInt32 >>> (Int32.toUInt32 1 &&& Int32.toUInt32 31)).toInt32) &&& 1431655765)) &&& 858993459) + ((((i - (((i.toUInt32 >>> (Int32.toUInt32 1 &&& Int32.toUInt32 31)).toInt32) &&& 1431655765)).toUInt32 >>> (Int32.toUInt32 2 &&& Int32.toUInt32 31)).toInt32) &&& 858993459)) + (((((i - (((i.toUInt32 >>> (Int32.toUInt32 1 &&& Int32.toUInt32 31)).toInt32) &&& 1431655765)) &&& 858993459) + ((((i - (((i.toUInt32 >>> (Int32.toUInt32 1 &&& Int32.toUInt32 31)).toInt32) &&& 1431655765)).toUInt32 >>> (Int32.toUInt32 2 &&& Int32.toUInt32 31)).toInt32) &&& 858993459)).toUInt32 >>> (Int32.toUInt32 4 &&& Int32.toUInt32 31)).toInt32)) &&& 252645135).toUInt32 >>> (Int32.toUInt32 8 &&& Int32.toUInt32 31)).toInt32)).toUInt32 >>> (Int32.toUInt32 16 &&& Int32.toUInt32 31)).toInt32)) &&& 63
theorem spJ6_bitCount_0f7a4 {d : Nat} {h : pH}  (i : Int32) : Ev d mJ6_bitCount_0f7a4 (h, 0, [(0, .int i)], []) (fun r h1 => r = some (.int (fJ6_bitCount_0f7a4 i)) ∧ h1 = h) := by
  refine Ev.go 41 (s' := (h, 52, [(0, .int (((((((i - (((i.toUInt32 >>> (Int32.toUInt32 1 &&& Int32.toUInt32 31)).toInt32) &&& 1431655765)) &&& 858993459) + ((((i - (((i.toUInt32 >>> (Int32.toUInt32 1 &&& Int32.toUInt32 31)).toInt32) &&& 1431655765)).toUInt32 >>> (Int32.toUInt32 2 &&& Int32.toUInt32 31)).toInt32) &&& 858993459)) + (((((i - (((i.toUInt32 >>> (Int32.toUInt32 1 &&& Int32.toUInt32 31)).toInt32) &&& 1431655765)) &&& 858993459) + ((((i - (((i.toUInt32 >>> (Int32.toUInt32 1 &&& Int32.toUInt32 31)).toInt32) &&& 1431655765)).toUInt32 >>> (Int32.toUInt32 2 &&& Int32.toUInt32 31)).toInt32) &&& 858993459)).toUInt32 >>> (Int32.toUInt32 4 &&& Int32.toUInt32 31)).toInt32)) &&& 252645135) + (((((((i - (((i.toUInt32 >>> (Int32.toUInt32 1 &&& Int32.toUInt32 31)).toInt32) &&& 1431655765)) &&& 858993459) + ((((i - (((i.toUInt32 >>> (Int32.toUInt32 1 &&& Int32.toUInt32 31)).toInt32) &&& 1431655765)).toUInt32 >>> (Int32.toUInt32 2 &&& Int32.toUInt32 31)).toInt32) &&& 858993459)) + (((((i - (((i.toUInt32 >>> (Int32.toUInt32 1 &&& Int32.toUInt32 31)).toInt32) &&& 1431655765)) &&& 858993459) + ((((i - (((i.toUInt32 >>> (Int32.toUInt32 1 &&& Int32.toUInt32 31)).toInt32) &&& 1431655765)).toUInt32 >>> (Int32.toUInt32 2 &&& Int32.toUInt32 31)).toInt32) &&& 858993459)).toUInt32 >>> (Int32.toUInt32 4 &&& Int32.toUInt32 31)).toInt32)) &&& 252645135).toUInt32 >>> (Int32.toUInt32 8 &&& Int32.toUInt32 31)).toInt32)) + ((((((((i - (((i.toUInt32 >>> (Int32.toUInt32 1 &&& Int32.toUInt32 31)).toInt32) &&& 1431655765)) &&& 858993459) + ((((i - (((i.toUInt32 >>> (Int32.toUInt32 1 &&& Int32.toUInt32 31)).toInt32) &&& 1431655765)).toUInt32 >>> (Int32.toUInt32 2 &&& Int32.toUInt32 31)).toInt32) &&& 858993459)) + (((((i - (((i.toUInt32 >>> (Int32.toUInt32 1 &&& Int32.toUInt32 31)).toInt32) &&& 1431655765)) &&& 858993459) + ((((i - (((i.toUInt32 >>> (Int32.toUInt32 1 &&& Int32.toUInt32 31)).toInt32) &&& 1431655765)).toUInt32 >>> (Int32.toUInt32 2 &&& Int32.toUInt32 31)).toInt32) &&& 858993459)).toUInt32 >>> (Int32.toUInt32 4 &&& Int32.toUInt32 31)).toInt32)) &&& 252645135) + (((((((i - (((i.toUInt32 >>> (Int32.toUInt32 1 &&& Int32.toUInt32 31)).toInt32) &&& 1431655765)) &&& 858993459) + ((((i - (((i.toUInt32 >>> (Int32.toUInt32 1 &&& Int32.toUInt32 31)).toInt32) &&& 1431655765)).toUInt32 >>> (Int32.toUInt32 2 &&& Int32.toUInt32 31)).toInt32) &&& 858993459)) + (((((i - (((i.toUInt32 >>> (Int32.toUInt32 1 &&& Int32.toUInt32 31)).toInt32) &&& 1431655765)) &&& 858993459) + ((((i - (((i.toUInt32 >>> (Int32.toUInt32 1 &&& Int32.toUInt32 31)).toInt32) &&& 1431655765)).toUInt32 >>> (Int32.toUInt32 2 &&& Int32.toUInt32 31)).toInt32) &&& 858993459)).toUInt32 >>> (Int32.toUInt32 4 &&& Int32.toUInt32 31)).toInt32)) &&& 252645135).toUInt32 >>> (Int32.toUInt32 8 &&& Int32.toUInt32 31)).toInt32)).toUInt32 >>> (Int32.toUInt32 16 &&& Int32.toUInt32 31)).toInt32)))], [.int ((((((((i - (((i.toUInt32 >>> (Int32.toUInt32 1 &&& Int32.toUInt32 31)).toInt32) &&& 1431655765)) &&& 858993459) + ((((i - (((i.toUInt32 >>> (Int32.toUInt32 1 &&& Int32.toUInt32 31)).toInt32) &&& 1431655765)).toUInt32 >>> (Int32.toUInt32 2 &&& Int32.toUInt32 31)).toInt32) &&& 858993459)) + (((((i - (((i.toUInt32 >>> (Int32.toUInt32 1 &&& Int32.toUInt32 31)).toInt32) &&& 1431655765)) &&& 858993459) + ((((i - (((i.toUInt32 >>> (Int32.toUInt32 1 &&& Int32.toUInt32 31)).toInt32) &&& 1431655765)).toUInt32 >>> (Int32.toUInt32 2 &&& Int32.toUInt32 31)).toInt32) &&& 858993459)).toUInt32 >>> (Int32.toUInt32 4 &&& Int32.toUInt32 31)).toInt32)) &&& 252645135) + (((((((i - (((i.toUInt32 >>> (Int32.toUInt32 1 &&& Int32.toUInt32 31)).toInt32) &&& 1431655765)) &&& 858993459) + ((((i - (((i.toUInt32 >>> (Int32.toUInt32 1 &&& Int32.toUInt32 31)).toInt32) &&& 1431655765)).toUInt32 >>> (Int32.toUInt32 2 &&& Int32.toUInt32 31)).toInt32) &&& 858993459)) + (((((i - (((i.toUInt32 >>> (Int32.toUInt32 1 &&& Int32.toUInt32 31)).toInt32) &&& 1431655765)) &&& 858993459) + ((((i - (((i.toUInt32 >>> (Int32.toUInt32 1 &&& Int32.toUInt32 31)).toInt32) &&& 1431655765)).toUInt32 >>> (Int32.toUInt32 2 &&& Int32.toUInt32 31)).toInt32) &&& 858993459)).toUInt32 >>> (Int32.toUInt32 4 &&& Int32.toUInt32 31)).toInt32)) &&& 252645135).toUInt32 >>> (Int32.toUInt32 8 &&& Int32.toUInt32 31)).toInt32)) + ((((((((i - (((i.toUInt32 >>> (Int32.toUInt32 1 &&& Int32.toUInt32 31)).toInt32) &&& 1431655765)) &&& 858993459) + ((((i - (((i.toUInt32 >>> (Int32.toUInt32 1 &&& Int32.toUInt32 31)).toInt32) &&& 1431655765)).toUInt32 >>> (Int32.toUInt32 2 &&& Int32.toUInt32 31)).toInt32) &&& 858993459)) + (((((i - (((i.toUInt32 >>> (Int32.toUInt32 1 &&& Int32.toUInt32 31)).toInt32) &&& 1431655765)) &&& 858993459) + ((((i - (((i.toUInt32 >>> (Int32.toUInt32 1 &&& Int32.toUInt32 31)).toInt32) &&& 1431655765)).toUInt32 >>> (Int32.toUInt32 2 &&& Int32.toUInt32 31)).toInt32) &&& 858993459)).toUInt32 >>> (Int32.toUInt32 4 &&& Int32.toUInt32 31)).toInt32)) &&& 252645135) + (((((((i - (((i.toUInt32 >>> (Int32.toUInt32 1 &&& Int32.toUInt32 31)).toInt32) &&& 1431655765)) &&& 858993459) + ((((i - (((i.toUInt32 >>> (Int32.toUInt32 1 &&& Int32.toUInt32 31)).toInt32) &&& 1431655765)).toUInt32 >>> (Int32.toUInt32 2 &&& Int32.toUInt32 31)).toInt32) &&& 858993459)) + (((((i - (((i.toUInt32 >>> (Int32.toUInt32 1 &&& Int32.toUInt32 31)).toInt32) &&& 1431655765)) &&& 858993459) + ((((i - (((i.toUInt32 >>> (Int32.toUInt32 1 &&& Int32.toUInt32 31)).toInt32) &&& 1431655765)).toUInt32 >>> (Int32.toUInt32 2 &&& Int32.toUInt32 31)).toInt32) &&& 858993459)).toUInt32 >>> (Int32.toUInt32 4 &&& Int32.toUInt32 31)).toInt32)) &&& 252645135).toUInt32 >>> (Int32.toUInt32 8 &&& Int32.toUInt32 31)).toInt32)).toUInt32 >>> (Int32.toUInt32 16 &&& Int32.toUInt32 31)).toInt32)) &&& 63)])) rfl ?_
  exact Ev.ret rfl rfl (p_retZ rfl) ⟨congrArg (fun z => some (Value.int z)) (by rw [fJ6_bitCount_0f7a4]), rfl⟩
def fX2_sourceOf (G : tG) (q : Int32) (k : Int32) (O : tO) (S : tS) : Option (Int32) := ((fX5_axisOf S q).bind fun y2 => (if y2 = 0 then ((fX3_parentAt O k).bind fun y5 => some y5) else (if ¬ y2 = 1 then ((fX3_elderAt O k).bind fun y8 => some y8) else ((fX3_parentAt O k).bind fun y10 => some y10))))
theorem spX2_sourceOf {d : Nat} {h : pH} {G : tG} {O : tO} {S : tS} (xG : isG h G) (xO : isO h O) (xS : isS h 36 S) (q : Int32) (k : Int32) {res : Int32} (H : fX2_sourceOf G q k O S = some res) : Ev (d + 2) mX2_sourceOf (h, 0, [(0, .ref 44), (1, .int q), (2, .int k)], []) (fun r h1 => r = some (.int res) ∧ h1 = h) := by
  unfold fX2_sourceOf at H
  refine Ev.go 1 (s' := (h, 1, [(0, .ref 44), (1, .int q), (2, .int k)], [.ref 44])) rfl ?_
  refine Ev.get rfl (by decide) xG.1 rfl ?_
  refine Ev.go 1 (s' := (h, 5, [(0, .ref 44), (1, .int q), (2, .int k)], [.int q, .ref 36])) rfl ?_
  obtain ⟨y2, e1, H⟩ := Option.bind_eq_some_iff.mp H
  refine Ev.callE rfl rfl rfl (p_argsV (by decide) xS.1 (Nat.le_of_ble_eq_true rfl)) rfl (Nat.le_of_ble_eq_true rfl) (spX5_axisOf xS q e1) ?_
  refine Ev.go 2 (s' := (h, 10, [(0, .ref 44), (1, .int q), (2, .int k), (3, .int y2)], [.int y2])) rfl ?_
  refine Ev.if1 rfl (fun c3 => ?_) (fun c3 => ?_)
  · have c3 : y2 = 0 := c3
    rw [if_pos c3] at H
    refine Ev.go 1 (s' := (h, 19, [(0, .ref 44), (1, .int q), (2, .int k), (3, .int y2)], [.ref 44])) rfl ?_
    refine Ev.get rfl (by decide) xG.1 rfl ?_
    refine Ev.go 1 (s' := (h, 23, [(0, .ref 44), (1, .int q), (2, .int k), (3, .int y2)], [.int k, .ref 15])) rfl ?_
    obtain ⟨y5, e4, H⟩ := Option.bind_eq_some_iff.mp H
    refine Ev.callE rfl rfl rfl (p_argsV (by decide) xO.1 (Nat.le_of_ble_eq_true rfl)) rfl (Nat.le_of_ble_eq_true rfl) (spX3_parentAt xO k e4) ?_
    refine Ev.go 1 (s' := (h, 37, [(0, .ref 44), (1, .int q), (2, .int k), (3, .int y2)], [.int y5])) rfl ?_
    cases H
    exact Ev.ret rfl rfl (p_retZ rfl) ⟨rfl, rfl⟩
  · have c3 : ¬ (y2 = 0) := c3
    rw [if_neg c3] at H
    refine Ev.go 2 (s' := (h, 15, [(0, .ref 44), (1, .int q), (2, .int k), (3, .int y2)], [.int 1, .int y2])) rfl ?_
    refine Ev.if2 rfl (fun c6 => ?_) (fun c6 => ?_)
    · have c6 : ¬ y2 = 1 := c6
      rw [if_pos c6] at H
      refine Ev.go 1 (s' := (h, 30, [(0, .ref 44), (1, .int q), (2, .int k), (3, .int y2)], [.ref 44])) rfl ?_
      refine Ev.get rfl (by decide) xG.1 rfl ?_
      refine Ev.go 1 (s' := (h, 34, [(0, .ref 44), (1, .int q), (2, .int k), (3, .int y2)], [.int k, .ref 15])) rfl ?_
      obtain ⟨y8, e7, H⟩ := Option.bind_eq_some_iff.mp H
      refine Ev.callE rfl rfl rfl (p_argsV (by decide) xO.1 (Nat.le_of_ble_eq_true rfl)) rfl (Nat.le_of_ble_eq_true rfl) (spX3_elderAt xO k e7) ?_
      cases H
      exact Ev.ret rfl rfl (p_retZ rfl) ⟨rfl, rfl⟩
    · have c6 : ¬ (¬ y2 = 1) := c6
      rw [if_neg c6] at H
      refine Ev.go 1 (s' := (h, 19, [(0, .ref 44), (1, .int q), (2, .int k), (3, .int y2)], [.ref 44])) rfl ?_
      refine Ev.get rfl (by decide) xG.1 rfl ?_
      refine Ev.go 1 (s' := (h, 23, [(0, .ref 44), (1, .int q), (2, .int k), (3, .int y2)], [.int k, .ref 15])) rfl ?_
      obtain ⟨y10, e9, H⟩ := Option.bind_eq_some_iff.mp H
      refine Ev.callE rfl rfl rfl (p_argsV (by decide) xO.1 (Nat.le_of_ble_eq_true rfl)) rfl (Nat.le_of_ble_eq_true rfl) (spX3_parentAt xO k e9) ?_
      refine Ev.go 1 (s' := (h, 37, [(0, .ref 44), (1, .int q), (2, .int k), (3, .int y2)], [.int y10])) rfl ?_
      cases H
      exact Ev.ret rfl rfl (p_retZ rfl) ⟨rfl, rfl⟩
def fX2_reachesOn (G : tG) (q : Int32) (S : tS) : Option (Int32) := ((fX5_axisOf S q).bind fun y2 => (if y2 = 1 then some 1 else (if ¬ y2 = 3 then some 0 else some 1)))
theorem spX2_reachesOn {d : Nat} {h : pH} {G : tG} {S : tS} (xG : isG h G) (xS : isS h 36 S) (q : Int32) {res : Int32} (H : fX2_reachesOn G q S = some res) : Ev (d + 2) mX2_reachesOn (h, 0, [(0, .ref 44), (1, .int q)], []) (fun r h1 => r = some (.int res) ∧ h1 = h) := by
  unfold fX2_reachesOn at H
  refine Ev.go 1 (s' := (h, 1, [(0, .ref 44), (1, .int q)], [.ref 44])) rfl ?_
  refine Ev.get rfl (by decide) xG.1 rfl ?_
  refine Ev.go 1 (s' := (h, 5, [(0, .ref 44), (1, .int q)], [.int q, .ref 36])) rfl ?_
  obtain ⟨y2, e1, H⟩ := Option.bind_eq_some_iff.mp H
  refine Ev.callE rfl rfl rfl (p_argsV (by decide) xS.1 (Nat.le_of_ble_eq_true rfl)) rfl (Nat.le_of_ble_eq_true rfl) (spX5_axisOf xS q e1) ?_
  refine Ev.go 3 (s' := (h, 11, [(0, .ref 44), (1, .int q), (2, .int y2)], [.int 1, .int y2])) rfl ?_
  refine Ev.if2 rfl (fun c3 => ?_) (fun c3 => ?_)
  · have c3 : y2 = 1 := c3
    rw [if_pos c3] at H
    refine Ev.go 2 (s' := (h, 24, [(0, .ref 44), (1, .int q), (2, .int y2)], [.int 1])) rfl ?_
    cases H
    exact Ev.ret rfl rfl (p_retZ rfl) ⟨rfl, rfl⟩
  · have c3 : ¬ (y2 = 1) := c3
    rw [if_neg c3] at H
    refine Ev.go 2 (s' := (h, 16, [(0, .ref 44), (1, .int q), (2, .int y2)], [.int 3, .int y2])) rfl ?_
    refine Ev.if2 rfl (fun c4 => ?_) (fun c4 => ?_)
    · have c4 : ¬ y2 = 3 := c4
      rw [if_pos c4] at H
      refine Ev.go 1 (s' := (h, 24, [(0, .ref 44), (1, .int q), (2, .int y2)], [.int 0])) rfl ?_
      cases H
      exact Ev.ret rfl rfl (p_retZ rfl) ⟨rfl, rfl⟩
    · have c4 : ¬ (¬ y2 = 3) := c4
      rw [if_neg c4] at H
      refine Ev.go 2 (s' := (h, 24, [(0, .ref 44), (1, .int q), (2, .int y2)], [.int 1])) rfl ?_
      cases H
      exact Ev.ret rfl rfl (p_retZ rfl) ⟨rfl, rfl⟩
def lX2_total_4 (n : Nat) (G : tG) (O : tO) : Nat → Int64 → Int32 → Option (Int64)
  | 0, _, _ => none
  | m + 1, x1, x3 => (if (fX3_size O) ≤ x3 then some x1 else (if x3 < 0 ∨ 24 ≤ x3.toNatClampNeg then none else lX2_total_4 n G O m (x1 + ((G.1 0) x3.toNatClampNeg)) (x3 + 1)))
theorem llX2_total_4 {d n : Nat} {G : tG} {O : tO} : ∀ (m : Nat) (h : pH) (x1 : Int64) (x3 : Int32) (res : Int64), lX2_total_4 n G O m x1 x3 = some res → isG h G → isO h O → Ev (d + 1) mX2_total (h, 4, [(0, .ref 44), (1, .long x1), (3, .int x3)], []) (fun r h1 => r = some (.long res) ∧ h1 = h)
  | 0, h, x1, x3, res, H, _, _ => by cases H
  | m + 1, h, x1, x3, res, H, xG, xO => by
    have H : (if (fX3_size O) ≤ x3 then some x1 else (if x3 < 0 ∨ 24 ≤ x3.toNatClampNeg then none else lX2_total_4 n G O m (x1 + ((G.1 0) x3.toNatClampNeg)) (x3 + 1))) = some res := H
    refine Ev.go 2 (s' := (h, 6, [(0, .ref 44), (1, .long x1), (3, .int x3)], [.ref 44, .int x3])) rfl ?_
    refine Ev.get rfl (by decide) xG.1 rfl ?_
    refine Ev.callE rfl rfl rfl (p_argsV (by decide) xO.1 (Nat.le_of_ble_eq_true rfl)) rfl (Nat.le_of_ble_eq_true rfl) (spX3_size xO ) ?_
    refine Ev.if2 rfl (fun c1 => ?_) (fun c1 => ?_)
    · have c1 : (fX3_size O) ≤ x3 := c1
      rw [if_pos c1] at H
      refine Ev.go 1 (s' := (h, 33, [(0, .ref 44), (1, .long x1), (3, .int x3)], [.long x1])) rfl ?_
      cases H
      exact Ev.ret rfl rfl rfl ⟨rfl, rfl⟩
    · have c1 : ¬ ((fX3_size O) ≤ x3) := c1
      rw [if_neg c1] at H
      refine Ev.go 2 (s' := (h, 17, [(0, .ref 44), (1, .long x1), (3, .int x3)], [.ref 44, .long x1])) rfl ?_
      refine Ev.get rfl (by decide) xG.1 rfl ?_
      refine Ev.go 1 (s' := (h, 21, [(0, .ref 44), (1, .long x1), (3, .int x3)], [.int 0, .ref 45, .long x1])) rfl ?_
      refine Ev.aald rfl (by decide) xG.2.1 (by unfold vp_in; decide) (p_rowAt (by unfold vp_in; decide)) ?_
      refine Ev.go 1 (s' := (h, 23, [(0, .ref 44), (1, .long x1), (3, .int x3)], [.int x3, .ref 46, .long x1])) rfl ?_
      have v2 : vp_in x3 24 := fun q => by rw [if_pos q] at H; cases H
      rw [if_neg v2] at H
      refine Ev.lald rfl (by decide) (xG.2.2.1 0 (by decide)) v2 ?_
      refine Ev.go 4 (s' := (h, 4, [(0, .ref 44), (1, .long (x1 + ((G.1 0) x3.toNatClampNeg))), (3, .int (x3 + 1))], [])) rfl ?_
      refine Ev.live rfl (lv' := [(0, .ref 44), (1, .long (x1 + ((G.1 0) x3.toNatClampNeg))), (3, .int (x3 + 1))]) rfl ?_
      exact llX2_total_4 m h (x1 + ((G.1 0) x3.toNatClampNeg)) (x3 + 1) _ H xG xO
def fX2_total (n : Nat) (G : tG) (O : tO) : Option (Int64) := lX2_total_4 n G O n 0 0
theorem spX2_total {d n : Nat} {h : pH} {G : tG} {O : tO} (xG : isG h G) (xO : isO h O) {res : Int64} (H : fX2_total n G O = some res) : Ev (d + 1) mX2_total (h, 0, [(0, .ref 44)], []) (fun r h1 => r = some (.long res) ∧ h1 = h) := by
  unfold fX2_total at H
  refine Ev.go 4 (s' := (h, 4, [(0, .ref 44), (1, .long 0), (3, .int 0)], [])) rfl ?_
  refine Ev.live rfl (lv' := [(0, .ref 44), (1, .long 0), (3, .int 0)]) rfl ?_
  exact llX2_total_4 n h 0 0 _ H xG xO
def fX2_ways (G : tG) (q : Int32) (k : Int32) : Option (Int64) := (if q < 0 then some 0 else (if 8 ≤ q then some 0 else (if k < 0 then some 0 else (if k < 24 then (if q < 0 ∨ 8 ≤ q.toNatClampNeg then none else (if k < 0 ∨ 24 ≤ k.toNatClampNeg then none else some (((G.1 q.toNatClampNeg) k.toNatClampNeg) * ((G.2.2.1 q.toNatClampNeg) k.toNatClampNeg)))) else some 0))))
theorem spX2_ways {d : Nat} {h : pH} {G : tG} (xG : isG h G) (q : Int32) (k : Int32) {res : Int64} (H : fX2_ways G q k = some res) : Ev d mX2_ways (h, 0, [(0, .ref 44), (1, .int q), (2, .int k)], []) (fun r h1 => r = some (.long res) ∧ h1 = h) := by
  unfold fX2_ways at H
  refine Ev.go 1 (s' := (h, 1, [(0, .ref 44), (1, .int q), (2, .int k)], [.int q])) rfl ?_
  refine Ev.if1 rfl (fun c1 => ?_) (fun c1 => ?_)
  · have c1 : q < 0 := c1
    rw [if_pos c1] at H
    refine Ev.go 1 (s' := (h, 21, [(0, .ref 44), (1, .int q), (2, .int k)], [.long 0])) rfl ?_
    cases H
    exact Ev.ret rfl rfl rfl ⟨rfl, rfl⟩
  · have c1 : ¬ (q < 0) := c1
    rw [if_neg c1] at H
    refine Ev.go 2 (s' := (h, 7, [(0, .ref 44), (1, .int q), (2, .int k)], [.int 8, .int q])) rfl ?_
    refine Ev.if2 rfl (fun c2 => ?_) (fun c2 => ?_)
    · have c2 : 8 ≤ q := c2
      rw [if_pos c2] at H
      refine Ev.go 1 (s' := (h, 21, [(0, .ref 44), (1, .int q), (2, .int k)], [.long 0])) rfl ?_
      cases H
      exact Ev.ret rfl rfl rfl ⟨rfl, rfl⟩
    · have c2 : ¬ (8 ≤ q) := c2
      rw [if_neg c2] at H
      refine Ev.go 1 (s' := (h, 11, [(0, .ref 44), (1, .int q), (2, .int k)], [.int k])) rfl ?_
      refine Ev.if1 rfl (fun c3 => ?_) (fun c3 => ?_)
      · have c3 : k < 0 := c3
        rw [if_pos c3] at H
        refine Ev.go 1 (s' := (h, 21, [(0, .ref 44), (1, .int q), (2, .int k)], [.long 0])) rfl ?_
        cases H
        exact Ev.ret rfl rfl rfl ⟨rfl, rfl⟩
      · have c3 : ¬ (k < 0) := c3
        rw [if_neg c3] at H
        refine Ev.go 2 (s' := (h, 17, [(0, .ref 44), (1, .int q), (2, .int k)], [.int 24, .int k])) rfl ?_
        refine Ev.if2 rfl (fun c4 => ?_) (fun c4 => ?_)
        · have c4 : k < 24 := c4
          rw [if_pos c4] at H
          refine Ev.go 1 (s' := (h, 23, [(0, .ref 44), (1, .int q), (2, .int k)], [.ref 44])) rfl ?_
          refine Ev.get rfl (by decide) xG.1 rfl ?_
          refine Ev.go 1 (s' := (h, 27, [(0, .ref 44), (1, .int q), (2, .int k)], [.int q, .ref 45])) rfl ?_
          have v5 : vp_in q 8 := fun q => by rw [if_pos q] at H; cases H
          rw [if_neg v5] at H
          refine Ev.aald rfl (by decide) xG.2.1 v5 (p_rowAt v5) ?_
          have := vp_lt v5
          refine Ev.go 1 (s' := (h, 29, [(0, .ref 44), (1, .int q), (2, .int k)], [.int k, .ref (46 + q.toNatClampNeg)])) rfl ?_
          have v6 : vp_in k 24 := fun q => by rw [if_pos q] at H; cases H
          rw [if_neg v6] at H
          refine Ev.lald rfl (by show _ < 89; omega) (xG.2.2.1 q.toNatClampNeg (vp_lt v5)) v6 ?_
          refine Ev.go 1 (s' := (h, 31, [(0, .ref 44), (1, .int q), (2, .int k)], [.ref 44, .long ((G.1 q.toNatClampNeg) k.toNatClampNeg)])) rfl ?_
          refine Ev.get rfl (by decide) xG.1 rfl ?_
          refine Ev.go 1 (s' := (h, 35, [(0, .ref 44), (1, .int q), (2, .int k)], [.int q, .ref 63, .long ((G.1 q.toNatClampNeg) k.toNatClampNeg)])) rfl ?_
          refine Ev.aald rfl (by decide) xG.2.2.2.2.2.1 v5 (p_rowAt v5) ?_
          have := vp_lt v5
          refine Ev.go 1 (s' := (h, 37, [(0, .ref 44), (1, .int q), (2, .int k)], [.int k, .ref (64 + q.toNatClampNeg), .long ((G.1 q.toNatClampNeg) k.toNatClampNeg)])) rfl ?_
          refine Ev.lald rfl (by show _ < 89; omega) (xG.2.2.2.2.2.2.1 q.toNatClampNeg (vp_lt v5)) v6 ?_
          refine Ev.go 1 (s' := (h, 39, [(0, .ref 44), (1, .int q), (2, .int k)], [.long (((G.1 q.toNatClampNeg) k.toNatClampNeg) * ((G.2.2.1 q.toNatClampNeg) k.toNatClampNeg))])) rfl ?_
          cases H
          exact Ev.ret rfl rfl rfl ⟨rfl, rfl⟩
        · have c4 : ¬ (k < 24) := c4
          rw [if_neg c4] at H
          refine Ev.go 1 (s' := (h, 21, [(0, .ref 44), (1, .int q), (2, .int k)], [.long 0])) rfl ?_
          cases H
          exact Ev.ret rfl rfl rfl ⟨rfl, rfl⟩
def lX2_product_36 (n : Nat) (G : tG) (T : tT) (O : tO) (S : tS) : Nat → Int32 → Int32 → Int32 → Int64 → Int32 → Option (Int64)
  | 0, _, _, _, _, _ => none
  | m + 1, x1, x2, x3, x4, x6 => (if (fX5_size S) ≤ x6 then some x4 else (if x6 = x2 then lX2_product_36 n G T O S m x1 x2 x3 x4 (x6 + 1) else ((fX5_hangOf S x6).bind fun y9 => (if ¬ y9 = x1 then lX2_product_36 n G T O S m x1 x2 x3 x4 (x6 + 1) else (if x6 < 0 ∨ 8 ≤ x6.toNatClampNeg then none else (if x3 < 0 ∨ 24 ≤ x3.toNatClampNeg then none else lX2_product_36 n G T O S m x1 x2 x3 (x4 * ((G.2.1 x6.toNatClampNeg) x3.toNatClampNeg)) (x6 + 1)))))))
theorem llX2_product_36 {d n : Nat} {G : tG} {T : tT} {O : tO} {S : tS} : ∀ (m : Nat) (h : pH) (x1 : Int32) (x2 : Int32) (x3 : Int32) (x4 : Int64) (x6 : Int32) (res : Int64), lX2_product_36 n G T O S m x1 x2 x3 x4 x6 = some res → isG h G → isT h 7 T → isO h O → isS h 36 S → Ev (d + 2) mX2_product (h, 36, [(0, .ref 44), (1, .int x1), (2, .int x2), (3, .int x3), (4, .long x4), (6, .int x6)], []) (fun r h1 => r = some (.long res) ∧ h1 = h)
  | 0, h, x1, x2, x3, x4, x6, res, H, _, _, _, _ => by cases H
  | m + 1, h, x1, x2, x3, x4, x6, res, H, xG, xT, xO, xS => by
    have H : (if (fX5_size S) ≤ x6 then some x4 else (if x6 = x2 then lX2_product_36 n G T O S m x1 x2 x3 x4 (x6 + 1) else ((fX5_hangOf S x6).bind fun y9 => (if ¬ y9 = x1 then lX2_product_36 n G T O S m x1 x2 x3 x4 (x6 + 1) else (if x6 < 0 ∨ 8 ≤ x6.toNatClampNeg then none else (if x3 < 0 ∨ 24 ≤ x3.toNatClampNeg then none else lX2_product_36 n G T O S m x1 x2 x3 (x4 * ((G.2.1 x6.toNatClampNeg) x3.toNatClampNeg)) (x6 + 1))))))) = some res := H
    refine Ev.go 2 (s' := (h, 39, [(0, .ref 44), (1, .int x1), (2, .int x2), (3, .int x3), (4, .long x4), (6, .int x6)], [.ref 44, .int x6])) rfl ?_
    refine Ev.get rfl (by decide) xG.1 rfl ?_
    refine Ev.callE rfl rfl rfl (p_argsV (by decide) xS.1 (Nat.le_of_ble_eq_true rfl)) rfl (Nat.le_of_ble_eq_true rfl) (spX5_size xS ) ?_
    refine Ev.if2 rfl (fun c6 => ?_) (fun c6 => ?_)
    · have c6 : (fX5_size S) ≤ x6 := c6
      rw [if_pos c6] at H
      refine Ev.go 1 (s' := (h, 89, [(0, .ref 44), (1, .int x1), (2, .int x2), (3, .int x3), (4, .long x4), (6, .int x6)], [.long x4])) rfl ?_
      cases H
      exact Ev.ret rfl rfl rfl ⟨rfl, rfl⟩
    · have c6 : ¬ ((fX5_size S) ≤ x6) := c6
      rw [if_neg c6] at H
      refine Ev.go 2 (s' := (h, 51, [(0, .ref 44), (1, .int x1), (2, .int x2), (3, .int x3), (4, .long x4), (6, .int x6)], [.int x2, .int x6])) rfl ?_
      refine Ev.if2 rfl (fun c7 => ?_) (fun c7 => ?_)
      · have c7 : x6 = x2 := c7
        rw [if_pos c7] at H
        refine Ev.go 2 (s' := (h, 36, [(0, .ref 44), (1, .int x1), (2, .int x2), (3, .int x3), (4, .long x4), (6, .int (x6 + 1))], [])) rfl ?_
        refine Ev.live rfl (lv' := [(0, .ref 44), (1, .int x1), (2, .int x2), (3, .int x3), (4, .long x4), (6, .int (x6 + 1))]) rfl ?_
        exact llX2_product_36 m h x1 x2 x3 x4 (x6 + 1) _ H xG xT xO xS
      · have c7 : ¬ (x6 = x2) := c7
        rw [if_neg c7] at H
        refine Ev.go 1 (s' := (h, 55, [(0, .ref 44), (1, .int x1), (2, .int x2), (3, .int x3), (4, .long x4), (6, .int x6)], [.ref 44])) rfl ?_
        refine Ev.get rfl (by decide) xG.1 rfl ?_
        refine Ev.go 1 (s' := (h, 60, [(0, .ref 44), (1, .int x1), (2, .int x2), (3, .int x3), (4, .long x4), (6, .int x6)], [.int x6, .ref 36])) rfl ?_
        obtain ⟨y9, e8, H⟩ := Option.bind_eq_some_iff.mp H
        refine Ev.callE rfl rfl rfl (p_argsV (by decide) xS.1 (Nat.le_of_ble_eq_true rfl)) rfl (Nat.le_of_ble_eq_true rfl) (spX5_hangOf xS x6 e8) ?_
        refine Ev.go 1 (s' := (h, 64, [(0, .ref 44), (1, .int x1), (2, .int x2), (3, .int x3), (4, .long x4), (6, .int x6)], [.int x1, .int y9])) rfl ?_
        refine Ev.if2 rfl (fun c10 => ?_) (fun c10 => ?_)
        · have c10 : ¬ y9 = x1 := c10
          rw [if_pos c10] at H
          refine Ev.go 2 (s' := (h, 36, [(0, .ref 44), (1, .int x1), (2, .int x2), (3, .int x3), (4, .long x4), (6, .int (x6 + 1))], [])) rfl ?_
          refine Ev.live rfl (lv' := [(0, .ref 44), (1, .int x1), (2, .int x2), (3, .int x3), (4, .long x4), (6, .int (x6 + 1))]) rfl ?_
          exact llX2_product_36 m h x1 x2 x3 x4 (x6 + 1) _ H xG xT xO xS
        · have c10 : ¬ (¬ y9 = x1) := c10
          rw [if_neg c10] at H
          refine Ev.go 2 (s' := (h, 70, [(0, .ref 44), (1, .int x1), (2, .int x2), (3, .int x3), (4, .long x4), (6, .int x6)], [.ref 44, .long x4])) rfl ?_
          refine Ev.get rfl (by decide) xG.1 rfl ?_
          refine Ev.go 1 (s' := (h, 75, [(0, .ref 44), (1, .int x1), (2, .int x2), (3, .int x3), (4, .long x4), (6, .int x6)], [.int x6, .ref 54, .long x4])) rfl ?_
          have v11 : vp_in x6 8 := fun q => by rw [if_pos q] at H; cases H
          rw [if_neg v11] at H
          refine Ev.aald rfl (by decide) xG.2.2.2.1 v11 (p_rowAt v11) ?_
          have := vp_lt v11
          refine Ev.go 1 (s' := (h, 77, [(0, .ref 44), (1, .int x1), (2, .int x2), (3, .int x3), (4, .long x4), (6, .int x6)], [.int x3, .ref (55 + x6.toNatClampNeg), .long x4])) rfl ?_
          have v12 : vp_in x3 24 := fun q => by rw [if_pos q] at H; cases H
          rw [if_neg v12] at H
          refine Ev.lald rfl (by show _ < 89; omega) (xG.2.2.2.2.1 x6.toNatClampNeg (vp_lt v11)) v12 ?_
          refine Ev.go 4 (s' := (h, 36, [(0, .ref 44), (1, .int x1), (2, .int x2), (3, .int x3), (4, .long (x4 * ((G.2.1 x6.toNatClampNeg) x3.toNatClampNeg))), (6, .int (x6 + 1))], [])) rfl ?_
          refine Ev.live rfl (lv' := [(0, .ref 44), (1, .int x1), (2, .int x2), (3, .int x3), (4, .long (x4 * ((G.2.1 x6.toNatClampNeg) x3.toNatClampNeg))), (6, .int (x6 + 1))]) rfl ?_
          exact llX2_product_36 m h x1 x2 x3 (x4 * ((G.2.1 x6.toNatClampNeg) x3.toNatClampNeg)) (x6 + 1) _ H xG xT xO xS
def fX2_product (n : Nat) (G : tG) (q : Int32) (without : Int32) (k : Int32) (T : tT) (O : tO) (S : tS) : Option (Int64) := ((fX3_nodeAt O k).bind fun y2 => ((fX5_fits S q (fX7_tagOf T y2)).bind fun y4 => (if ¬ y4 = 0 then lX2_product_36 n G T O S n q without k 1 (q + 1) else some 0)))
theorem spX2_product {d n : Nat} {h : pH} {G : tG} {T : tT} {O : tO} {S : tS} (xG : isG h G) (xT : isT h 7 T) (xO : isO h O) (xS : isS h 36 S) (q : Int32) (without : Int32) (k : Int32) {res : Int64} (H : fX2_product n G q without k T O S = some res) : Ev (d + 2) mX2_product (h, 0, [(0, .ref 44), (1, .int q), (2, .int without), (3, .int k)], []) (fun r h1 => r = some (.long res) ∧ h1 = h) := by
  unfold fX2_product at H
  refine Ev.go 1 (s' := (h, 1, [(0, .ref 44), (1, .int q), (2, .int without), (3, .int k)], [.ref 44])) rfl ?_
  refine Ev.get rfl (by decide) xG.1 rfl ?_
  refine Ev.go 2 (s' := (h, 6, [(0, .ref 44), (1, .int q), (2, .int without), (3, .int k)], [.ref 44, .int q, .ref 36])) rfl ?_
  refine Ev.get rfl (by decide) xG.1 rfl ?_
  refine Ev.go 1 (s' := (h, 10, [(0, .ref 44), (1, .int q), (2, .int without), (3, .int k)], [.ref 44, .ref 7, .int q, .ref 36])) rfl ?_
  refine Ev.get rfl (by decide) xG.1 rfl ?_
  refine Ev.go 1 (s' := (h, 14, [(0, .ref 44), (1, .int q), (2, .int without), (3, .int k)], [.int k, .ref 15, .ref 7, .int q, .ref 36])) rfl ?_
  obtain ⟨y2, e1, H⟩ := Option.bind_eq_some_iff.mp H
  refine Ev.callE rfl rfl rfl (p_argsV (by decide) xO.1 (Nat.le_of_ble_eq_true rfl)) rfl (Nat.le_of_ble_eq_true rfl) (spX3_nodeAt xO k e1) ?_
  refine Ev.callE rfl rfl rfl (p_argsV (by decide) xT.1 (Nat.le_of_ble_eq_true rfl)) rfl (Nat.le_of_ble_eq_true rfl) (spX7_tagOf xT y2) ?_
  obtain ⟨y4, e3, H⟩ := Option.bind_eq_some_iff.mp H
  refine Ev.callE rfl rfl rfl (p_argsV (by decide) xS.1 (Nat.le_of_ble_eq_true rfl)) rfl (Nat.le_of_ble_eq_true rfl) (spX5_fits xS q (fX7_tagOf T y2) e3) ?_
  refine Ev.if1 rfl (fun c5 => ?_) (fun c5 => ?_)
  · have c5 : ¬ y4 = 0 := c5
    rw [if_pos c5] at H
    refine Ev.go 6 (s' := (h, 36, [(0, .ref 44), (1, .int q), (2, .int without), (3, .int k), (4, .long 1), (6, .int (q + 1))], [])) rfl ?_
    refine Ev.live rfl (lv' := [(0, .ref 44), (1, .int q), (2, .int without), (3, .int k), (4, .long 1), (6, .int (q + 1))]) rfl ?_
    exact llX2_product_36 n h q without k 1 (q + 1) _ H xG xT xO xS
  · have c5 : ¬ (¬ y4 = 0) := c5
    rw [if_neg c5] at H
    refine Ev.go 1 (s' := (h, 27, [(0, .ref 44), (1, .int q), (2, .int without), (3, .int k)], [.long 0])) rfl ?_
    cases H
    exact Ev.ret rfl rfl rfl ⟨rfl, rfl⟩
def lX2_countOwn_2 (n : Nat) (T : tT) (O : tO) (S : tS) : Nat → Int32 → Int32 → tG → Option (tG)
  | 0, _, _, _ => none
  | m + 1, x1, x2, G => (if (fX3_size O) ≤ x2 then some G else (if x1 < 0 ∨ 8 ≤ x1.toNatClampNeg then none else ((fX2_product n G x1 (-1) x2 T O S).bind fun y4 => (if x2 < 0 ∨ 24 ≤ x2.toNatClampNeg then none else lX2_countOwn_2 n T O S m x1 (x2 + 1) (va_up G.1 x1.toNatClampNeg (vp_updL (G.1 x1.toNatClampNeg) x2.toNatClampNeg y4), G.2.1, G.2.2.1, G.2.2.2)))))
theorem llX2_countOwn_2 {d n : Nat} {T : tT} {O : tO} {S : tS} : ∀ (m : Nat) (h : pH) (x1 : Int32) (x2 : Int32) (G : tG) (res : tG), lX2_countOwn_2 n T O S m x1 x2 G = some res → isT h 7 T → isO h O → isS h 36 S → isG h G → Ev (d + 3) mX2_countOwn (h, 2, [(0, .ref 44), (1, .int x1), (2, .int x2)], []) (fun r h1 => r = none ∧ isG h1 res ∧ fr [(44, 73)] h h1)
  | 0, h, x1, x2, G, res, H, _, _, _, _ => by cases H
  | m + 1, h, x1, x2, G, res, H, xT, xO, xS, xG => by
    have H : (if (fX3_size O) ≤ x2 then some G else (if x1 < 0 ∨ 8 ≤ x1.toNatClampNeg then none else ((fX2_product n G x1 (-1) x2 T O S).bind fun y4 => (if x2 < 0 ∨ 24 ≤ x2.toNatClampNeg then none else lX2_countOwn_2 n T O S m x1 (x2 + 1) (va_up G.1 x1.toNatClampNeg (vp_updL (G.1 x1.toNatClampNeg) x2.toNatClampNeg y4), G.2.1, G.2.2.1, G.2.2.2))))) = some res := H
    refine Ev.go 2 (s' := (h, 4, [(0, .ref 44), (1, .int x1), (2, .int x2)], [.ref 44, .int x2])) rfl ?_
    refine Ev.get rfl (by decide) xG.1 rfl ?_
    refine Ev.callE rfl rfl rfl (p_argsV (by decide) xO.1 (Nat.le_of_ble_eq_true rfl)) rfl (Nat.le_of_ble_eq_true rfl) (spX3_size xO ) ?_
    refine Ev.if2 rfl (fun c1 => ?_) (fun c1 => ?_)
    · have c1 : (fX3_size O) ≤ x2 := c1
      rw [if_pos c1] at H
      cases H
      exact Ev.ret rfl rfl rfl ⟨rfl, xG, (fun k _ => rfl)⟩
    · have c1 : ¬ ((fX3_size O) ≤ x2) := c1
      rw [if_neg c1] at H
      refine Ev.go 1 (s' := (h, 14, [(0, .ref 44), (1, .int x1), (2, .int x2)], [.ref 44])) rfl ?_
      refine Ev.get rfl (by decide) xG.1 rfl ?_
      refine Ev.go 1 (s' := (h, 18, [(0, .ref 44), (1, .int x1), (2, .int x2)], [.int x1, .ref 45])) rfl ?_
      have v2 : vp_in x1 8 := fun q => by rw [if_pos q] at H; cases H
      rw [if_neg v2] at H
      refine Ev.aald rfl (by decide) xG.2.1 v2 (p_rowAt v2) ?_
      have := vp_lt v2
      refine Ev.go 5 (s' := (h, 24, [(0, .ref 44), (1, .int x1), (2, .int x2)], [.int x2, .int ((-1)), .int x1, .ref 44, .int x2, .ref (46 + x1.toNatClampNeg)])) rfl ?_
      obtain ⟨y4, e3, H⟩ := Option.bind_eq_some_iff.mp H
      refine Ev.callE rfl rfl rfl (p_argsV (by decide) xG.1 (Nat.le_of_ble_eq_true rfl)) rfl (Nat.le_of_ble_eq_true rfl) (spX2_product xG xT xO xS x1 (-1) x2 e3) ?_
      have v5 : vp_in x2 24 := fun q => by rw [if_pos q] at H; cases H
      rw [if_neg v5] at H
      refine Ev.last rfl (by show _ < 89; omega) (xG.2.2.1 x1.toNatClampNeg (vp_lt v2)) v5 ?_
      refine Ev.go 2 (s' := ((pu h (46 + x1.toNatClampNeg) (eJ 24 (vp_updL (G.1 x1.toNatClampNeg) x2.toNatClampNeg y4))), 2, [(0, .ref 44), (1, .int x1), (2, .int (x2 + 1))], [])) rfl ?_
      refine Ev.live rfl (lv' := [(0, .ref 44), (1, .int x1), (2, .int (x2 + 1))]) rfl ?_
      refine (llX2_countOwn_2 m (pu h (46 + x1.toNatClampNeg) (eJ 24 (vp_updL (G.1 x1.toNatClampNeg) x2.toNatClampNeg y4))) x1 (x2 + 1) (va_up G.1 x1.toNatClampNeg (vp_updL (G.1 x1.toNatClampNeg) x2.toNatClampNeg y4), G.2.1, G.2.2.1, G.2.2.2) _ H ⟨(pu_n (by omega) xT.1), (pu_n (by omega) xT.2.1), (pu_n (by omega) xT.2.2.1), (pu_n (by omega) xT.2.2.2.1), (by decide)⟩ ⟨(pu_n (by omega) xO.1), (pu_n (by omega) xO.2.1), (pu_n (by omega) xO.2.2.1), (pu_n (by omega) xO.2.2.2.1), (pu_n (by omega) xO.2.2.2.2.1), (pu_n (by omega) xO.2.2.2.2.2.1), (pu_n (by omega) xO.2.2.2.2.2.2.1), (pu_n (by omega) xO.2.2.2.2.2.2.2)⟩ ⟨(pu_n (by omega) xS.1), (pu_n (by omega) xS.2.1), (pu_n (by omega) xS.2.2.1), (pu_n (by omega) xS.2.2.2.1), (by decide)⟩ ⟨(pu_n (by omega) xG.1), (pu_n (by omega) xG.2.1), (rw_put (b := 46) (X := x1.toNatClampNeg) xG.2.2.1 (vp_lt v2)), (pu_n (by omega) xG.2.2.2.1), (rw_keep xG.2.2.2.2.1 (by omega)), (pu_n (by omega) xG.2.2.2.2.2.1), (rw_keep xG.2.2.2.2.2.2.1 (by omega)), (pu_n (by omega) xG.2.2.2.2.2.2.2)⟩).mono (fun r h9 q9 => ?_)
      obtain ⟨q9r, q9_0, q9f⟩ := q9
      exact ⟨q9r, q9_0, fun k hk => (q9f k hk).trans (by rw [pu_x (show k ≠ 46 + x1.toNatClampNeg from fun e => by have := hk; simp at this; omega)])⟩
def fX2_countOwn (n : Nat) (G : tG) (q : Int32) (T : tT) (O : tO) (S : tS) : Option (tG) := lX2_countOwn_2 n T O S n q 0 G
theorem spX2_countOwn {d n : Nat} {h : pH} {G : tG} {T : tT} {O : tO} {S : tS} (xG : isG h G) (xT : isT h 7 T) (xO : isO h O) (xS : isS h 36 S) (q : Int32) {res : tG} (H : fX2_countOwn n G q T O S = some res) : Ev (d + 3) mX2_countOwn (h, 0, [(0, .ref 44), (1, .int q)], []) (fun r h1 => r = none ∧ isG h1 res ∧ fr [(44, 73)] h h1) := by
  unfold fX2_countOwn at H
  refine Ev.go 2 (s' := (h, 2, [(0, .ref 44), (1, .int q), (2, .int 0)], [])) rfl ?_
  refine Ev.live rfl (lv' := [(0, .ref 44), (1, .int q), (2, .int 0)]) rfl ?_
  exact llX2_countOwn_2 n h q 0 G _ H xT xO xS xG
def lX2_countHung_20 (n : Nat) (O : tO) (S : tS) : Nat → Int32 → Int32 → tG → Option (tG)
  | 0, _, _, _ => none
  | m + 1, x1, x2, G => (if x2 ≤ 0 then some G else ((fX2_sourceOf G x1 x2 O S).bind fun y4 => (if y4 < 0 then lX2_countHung_20 n O S m x1 (x2 + (-1)) G else (if x1 < 0 ∨ 8 ≤ x1.toNatClampNeg then none else (if y4 < 0 ∨ 24 ≤ y4.toNatClampNeg then none else (if x2 < 0 ∨ 24 ≤ x2.toNatClampNeg then none else ((fX2_reachesOn G x1 S).bind fun y10 => (if y10 = 0 then lX2_countHung_20 n O S m x1 (x2 + (-1)) (G.1, va_up G.2.1 x1.toNatClampNeg (vp_updL (G.2.1 x1.toNatClampNeg) y4.toNatClampNeg (((G.2.1 x1.toNatClampNeg) y4.toNatClampNeg) + (((G.1 x1.toNatClampNeg) x2.toNatClampNeg) + 0))), G.2.2.1, G.2.2.2) else lX2_countHung_20 n O S m x1 (x2 + (-1)) (G.1, va_up G.2.1 x1.toNatClampNeg (vp_updL (G.2.1 x1.toNatClampNeg) y4.toNatClampNeg (((G.2.1 x1.toNatClampNeg) y4.toNatClampNeg) + (((G.1 x1.toNatClampNeg) x2.toNatClampNeg) + ((G.2.1 x1.toNatClampNeg) x2.toNatClampNeg)))), G.2.2.1, G.2.2.2)))))))))
theorem llX2_countHung_20 {d n : Nat} {O : tO} {S : tS} : ∀ (m : Nat) (h : pH) (x1 : Int32) (x2 : Int32) (G : tG) (res : tG), lX2_countHung_20 n O S m x1 x2 G = some res → isO h O → isS h 36 S → isG h G → Ev (d + 3) mX2_countHung (h, 20, [(0, .ref 44), (1, .int x1), (2, .int x2)], []) (fun r h1 => r = none ∧ isG h1 res ∧ fr [(44, 73)] h h1)
  | 0, h, x1, x2, G, res, H, _, _, _ => by cases H
  | m + 1, h, x1, x2, G, res, H, xO, xS, xG => by
    have H : (if x2 ≤ 0 then some G else ((fX2_sourceOf G x1 x2 O S).bind fun y4 => (if y4 < 0 then lX2_countHung_20 n O S m x1 (x2 + (-1)) G else (if x1 < 0 ∨ 8 ≤ x1.toNatClampNeg then none else (if y4 < 0 ∨ 24 ≤ y4.toNatClampNeg then none else (if x2 < 0 ∨ 24 ≤ x2.toNatClampNeg then none else ((fX2_reachesOn G x1 S).bind fun y10 => (if y10 = 0 then lX2_countHung_20 n O S m x1 (x2 + (-1)) (G.1, va_up G.2.1 x1.toNatClampNeg (vp_updL (G.2.1 x1.toNatClampNeg) y4.toNatClampNeg (((G.2.1 x1.toNatClampNeg) y4.toNatClampNeg) + (((G.1 x1.toNatClampNeg) x2.toNatClampNeg) + 0))), G.2.2.1, G.2.2.2) else lX2_countHung_20 n O S m x1 (x2 + (-1)) (G.1, va_up G.2.1 x1.toNatClampNeg (vp_updL (G.2.1 x1.toNatClampNeg) y4.toNatClampNeg (((G.2.1 x1.toNatClampNeg) y4.toNatClampNeg) + (((G.1 x1.toNatClampNeg) x2.toNatClampNeg) + ((G.2.1 x1.toNatClampNeg) x2.toNatClampNeg)))), G.2.2.1, G.2.2.2))))))))) = some res := H
    refine Ev.go 1 (s' := (h, 21, [(0, .ref 44), (1, .int x1), (2, .int x2)], [.int x2])) rfl ?_
    refine Ev.if1 rfl (fun c2 => ?_) (fun c2 => ?_)
    · have c2 : x2 ≤ 0 := c2
      rw [if_pos c2] at H
      cases H
      exact Ev.ret rfl rfl rfl ⟨rfl, xG, (fun k _ => rfl)⟩
    · have c2 : ¬ (x2 ≤ 0) := c2
      rw [if_neg c2] at H
      refine Ev.go 3 (s' := (h, 27, [(0, .ref 44), (1, .int x1), (2, .int x2)], [.int x2, .int x1, .ref 44])) rfl ?_
      obtain ⟨y4, e3, H⟩ := Option.bind_eq_some_iff.mp H
      refine Ev.callE rfl rfl rfl (p_argsV (by decide) xG.1 (Nat.le_of_ble_eq_true rfl)) rfl (Nat.le_of_ble_eq_true rfl) (spX2_sourceOf xG xO xS x1 x2 e3) ?_
      refine Ev.go 2 (s' := (h, 32, [(0, .ref 44), (1, .int x1), (2, .int x2), (3, .int y4)], [.int y4])) rfl ?_
      refine Ev.if1 rfl (fun c5 => ?_) (fun c5 => ?_)
      · have c5 : y4 < 0 := c5
        rw [if_pos c5] at H
        refine Ev.go 2 (s' := (h, 20, [(0, .ref 44), (1, .int x1), (2, .int (x2 + (-1))), (3, .int y4)], [])) rfl ?_
        refine Ev.live rfl (lv' := [(0, .ref 44), (1, .int x1), (2, .int (x2 + (-1)))]) rfl ?_
        exact llX2_countHung_20 m h x1 (x2 + (-1)) G _ H xO xS xG
      · have c5 : ¬ (y4 < 0) := c5
        rw [if_neg c5] at H
        refine Ev.go 1 (s' := (h, 36, [(0, .ref 44), (1, .int x1), (2, .int x2), (3, .int y4)], [.ref 44])) rfl ?_
        refine Ev.get rfl (by decide) xG.1 rfl ?_
        refine Ev.go 1 (s' := (h, 40, [(0, .ref 44), (1, .int x1), (2, .int x2), (3, .int y4)], [.int x1, .ref 54])) rfl ?_
        have v6 : vp_in x1 8 := fun q => by rw [if_pos q] at H; cases H
        rw [if_neg v6] at H
        refine Ev.aald rfl (by decide) xG.2.2.2.1 v6 (p_rowAt v6) ?_
        have := vp_lt v6
        refine Ev.go 2 (s' := (h, 43, [(0, .ref 44), (1, .int x1), (2, .int x2), (3, .int y4)], [.int y4, .ref (55 + x1.toNatClampNeg), .int y4, .ref (55 + x1.toNatClampNeg)])) rfl ?_
        have v7 : vp_in y4 24 := fun q => by rw [if_pos q] at H; cases H
        rw [if_neg v7] at H
        refine Ev.lald rfl (by show _ < 89; omega) (xG.2.2.2.2.1 x1.toNatClampNeg (vp_lt v6)) v7 ?_
        refine Ev.go 1 (s' := (h, 45, [(0, .ref 44), (1, .int x1), (2, .int x2), (3, .int y4)], [.ref 44, .long ((G.2.1 x1.toNatClampNeg) y4.toNatClampNeg), .int y4, .ref (55 + x1.toNatClampNeg)])) rfl ?_
        refine Ev.get rfl (by decide) xG.1 rfl ?_
        refine Ev.go 1 (s' := (h, 49, [(0, .ref 44), (1, .int x1), (2, .int x2), (3, .int y4)], [.int x1, .ref 45, .long ((G.2.1 x1.toNatClampNeg) y4.toNatClampNeg), .int y4, .ref (55 + x1.toNatClampNeg)])) rfl ?_
        refine Ev.aald rfl (by decide) xG.2.1 v6 (p_rowAt v6) ?_
        have := vp_lt v6
        refine Ev.go 1 (s' := (h, 51, [(0, .ref 44), (1, .int x1), (2, .int x2), (3, .int y4)], [.int x2, .ref (46 + x1.toNatClampNeg), .long ((G.2.1 x1.toNatClampNeg) y4.toNatClampNeg), .int y4, .ref (55 + x1.toNatClampNeg)])) rfl ?_
        have v8 : vp_in x2 24 := fun q => by rw [if_pos q] at H; cases H
        rw [if_neg v8] at H
        refine Ev.lald rfl (by show _ < 89; omega) (xG.2.2.1 x1.toNatClampNeg (vp_lt v6)) v8 ?_
        refine Ev.go 2 (s' := (h, 54, [(0, .ref 44), (1, .int x1), (2, .int x2), (3, .int y4)], [.int x1, .ref 44, .long ((G.1 x1.toNatClampNeg) x2.toNatClampNeg), .long ((G.2.1 x1.toNatClampNeg) y4.toNatClampNeg), .int y4, .ref (55 + x1.toNatClampNeg)])) rfl ?_
        obtain ⟨y10, e9, H⟩ := Option.bind_eq_some_iff.mp H
        refine Ev.callE rfl rfl rfl (p_argsV (by decide) xG.1 (Nat.le_of_ble_eq_true rfl)) rfl (Nat.le_of_ble_eq_true rfl) (spX2_reachesOn xG xS x1 e9) ?_
        refine Ev.if1 rfl (fun c11 => ?_) (fun c11 => ?_)
        · have c11 : y10 = 0 := c11
          rw [if_pos c11] at H
          refine Ev.go 3 (s' := (h, 74, [(0, .ref 44), (1, .int x1), (2, .int x2), (3, .int y4)], [.long (((G.2.1 x1.toNatClampNeg) y4.toNatClampNeg) + (((G.1 x1.toNatClampNeg) x2.toNatClampNeg) + 0)), .int y4, .ref (55 + x1.toNatClampNeg)])) rfl ?_
          refine Ev.last rfl (by show _ < 89; omega) (xG.2.2.2.2.1 x1.toNatClampNeg (vp_lt v6)) v7 ?_
          refine Ev.go 2 (s' := ((pu h (55 + x1.toNatClampNeg) (eJ 24 (vp_updL (G.2.1 x1.toNatClampNeg) y4.toNatClampNeg (((G.2.1 x1.toNatClampNeg) y4.toNatClampNeg) + (((G.1 x1.toNatClampNeg) x2.toNatClampNeg) + 0))))), 20, [(0, .ref 44), (1, .int x1), (2, .int (x2 + (-1))), (3, .int y4)], [])) rfl ?_
          refine Ev.live rfl (lv' := [(0, .ref 44), (1, .int x1), (2, .int (x2 + (-1)))]) rfl ?_
          refine (llX2_countHung_20 m (pu h (55 + x1.toNatClampNeg) (eJ 24 (vp_updL (G.2.1 x1.toNatClampNeg) y4.toNatClampNeg (((G.2.1 x1.toNatClampNeg) y4.toNatClampNeg) + (((G.1 x1.toNatClampNeg) x2.toNatClampNeg) + 0))))) x1 (x2 + (-1)) (G.1, va_up G.2.1 x1.toNatClampNeg (vp_updL (G.2.1 x1.toNatClampNeg) y4.toNatClampNeg (((G.2.1 x1.toNatClampNeg) y4.toNatClampNeg) + (((G.1 x1.toNatClampNeg) x2.toNatClampNeg) + 0))), G.2.2.1, G.2.2.2) _ H ⟨(pu_n (by omega) xO.1), (pu_n (by omega) xO.2.1), (pu_n (by omega) xO.2.2.1), (pu_n (by omega) xO.2.2.2.1), (pu_n (by omega) xO.2.2.2.2.1), (pu_n (by omega) xO.2.2.2.2.2.1), (pu_n (by omega) xO.2.2.2.2.2.2.1), (pu_n (by omega) xO.2.2.2.2.2.2.2)⟩ ⟨(pu_n (by omega) xS.1), (pu_n (by omega) xS.2.1), (pu_n (by omega) xS.2.2.1), (pu_n (by omega) xS.2.2.2.1), (by decide)⟩ ⟨(pu_n (by omega) xG.1), (pu_n (by omega) xG.2.1), (rw_keep xG.2.2.1 (by omega)), (pu_n (by omega) xG.2.2.2.1), (rw_put (b := 55) (X := x1.toNatClampNeg) xG.2.2.2.2.1 (vp_lt v6)), (pu_n (by omega) xG.2.2.2.2.2.1), (rw_keep xG.2.2.2.2.2.2.1 (by omega)), (pu_n (by omega) xG.2.2.2.2.2.2.2)⟩).mono (fun r h9 q9 => ?_)
          obtain ⟨q9r, q9_0, q9f⟩ := q9
          exact ⟨q9r, q9_0, fun k hk => (q9f k hk).trans (by rw [pu_x (show k ≠ 55 + x1.toNatClampNeg from fun e => by have := hk; simp at this; omega)])⟩
        · have c11 : ¬ (y10 = 0) := c11
          rw [if_neg c11] at H
          refine Ev.go 1 (s' := (h, 61, [(0, .ref 44), (1, .int x1), (2, .int x2), (3, .int y4)], [.ref 44, .long ((G.1 x1.toNatClampNeg) x2.toNatClampNeg), .long ((G.2.1 x1.toNatClampNeg) y4.toNatClampNeg), .int y4, .ref (55 + x1.toNatClampNeg)])) rfl ?_
          refine Ev.get rfl (by decide) xG.1 rfl ?_
          refine Ev.go 1 (s' := (h, 65, [(0, .ref 44), (1, .int x1), (2, .int x2), (3, .int y4)], [.int x1, .ref 54, .long ((G.1 x1.toNatClampNeg) x2.toNatClampNeg), .long ((G.2.1 x1.toNatClampNeg) y4.toNatClampNeg), .int y4, .ref (55 + x1.toNatClampNeg)])) rfl ?_
          refine Ev.aald rfl (by decide) xG.2.2.2.1 v6 (p_rowAt v6) ?_
          have := vp_lt v6
          refine Ev.go 1 (s' := (h, 67, [(0, .ref 44), (1, .int x1), (2, .int x2), (3, .int y4)], [.int x2, .ref (55 + x1.toNatClampNeg), .long ((G.1 x1.toNatClampNeg) x2.toNatClampNeg), .long ((G.2.1 x1.toNatClampNeg) y4.toNatClampNeg), .int y4, .ref (55 + x1.toNatClampNeg)])) rfl ?_
          refine Ev.lald rfl (by show _ < 89; omega) (xG.2.2.2.2.1 x1.toNatClampNeg (vp_lt v6)) v8 ?_
          refine Ev.go 3 (s' := (h, 74, [(0, .ref 44), (1, .int x1), (2, .int x2), (3, .int y4)], [.long (((G.2.1 x1.toNatClampNeg) y4.toNatClampNeg) + (((G.1 x1.toNatClampNeg) x2.toNatClampNeg) + ((G.2.1 x1.toNatClampNeg) x2.toNatClampNeg))), .int y4, .ref (55 + x1.toNatClampNeg)])) rfl ?_
          refine Ev.last rfl (by show _ < 89; omega) (xG.2.2.2.2.1 x1.toNatClampNeg (vp_lt v6)) v7 ?_
          refine Ev.go 2 (s' := ((pu h (55 + x1.toNatClampNeg) (eJ 24 (vp_updL (G.2.1 x1.toNatClampNeg) y4.toNatClampNeg (((G.2.1 x1.toNatClampNeg) y4.toNatClampNeg) + (((G.1 x1.toNatClampNeg) x2.toNatClampNeg) + ((G.2.1 x1.toNatClampNeg) x2.toNatClampNeg)))))), 20, [(0, .ref 44), (1, .int x1), (2, .int (x2 + (-1))), (3, .int y4)], [])) rfl ?_
          refine Ev.live rfl (lv' := [(0, .ref 44), (1, .int x1), (2, .int (x2 + (-1)))]) rfl ?_
          refine (llX2_countHung_20 m (pu h (55 + x1.toNatClampNeg) (eJ 24 (vp_updL (G.2.1 x1.toNatClampNeg) y4.toNatClampNeg (((G.2.1 x1.toNatClampNeg) y4.toNatClampNeg) + (((G.1 x1.toNatClampNeg) x2.toNatClampNeg) + ((G.2.1 x1.toNatClampNeg) x2.toNatClampNeg)))))) x1 (x2 + (-1)) (G.1, va_up G.2.1 x1.toNatClampNeg (vp_updL (G.2.1 x1.toNatClampNeg) y4.toNatClampNeg (((G.2.1 x1.toNatClampNeg) y4.toNatClampNeg) + (((G.1 x1.toNatClampNeg) x2.toNatClampNeg) + ((G.2.1 x1.toNatClampNeg) x2.toNatClampNeg)))), G.2.2.1, G.2.2.2) _ H ⟨(pu_n (by omega) xO.1), (pu_n (by omega) xO.2.1), (pu_n (by omega) xO.2.2.1), (pu_n (by omega) xO.2.2.2.1), (pu_n (by omega) xO.2.2.2.2.1), (pu_n (by omega) xO.2.2.2.2.2.1), (pu_n (by omega) xO.2.2.2.2.2.2.1), (pu_n (by omega) xO.2.2.2.2.2.2.2)⟩ ⟨(pu_n (by omega) xS.1), (pu_n (by omega) xS.2.1), (pu_n (by omega) xS.2.2.1), (pu_n (by omega) xS.2.2.2.1), (by decide)⟩ ⟨(pu_n (by omega) xG.1), (pu_n (by omega) xG.2.1), (rw_keep xG.2.2.1 (by omega)), (pu_n (by omega) xG.2.2.2.1), (rw_put (b := 55) (X := x1.toNatClampNeg) xG.2.2.2.2.1 (vp_lt v6)), (pu_n (by omega) xG.2.2.2.2.2.1), (rw_keep xG.2.2.2.2.2.2.1 (by omega)), (pu_n (by omega) xG.2.2.2.2.2.2.2)⟩).mono (fun r h9 q9 => ?_)
          obtain ⟨q9r, q9_0, q9f⟩ := q9
          exact ⟨q9r, q9_0, fun k hk => (q9f k hk).trans (by rw [pu_x (show k ≠ 55 + x1.toNatClampNeg from fun e => by have := hk; simp at this; omega)])⟩
def fX2_countHung (n : Nat) (G : tG) (q : Int32) (O : tO) (S : tS) : Option (tG) := (if q < 0 ∨ 8 ≤ q.toNatClampNeg then none else lX2_countHung_20 n O S n q ((fX3_size O) - 1) (G.1, va_up G.2.1 q.toNatClampNeg (p_fill (G.2.1 q.toNatClampNeg) 0), G.2.2.1, G.2.2.2))
theorem spX2_countHung {d n : Nat} {h : pH} {G : tG} {O : tO} {S : tS} (xG : isG h G) (xO : isO h O) (xS : isS h 36 S) (q : Int32) {res : tG} (H : fX2_countHung n G q O S = some res) : Ev (d + 3) mX2_countHung (h, 0, [(0, .ref 44), (1, .int q)], []) (fun r h1 => r = none ∧ isG h1 res ∧ fr [(44, 73)] h h1) := by
  unfold fX2_countHung at H
  refine Ev.go 1 (s' := (h, 1, [(0, .ref 44), (1, .int q)], [.ref 44])) rfl ?_
  refine Ev.get rfl (by decide) xG.1 rfl ?_
  refine Ev.go 1 (s' := (h, 5, [(0, .ref 44), (1, .int q)], [.int q, .ref 54])) rfl ?_
  have v1 : vp_in q 8 := fun q => by rw [if_pos q] at H; cases H
  rw [if_neg v1] at H
  refine Ev.aald rfl (by decide) xG.2.2.2.1 v1 (p_rowAt v1) ?_
  have := vp_lt v1
  refine Ev.go 1 (s' := (h, 7, [(0, .ref 44), (1, .int q)], [.long 0, .ref (55 + q.toNatClampNeg)])) rfl ?_
  refine Ev.callU rfl rfl rfl rfl rfl (Nat.le_of_ble_eq_true rfl) (spJ7_fill (by show _ < 89; omega) (xG.2.2.2.2.1 q.toNatClampNeg (vp_lt v1)) 0) ?_
  refine Ev.go 1 (s' := ((pu h (55 + q.toNatClampNeg) (eJ 24 (p_fill (G.2.1 q.toNatClampNeg) 0))), 11, [(0, .ref 44), (1, .int q)], [.ref 44])) rfl ?_
  refine Ev.get rfl (by decide) (pu_n (by omega) xG.1) rfl ?_
  refine Ev.callE rfl rfl rfl (p_argsV (by decide) (pu_n (by omega) xO.1) (Nat.le_of_ble_eq_true rfl)) rfl (Nat.le_of_ble_eq_true rfl) (spX3_size (h := (pu h (55 + q.toNatClampNeg) (eJ 24 (p_fill (G.2.1 q.toNatClampNeg) 0)))) (O := O) ⟨(pu_n (by omega) xO.1), (pu_n (by omega) xO.2.1), (pu_n (by omega) xO.2.2.1), (pu_n (by omega) xO.2.2.2.1), (pu_n (by omega) xO.2.2.2.2.1), (pu_n (by omega) xO.2.2.2.2.2.1), (pu_n (by omega) xO.2.2.2.2.2.2.1), (pu_n (by omega) xO.2.2.2.2.2.2.2)⟩ ) ?_
  refine Ev.go 3 (s' := ((pu h (55 + q.toNatClampNeg) (eJ 24 (p_fill (G.2.1 q.toNatClampNeg) 0))), 20, [(0, .ref 44), (1, .int q), (2, .int ((fX3_size O) - 1))], [])) rfl ?_
  refine Ev.live rfl (lv' := [(0, .ref 44), (1, .int q), (2, .int ((fX3_size O) - 1))]) rfl ?_
  refine (llX2_countHung_20 n (pu h (55 + q.toNatClampNeg) (eJ 24 (p_fill (G.2.1 q.toNatClampNeg) 0))) q ((fX3_size O) - 1) (G.1, va_up G.2.1 q.toNatClampNeg (p_fill (G.2.1 q.toNatClampNeg) 0), G.2.2.1, G.2.2.2) _ H ⟨(pu_n (by omega) xO.1), (pu_n (by omega) xO.2.1), (pu_n (by omega) xO.2.2.1), (pu_n (by omega) xO.2.2.2.1), (pu_n (by omega) xO.2.2.2.2.1), (pu_n (by omega) xO.2.2.2.2.2.1), (pu_n (by omega) xO.2.2.2.2.2.2.1), (pu_n (by omega) xO.2.2.2.2.2.2.2)⟩ ⟨(pu_n (by omega) xS.1), (pu_n (by omega) xS.2.1), (pu_n (by omega) xS.2.2.1), (pu_n (by omega) xS.2.2.2.1), (by decide)⟩ ⟨(pu_n (by omega) xG.1), (pu_n (by omega) xG.2.1), (rw_keep xG.2.2.1 (by omega)), (pu_n (by omega) xG.2.2.2.1), (rw_put (b := 55) (X := q.toNatClampNeg) xG.2.2.2.2.1 (vp_lt v1)), (pu_n (by omega) xG.2.2.2.2.2.1), (rw_keep xG.2.2.2.2.2.2.1 (by omega)), (pu_n (by omega) xG.2.2.2.2.2.2.2)⟩).mono (fun r h9 q9 => ?_)
  obtain ⟨q9r, q9_0, q9f⟩ := q9
  exact ⟨q9r, q9_0, fun k hk => (q9f k hk).trans (by rw [pu_x (show k ≠ 55 + q.toNatClampNeg from fun e => by have := hk; simp at this; omega)])⟩
def lX2_countRest_2 (n : Nat) (T : tT) (O : tO) (S : tS) : Nat → Int32 → Int32 → Int32 → tG → Option (tG)
  | 0, _, _, _, _ => none
  | m + 1, x1, x2, x3, G => (if (fX3_size O) ≤ x3 then some G else (if 0 ≤ x1 then (if x1 < 0 ∨ 8 ≤ x1.toNatClampNeg then none else (if x3 < 0 ∨ 24 ≤ x3.toNatClampNeg then none else ((fX2_product n G x1 x2 x3 T O S).bind fun y6 => lX2_countRest_2 n T O S m x1 x2 (x3 + 1) (G.1, G.2.1, G.2.2.1, vp_updL G.2.2.2 x3.toNatClampNeg (((G.2.2.1 x1.toNatClampNeg) x3.toNatClampNeg) * y6))))) else (if x3 < 0 ∨ 24 ≤ x3.toNatClampNeg then none else lX2_countRest_2 n T O S m x1 x2 (x3 + 1) (G.1, G.2.1, G.2.2.1, vp_updL G.2.2.2 x3.toNatClampNeg 0))))
theorem llX2_countRest_2 {d n : Nat} {T : tT} {O : tO} {S : tS} : ∀ (m : Nat) (h : pH) (x1 : Int32) (x2 : Int32) (x3 : Int32) (G : tG) (res : tG), lX2_countRest_2 n T O S m x1 x2 x3 G = some res → isT h 7 T → isO h O → isS h 36 S → isG h G → Ev (d + 3) mX2_countRest (h, 2, [(0, .ref 44), (1, .int x1), (2, .int x2), (3, .int x3)], []) (fun r h1 => r = none ∧ isG h1 res ∧ fr [(44, 73)] h h1)
  | 0, h, x1, x2, x3, G, res, H, _, _, _, _ => by cases H
  | m + 1, h, x1, x2, x3, G, res, H, xT, xO, xS, xG => by
    have H : (if (fX3_size O) ≤ x3 then some G else (if 0 ≤ x1 then (if x1 < 0 ∨ 8 ≤ x1.toNatClampNeg then none else (if x3 < 0 ∨ 24 ≤ x3.toNatClampNeg then none else ((fX2_product n G x1 x2 x3 T O S).bind fun y6 => lX2_countRest_2 n T O S m x1 x2 (x3 + 1) (G.1, G.2.1, G.2.2.1, vp_updL G.2.2.2 x3.toNatClampNeg (((G.2.2.1 x1.toNatClampNeg) x3.toNatClampNeg) * y6))))) else (if x3 < 0 ∨ 24 ≤ x3.toNatClampNeg then none else lX2_countRest_2 n T O S m x1 x2 (x3 + 1) (G.1, G.2.1, G.2.2.1, vp_updL G.2.2.2 x3.toNatClampNeg 0)))) = some res := H
    refine Ev.go 2 (s' := (h, 4, [(0, .ref 44), (1, .int x1), (2, .int x2), (3, .int x3)], [.ref 44, .int x3])) rfl ?_
    refine Ev.get rfl (by decide) xG.1 rfl ?_
    refine Ev.callE rfl rfl rfl (p_argsV (by decide) xO.1 (Nat.le_of_ble_eq_true rfl)) rfl (Nat.le_of_ble_eq_true rfl) (spX3_size xO ) ?_
    refine Ev.if2 rfl (fun c1 => ?_) (fun c1 => ?_)
    · have c1 : (fX3_size O) ≤ x3 := c1
      rw [if_pos c1] at H
      cases H
      exact Ev.ret rfl rfl rfl ⟨rfl, xG, (fun k _ => rfl)⟩
    · have c1 : ¬ ((fX3_size O) ≤ x3) := c1
      rw [if_neg c1] at H
      refine Ev.go 1 (s' := (h, 14, [(0, .ref 44), (1, .int x1), (2, .int x2), (3, .int x3)], [.ref 44])) rfl ?_
      refine Ev.get rfl (by decide) xG.1 rfl ?_
      refine Ev.go 2 (s' := (h, 19, [(0, .ref 44), (1, .int x1), (2, .int x2), (3, .int x3)], [.int x1, .int x3, .ref 72])) rfl ?_
      refine Ev.if1 rfl (fun c2 => ?_) (fun c2 => ?_)
      · have c2 : 0 ≤ x1 := c2
        rw [if_pos c2] at H
        refine Ev.go 1 (s' := (h, 27, [(0, .ref 44), (1, .int x1), (2, .int x2), (3, .int x3)], [.ref 44, .int x3, .ref 72])) rfl ?_
        refine Ev.get rfl (by decide) xG.1 rfl ?_
        refine Ev.go 1 (s' := (h, 31, [(0, .ref 44), (1, .int x1), (2, .int x2), (3, .int x3)], [.int x1, .ref 63, .int x3, .ref 72])) rfl ?_
        have v3 : vp_in x1 8 := fun q => by rw [if_pos q] at H; cases H
        rw [if_neg v3] at H
        refine Ev.aald rfl (by decide) xG.2.2.2.2.2.1 v3 (p_rowAt v3) ?_
        have := vp_lt v3
        refine Ev.go 1 (s' := (h, 33, [(0, .ref 44), (1, .int x1), (2, .int x2), (3, .int x3)], [.int x3, .ref (64 + x1.toNatClampNeg), .int x3, .ref 72])) rfl ?_
        have v4 : vp_in x3 24 := fun q => by rw [if_pos q] at H; cases H
        rw [if_neg v4] at H
        refine Ev.lald rfl (by show _ < 89; omega) (xG.2.2.2.2.2.2.1 x1.toNatClampNeg (vp_lt v3)) v4 ?_
        refine Ev.go 4 (s' := (h, 38, [(0, .ref 44), (1, .int x1), (2, .int x2), (3, .int x3)], [.int x3, .int x2, .int x1, .ref 44, .long ((G.2.2.1 x1.toNatClampNeg) x3.toNatClampNeg), .int x3, .ref 72])) rfl ?_
        obtain ⟨y6, e5, H⟩ := Option.bind_eq_some_iff.mp H
        refine Ev.callE rfl rfl rfl (p_argsV (by decide) xG.1 (Nat.le_of_ble_eq_true rfl)) rfl (Nat.le_of_ble_eq_true rfl) (spX2_product xG xT xO xS x1 x2 x3 e5) ?_
        refine Ev.go 1 (s' := (h, 42, [(0, .ref 44), (1, .int x1), (2, .int x2), (3, .int x3)], [.long (((G.2.2.1 x1.toNatClampNeg) x3.toNatClampNeg) * y6), .int x3, .ref 72])) rfl ?_
        refine Ev.last rfl (by decide) xG.2.2.2.2.2.2.2 v4 ?_
        refine Ev.go 2 (s' := ((pu h 72 (eJ 24 (vp_updL G.2.2.2 x3.toNatClampNeg (((G.2.2.1 x1.toNatClampNeg) x3.toNatClampNeg) * y6)))), 2, [(0, .ref 44), (1, .int x1), (2, .int x2), (3, .int (x3 + 1))], [])) rfl ?_
        refine Ev.live rfl (lv' := [(0, .ref 44), (1, .int x1), (2, .int x2), (3, .int (x3 + 1))]) rfl ?_
        refine (llX2_countRest_2 m (pu h 72 (eJ 24 (vp_updL G.2.2.2 x3.toNatClampNeg (((G.2.2.1 x1.toNatClampNeg) x3.toNatClampNeg) * y6)))) x1 x2 (x3 + 1) (G.1, G.2.1, G.2.2.1, vp_updL G.2.2.2 x3.toNatClampNeg (((G.2.2.1 x1.toNatClampNeg) x3.toNatClampNeg) * y6)) _ H ⟨(pu_n (by decide) xT.1), (pu_n (by decide) xT.2.1), (pu_n (by decide) xT.2.2.1), (pu_n (by decide) xT.2.2.2.1), (by decide)⟩ ⟨(pu_n (by decide) xO.1), (pu_n (by decide) xO.2.1), (pu_n (by decide) xO.2.2.1), (pu_n (by decide) xO.2.2.2.1), (pu_n (by decide) xO.2.2.2.2.1), (pu_n (by decide) xO.2.2.2.2.2.1), (pu_n (by decide) xO.2.2.2.2.2.2.1), (pu_n (by decide) xO.2.2.2.2.2.2.2)⟩ ⟨(pu_n (by decide) xS.1), (pu_n (by decide) xS.2.1), (pu_n (by decide) xS.2.2.1), (pu_n (by decide) xS.2.2.2.1), (by decide)⟩ ⟨(pu_n (by decide) xG.1), (pu_n (by decide) xG.2.1), (rw_keep xG.2.2.1 (by omega)), (pu_n (by decide) xG.2.2.2.1), (rw_keep xG.2.2.2.2.1 (by omega)), (pu_n (by decide) xG.2.2.2.2.2.1), (rw_keep xG.2.2.2.2.2.2.1 (by omega)), pu_s⟩).mono (fun r h9 q9 => ?_)
        obtain ⟨q9r, q9_0, q9f⟩ := q9
        exact ⟨q9r, q9_0, fun k hk => (q9f k hk).trans (by rw [pu_x (show k ≠ 72 from fun e => by have := hk; simp at this; omega)])⟩
      · have c2 : ¬ (0 ≤ x1) := c2
        rw [if_neg c2] at H
        refine Ev.go 2 (s' := (h, 42, [(0, .ref 44), (1, .int x1), (2, .int x2), (3, .int x3)], [.long 0, .int x3, .ref 72])) rfl ?_
        have v7 : vp_in x3 24 := fun q => by rw [if_pos q] at H; cases H
        rw [if_neg v7] at H
        refine Ev.last rfl (by decide) xG.2.2.2.2.2.2.2 v7 ?_
        refine Ev.go 2 (s' := ((pu h 72 (eJ 24 (vp_updL G.2.2.2 x3.toNatClampNeg 0))), 2, [(0, .ref 44), (1, .int x1), (2, .int x2), (3, .int (x3 + 1))], [])) rfl ?_
        refine Ev.live rfl (lv' := [(0, .ref 44), (1, .int x1), (2, .int x2), (3, .int (x3 + 1))]) rfl ?_
        refine (llX2_countRest_2 m (pu h 72 (eJ 24 (vp_updL G.2.2.2 x3.toNatClampNeg 0))) x1 x2 (x3 + 1) (G.1, G.2.1, G.2.2.1, vp_updL G.2.2.2 x3.toNatClampNeg 0) _ H ⟨(pu_n (by decide) xT.1), (pu_n (by decide) xT.2.1), (pu_n (by decide) xT.2.2.1), (pu_n (by decide) xT.2.2.2.1), (by decide)⟩ ⟨(pu_n (by decide) xO.1), (pu_n (by decide) xO.2.1), (pu_n (by decide) xO.2.2.1), (pu_n (by decide) xO.2.2.2.1), (pu_n (by decide) xO.2.2.2.2.1), (pu_n (by decide) xO.2.2.2.2.2.1), (pu_n (by decide) xO.2.2.2.2.2.2.1), (pu_n (by decide) xO.2.2.2.2.2.2.2)⟩ ⟨(pu_n (by decide) xS.1), (pu_n (by decide) xS.2.1), (pu_n (by decide) xS.2.2.1), (pu_n (by decide) xS.2.2.2.1), (by decide)⟩ ⟨(pu_n (by decide) xG.1), (pu_n (by decide) xG.2.1), (rw_keep xG.2.2.1 (by omega)), (pu_n (by decide) xG.2.2.2.1), (rw_keep xG.2.2.2.2.1 (by omega)), (pu_n (by decide) xG.2.2.2.2.2.1), (rw_keep xG.2.2.2.2.2.2.1 (by omega)), pu_s⟩).mono (fun r h9 q9 => ?_)
        obtain ⟨q9r, q9_0, q9f⟩ := q9
        exact ⟨q9r, q9_0, fun k hk => (q9f k hk).trans (by rw [pu_x (show k ≠ 72 from fun e => by have := hk; simp at this; omega)])⟩
def fX2_countRest (n : Nat) (G : tG) (q : Int32) (without : Int32) (T : tT) (O : tO) (S : tS) : Option (tG) := lX2_countRest_2 n T O S n q without 0 G
theorem spX2_countRest {d n : Nat} {h : pH} {G : tG} {T : tT} {O : tO} {S : tS} (xG : isG h G) (xT : isT h 7 T) (xO : isO h O) (xS : isS h 36 S) (q : Int32) (without : Int32) {res : tG} (H : fX2_countRest n G q without T O S = some res) : Ev (d + 3) mX2_countRest (h, 0, [(0, .ref 44), (1, .int q), (2, .int without)], []) (fun r h1 => r = none ∧ isG h1 res ∧ fr [(44, 73)] h h1) := by
  unfold fX2_countRest at H
  refine Ev.go 2 (s' := (h, 2, [(0, .ref 44), (1, .int q), (2, .int without), (3, .int 0)], [])) rfl ?_
  refine Ev.live rfl (lv' := [(0, .ref 44), (1, .int q), (2, .int without), (3, .int 0)]) rfl ?_
  exact llX2_countRest_2 n h q without 0 G _ H xT xO xS xG
def lX2_countOther_12 (n : Nat) (O : tO) (S : tS) : Nat → Int32 → Int32 → tG → Option (tG)
  | 0, _, _, _ => none
  | m + 1, x1, x2, G => (if (fX3_size O) ≤ x2 then some G else ((fX2_sourceOf G x1 x2 O S).bind fun y4 => (if y4 < 0 then lX2_countOther_12 n O S m x1 (x2 + 1) G else (if x1 < 0 ∨ 8 ≤ x1.toNatClampNeg then none else (if y4 < 0 ∨ 24 ≤ y4.toNatClampNeg then none else ((fX2_reachesOn G x1 S).bind fun y9 => (if y9 = 0 then (if x2 < 0 ∨ 24 ≤ x2.toNatClampNeg then none else lX2_countOther_12 n O S m x1 (x2 + 1) (G.1, G.2.1, va_up G.2.2.1 x1.toNatClampNeg (vp_updL (G.2.2.1 x1.toNatClampNeg) x2.toNatClampNeg ((G.2.2.2 y4.toNatClampNeg) + 0)), G.2.2.2)) else (if x2 < 0 ∨ 24 ≤ x2.toNatClampNeg then none else lX2_countOther_12 n O S m x1 (x2 + 1) (G.1, G.2.1, va_up G.2.2.1 x1.toNatClampNeg (vp_updL (G.2.2.1 x1.toNatClampNeg) x2.toNatClampNeg ((G.2.2.2 y4.toNatClampNeg) + ((G.2.2.1 x1.toNatClampNeg) y4.toNatClampNeg))), G.2.2.2)))))))))
theorem llX2_countOther_12 {d n : Nat} {O : tO} {S : tS} : ∀ (m : Nat) (h : pH) (x1 : Int32) (x2 : Int32) (G : tG) (res : tG), lX2_countOther_12 n O S m x1 x2 G = some res → isO h O → isS h 36 S → isG h G → Ev (d + 3) mX2_countOther (h, 12, [(0, .ref 44), (1, .int x1), (2, .int x2)], []) (fun r h1 => r = none ∧ isG h1 res ∧ fr [(44, 73)] h h1)
  | 0, h, x1, x2, G, res, H, _, _, _ => by cases H
  | m + 1, h, x1, x2, G, res, H, xO, xS, xG => by
    have H : (if (fX3_size O) ≤ x2 then some G else ((fX2_sourceOf G x1 x2 O S).bind fun y4 => (if y4 < 0 then lX2_countOther_12 n O S m x1 (x2 + 1) G else (if x1 < 0 ∨ 8 ≤ x1.toNatClampNeg then none else (if y4 < 0 ∨ 24 ≤ y4.toNatClampNeg then none else ((fX2_reachesOn G x1 S).bind fun y9 => (if y9 = 0 then (if x2 < 0 ∨ 24 ≤ x2.toNatClampNeg then none else lX2_countOther_12 n O S m x1 (x2 + 1) (G.1, G.2.1, va_up G.2.2.1 x1.toNatClampNeg (vp_updL (G.2.2.1 x1.toNatClampNeg) x2.toNatClampNeg ((G.2.2.2 y4.toNatClampNeg) + 0)), G.2.2.2)) else (if x2 < 0 ∨ 24 ≤ x2.toNatClampNeg then none else lX2_countOther_12 n O S m x1 (x2 + 1) (G.1, G.2.1, va_up G.2.2.1 x1.toNatClampNeg (vp_updL (G.2.2.1 x1.toNatClampNeg) x2.toNatClampNeg ((G.2.2.2 y4.toNatClampNeg) + ((G.2.2.1 x1.toNatClampNeg) y4.toNatClampNeg))), G.2.2.2))))))))) = some res := H
    refine Ev.go 2 (s' := (h, 14, [(0, .ref 44), (1, .int x1), (2, .int x2)], [.ref 44, .int x2])) rfl ?_
    refine Ev.get rfl (by decide) xG.1 rfl ?_
    refine Ev.callE rfl rfl rfl (p_argsV (by decide) xO.1 (Nat.le_of_ble_eq_true rfl)) rfl (Nat.le_of_ble_eq_true rfl) (spX3_size xO ) ?_
    refine Ev.if2 rfl (fun c2 => ?_) (fun c2 => ?_)
    · have c2 : (fX3_size O) ≤ x2 := c2
      rw [if_pos c2] at H
      cases H
      exact Ev.ret rfl rfl rfl ⟨rfl, xG, (fun k _ => rfl)⟩
    · have c2 : ¬ ((fX3_size O) ≤ x2) := c2
      rw [if_neg c2] at H
      refine Ev.go 3 (s' := (h, 26, [(0, .ref 44), (1, .int x1), (2, .int x2)], [.int x2, .int x1, .ref 44])) rfl ?_
      obtain ⟨y4, e3, H⟩ := Option.bind_eq_some_iff.mp H
      refine Ev.callE rfl rfl rfl (p_argsV (by decide) xG.1 (Nat.le_of_ble_eq_true rfl)) rfl (Nat.le_of_ble_eq_true rfl) (spX2_sourceOf xG xO xS x1 x2 e3) ?_
      refine Ev.go 2 (s' := (h, 31, [(0, .ref 44), (1, .int x1), (2, .int x2), (3, .int y4)], [.int y4])) rfl ?_
      refine Ev.if1 rfl (fun c5 => ?_) (fun c5 => ?_)
      · have c5 : y4 < 0 := c5
        rw [if_pos c5] at H
        refine Ev.go 2 (s' := (h, 12, [(0, .ref 44), (1, .int x1), (2, .int (x2 + 1)), (3, .int y4)], [])) rfl ?_
        refine Ev.live rfl (lv' := [(0, .ref 44), (1, .int x1), (2, .int (x2 + 1))]) rfl ?_
        exact llX2_countOther_12 m h x1 (x2 + 1) G _ H xO xS xG
      · have c5 : ¬ (y4 < 0) := c5
        rw [if_neg c5] at H
        refine Ev.go 1 (s' := (h, 35, [(0, .ref 44), (1, .int x1), (2, .int x2), (3, .int y4)], [.ref 44])) rfl ?_
        refine Ev.get rfl (by decide) xG.1 rfl ?_
        refine Ev.go 1 (s' := (h, 39, [(0, .ref 44), (1, .int x1), (2, .int x2), (3, .int y4)], [.int x1, .ref 63])) rfl ?_
        have v6 : vp_in x1 8 := fun q => by rw [if_pos q] at H; cases H
        rw [if_neg v6] at H
        refine Ev.aald rfl (by decide) xG.2.2.2.2.2.1 v6 (p_rowAt v6) ?_
        have := vp_lt v6
        refine Ev.go 2 (s' := (h, 42, [(0, .ref 44), (1, .int x1), (2, .int x2), (3, .int y4)], [.ref 44, .int x2, .ref (64 + x1.toNatClampNeg)])) rfl ?_
        refine Ev.get rfl (by decide) xG.1 rfl ?_
        refine Ev.go 1 (s' := (h, 46, [(0, .ref 44), (1, .int x1), (2, .int x2), (3, .int y4)], [.int y4, .ref 72, .int x2, .ref (64 + x1.toNatClampNeg)])) rfl ?_
        have v7 : vp_in y4 24 := fun q => by rw [if_pos q] at H; cases H
        rw [if_neg v7] at H
        refine Ev.lald rfl (by decide) xG.2.2.2.2.2.2.2 v7 ?_
        refine Ev.go 2 (s' := (h, 49, [(0, .ref 44), (1, .int x1), (2, .int x2), (3, .int y4)], [.int x1, .ref 44, .long (G.2.2.2 y4.toNatClampNeg), .int x2, .ref (64 + x1.toNatClampNeg)])) rfl ?_
        obtain ⟨y9, e8, H⟩ := Option.bind_eq_some_iff.mp H
        refine Ev.callE rfl rfl rfl (p_argsV (by decide) xG.1 (Nat.le_of_ble_eq_true rfl)) rfl (Nat.le_of_ble_eq_true rfl) (spX2_reachesOn xG xS x1 e8) ?_
        refine Ev.if1 rfl (fun c10 => ?_) (fun c10 => ?_)
        · have c10 : y9 = 0 := c10
          rw [if_pos c10] at H
          refine Ev.go 2 (s' := (h, 68, [(0, .ref 44), (1, .int x1), (2, .int x2), (3, .int y4)], [.long ((G.2.2.2 y4.toNatClampNeg) + 0), .int x2, .ref (64 + x1.toNatClampNeg)])) rfl ?_
          have v11 : vp_in x2 24 := fun q => by rw [if_pos q] at H; cases H
          rw [if_neg v11] at H
          refine Ev.last rfl (by show _ < 89; omega) (xG.2.2.2.2.2.2.1 x1.toNatClampNeg (vp_lt v6)) v11 ?_
          refine Ev.go 2 (s' := ((pu h (64 + x1.toNatClampNeg) (eJ 24 (vp_updL (G.2.2.1 x1.toNatClampNeg) x2.toNatClampNeg ((G.2.2.2 y4.toNatClampNeg) + 0)))), 12, [(0, .ref 44), (1, .int x1), (2, .int (x2 + 1)), (3, .int y4)], [])) rfl ?_
          refine Ev.live rfl (lv' := [(0, .ref 44), (1, .int x1), (2, .int (x2 + 1))]) rfl ?_
          refine (llX2_countOther_12 m (pu h (64 + x1.toNatClampNeg) (eJ 24 (vp_updL (G.2.2.1 x1.toNatClampNeg) x2.toNatClampNeg ((G.2.2.2 y4.toNatClampNeg) + 0)))) x1 (x2 + 1) (G.1, G.2.1, va_up G.2.2.1 x1.toNatClampNeg (vp_updL (G.2.2.1 x1.toNatClampNeg) x2.toNatClampNeg ((G.2.2.2 y4.toNatClampNeg) + 0)), G.2.2.2) _ H ⟨(pu_n (by omega) xO.1), (pu_n (by omega) xO.2.1), (pu_n (by omega) xO.2.2.1), (pu_n (by omega) xO.2.2.2.1), (pu_n (by omega) xO.2.2.2.2.1), (pu_n (by omega) xO.2.2.2.2.2.1), (pu_n (by omega) xO.2.2.2.2.2.2.1), (pu_n (by omega) xO.2.2.2.2.2.2.2)⟩ ⟨(pu_n (by omega) xS.1), (pu_n (by omega) xS.2.1), (pu_n (by omega) xS.2.2.1), (pu_n (by omega) xS.2.2.2.1), (by decide)⟩ ⟨(pu_n (by omega) xG.1), (pu_n (by omega) xG.2.1), (rw_keep xG.2.2.1 (by omega)), (pu_n (by omega) xG.2.2.2.1), (rw_keep xG.2.2.2.2.1 (by omega)), (pu_n (by omega) xG.2.2.2.2.2.1), (rw_put (b := 64) (X := x1.toNatClampNeg) xG.2.2.2.2.2.2.1 (vp_lt v6)), (pu_n (by omega) xG.2.2.2.2.2.2.2)⟩).mono (fun r h9 q9 => ?_)
          obtain ⟨q9r, q9_0, q9f⟩ := q9
          exact ⟨q9r, q9_0, fun k hk => (q9f k hk).trans (by rw [pu_x (show k ≠ 64 + x1.toNatClampNeg from fun e => by have := hk; simp at this; omega)])⟩
        · have c10 : ¬ (y9 = 0) := c10
          rw [if_neg c10] at H
          refine Ev.go 1 (s' := (h, 56, [(0, .ref 44), (1, .int x1), (2, .int x2), (3, .int y4)], [.ref 44, .long (G.2.2.2 y4.toNatClampNeg), .int x2, .ref (64 + x1.toNatClampNeg)])) rfl ?_
          refine Ev.get rfl (by decide) xG.1 rfl ?_
          refine Ev.go 1 (s' := (h, 60, [(0, .ref 44), (1, .int x1), (2, .int x2), (3, .int y4)], [.int x1, .ref 63, .long (G.2.2.2 y4.toNatClampNeg), .int x2, .ref (64 + x1.toNatClampNeg)])) rfl ?_
          refine Ev.aald rfl (by decide) xG.2.2.2.2.2.1 v6 (p_rowAt v6) ?_
          have := vp_lt v6
          refine Ev.go 1 (s' := (h, 62, [(0, .ref 44), (1, .int x1), (2, .int x2), (3, .int y4)], [.int y4, .ref (64 + x1.toNatClampNeg), .long (G.2.2.2 y4.toNatClampNeg), .int x2, .ref (64 + x1.toNatClampNeg)])) rfl ?_
          refine Ev.lald rfl (by show _ < 89; omega) (xG.2.2.2.2.2.2.1 x1.toNatClampNeg (vp_lt v6)) v7 ?_
          refine Ev.go 2 (s' := (h, 68, [(0, .ref 44), (1, .int x1), (2, .int x2), (3, .int y4)], [.long ((G.2.2.2 y4.toNatClampNeg) + ((G.2.2.1 x1.toNatClampNeg) y4.toNatClampNeg)), .int x2, .ref (64 + x1.toNatClampNeg)])) rfl ?_
          have v12 : vp_in x2 24 := fun q => by rw [if_pos q] at H; cases H
          rw [if_neg v12] at H
          refine Ev.last rfl (by show _ < 89; omega) (xG.2.2.2.2.2.2.1 x1.toNatClampNeg (vp_lt v6)) v12 ?_
          refine Ev.go 2 (s' := ((pu h (64 + x1.toNatClampNeg) (eJ 24 (vp_updL (G.2.2.1 x1.toNatClampNeg) x2.toNatClampNeg ((G.2.2.2 y4.toNatClampNeg) + ((G.2.2.1 x1.toNatClampNeg) y4.toNatClampNeg))))), 12, [(0, .ref 44), (1, .int x1), (2, .int (x2 + 1)), (3, .int y4)], [])) rfl ?_
          refine Ev.live rfl (lv' := [(0, .ref 44), (1, .int x1), (2, .int (x2 + 1))]) rfl ?_
          refine (llX2_countOther_12 m (pu h (64 + x1.toNatClampNeg) (eJ 24 (vp_updL (G.2.2.1 x1.toNatClampNeg) x2.toNatClampNeg ((G.2.2.2 y4.toNatClampNeg) + ((G.2.2.1 x1.toNatClampNeg) y4.toNatClampNeg))))) x1 (x2 + 1) (G.1, G.2.1, va_up G.2.2.1 x1.toNatClampNeg (vp_updL (G.2.2.1 x1.toNatClampNeg) x2.toNatClampNeg ((G.2.2.2 y4.toNatClampNeg) + ((G.2.2.1 x1.toNatClampNeg) y4.toNatClampNeg))), G.2.2.2) _ H ⟨(pu_n (by omega) xO.1), (pu_n (by omega) xO.2.1), (pu_n (by omega) xO.2.2.1), (pu_n (by omega) xO.2.2.2.1), (pu_n (by omega) xO.2.2.2.2.1), (pu_n (by omega) xO.2.2.2.2.2.1), (pu_n (by omega) xO.2.2.2.2.2.2.1), (pu_n (by omega) xO.2.2.2.2.2.2.2)⟩ ⟨(pu_n (by omega) xS.1), (pu_n (by omega) xS.2.1), (pu_n (by omega) xS.2.2.1), (pu_n (by omega) xS.2.2.2.1), (by decide)⟩ ⟨(pu_n (by omega) xG.1), (pu_n (by omega) xG.2.1), (rw_keep xG.2.2.1 (by omega)), (pu_n (by omega) xG.2.2.2.1), (rw_keep xG.2.2.2.2.1 (by omega)), (pu_n (by omega) xG.2.2.2.2.2.1), (rw_put (b := 64) (X := x1.toNatClampNeg) xG.2.2.2.2.2.2.1 (vp_lt v6)), (pu_n (by omega) xG.2.2.2.2.2.2.2)⟩).mono (fun r h9 q9 => ?_)
          obtain ⟨q9r, q9_0, q9f⟩ := q9
          exact ⟨q9r, q9_0, fun k hk => (q9f k hk).trans (by rw [pu_x (show k ≠ 64 + x1.toNatClampNeg from fun e => by have := hk; simp at this; omega)])⟩
def fX2_countOther (n : Nat) (G : tG) (q : Int32) (O : tO) (S : tS) : Option (tG) := (if q < 0 ∨ 8 ≤ q.toNatClampNeg then none else lX2_countOther_12 n O S n q 1 (G.1, G.2.1, va_up G.2.2.1 q.toNatClampNeg (p_fill (G.2.2.1 q.toNatClampNeg) 0), G.2.2.2))
theorem spX2_countOther {d n : Nat} {h : pH} {G : tG} {O : tO} {S : tS} (xG : isG h G) (xO : isO h O) (xS : isS h 36 S) (q : Int32) {res : tG} (H : fX2_countOther n G q O S = some res) : Ev (d + 3) mX2_countOther (h, 0, [(0, .ref 44), (1, .int q)], []) (fun r h1 => r = none ∧ isG h1 res ∧ fr [(44, 73)] h h1) := by
  unfold fX2_countOther at H
  refine Ev.go 1 (s' := (h, 1, [(0, .ref 44), (1, .int q)], [.ref 44])) rfl ?_
  refine Ev.get rfl (by decide) xG.1 rfl ?_
  refine Ev.go 1 (s' := (h, 5, [(0, .ref 44), (1, .int q)], [.int q, .ref 63])) rfl ?_
  have v1 : vp_in q 8 := fun q => by rw [if_pos q] at H; cases H
  rw [if_neg v1] at H
  refine Ev.aald rfl (by decide) xG.2.2.2.2.2.1 v1 (p_rowAt v1) ?_
  have := vp_lt v1
  refine Ev.go 1 (s' := (h, 7, [(0, .ref 44), (1, .int q)], [.long 0, .ref (64 + q.toNatClampNeg)])) rfl ?_
  refine Ev.callU rfl rfl rfl rfl rfl (Nat.le_of_ble_eq_true rfl) (spJ7_fill (by show _ < 89; omega) (xG.2.2.2.2.2.2.1 q.toNatClampNeg (vp_lt v1)) 0) ?_
  refine Ev.go 2 (s' := ((pu h (64 + q.toNatClampNeg) (eJ 24 (p_fill (G.2.2.1 q.toNatClampNeg) 0))), 12, [(0, .ref 44), (1, .int q), (2, .int 1)], [])) rfl ?_
  refine Ev.live rfl (lv' := [(0, .ref 44), (1, .int q), (2, .int 1)]) rfl ?_
  refine (llX2_countOther_12 n (pu h (64 + q.toNatClampNeg) (eJ 24 (p_fill (G.2.2.1 q.toNatClampNeg) 0))) q 1 (G.1, G.2.1, va_up G.2.2.1 q.toNatClampNeg (p_fill (G.2.2.1 q.toNatClampNeg) 0), G.2.2.2) _ H ⟨(pu_n (by omega) xO.1), (pu_n (by omega) xO.2.1), (pu_n (by omega) xO.2.2.1), (pu_n (by omega) xO.2.2.2.1), (pu_n (by omega) xO.2.2.2.2.1), (pu_n (by omega) xO.2.2.2.2.2.1), (pu_n (by omega) xO.2.2.2.2.2.2.1), (pu_n (by omega) xO.2.2.2.2.2.2.2)⟩ ⟨(pu_n (by omega) xS.1), (pu_n (by omega) xS.2.1), (pu_n (by omega) xS.2.2.1), (pu_n (by omega) xS.2.2.2.1), (by decide)⟩ ⟨(pu_n (by omega) xG.1), (pu_n (by omega) xG.2.1), (rw_keep xG.2.2.1 (by omega)), (pu_n (by omega) xG.2.2.2.1), (rw_keep xG.2.2.2.2.1 (by omega)), (pu_n (by omega) xG.2.2.2.2.2.1), (rw_put (b := 64) (X := q.toNatClampNeg) xG.2.2.2.2.2.2.1 (vp_lt v1)), (pu_n (by omega) xG.2.2.2.2.2.2.2)⟩).mono (fun r h9 q9 => ?_)
  obtain ⟨q9r, q9_0, q9f⟩ := q9
  exact ⟨q9r, q9_0, fun k hk => (q9f k hk).trans (by rw [pu_x (show k ≠ 64 + q.toNatClampNeg from fun e => by have := hk; simp at this; omega)])⟩
def lX2_run_42 (n : Nat) (T : tT) (O : tO) (S : tS) : Nat → Int32 → tG → Option (tG)
  | 0, _, _ => none
  | m + 1, x1, G => (if (fX5_size S) ≤ x1 then some G else ((fX5_hangOf S x1).bind fun y18 => ((fX2_countRest n G y18 x1 T O S).bind fun y20 => ((fX2_countOther n y20 x1 O S).bind fun y27 => lX2_run_42 n T O S m (x1 + 1) y27))))
theorem llX2_run_42 {d n : Nat} {T : tT} {O : tO} {S : tS} : ∀ (m : Nat) (h : pH) (x1 : Int32) (G : tG) (res : tG), lX2_run_42 n T O S m x1 G = some res → isT h 7 T → isO h O → isS h 36 S → isG h G → Ev (d + 4) mX2_run (h, 42, [(0, .ref 44), (1, .int x1)], []) (fun r h1 => r = none ∧ isG h1 res ∧ fr [(44, 73)] h h1)
  | 0, h, x1, G, res, H, _, _, _, _ => by cases H
  | m + 1, h, x1, G, res, H, xT, xO, xS, xG => by
    have H : (if (fX5_size S) ≤ x1 then some G else ((fX5_hangOf S x1).bind fun y18 => ((fX2_countRest n G y18 x1 T O S).bind fun y20 => ((fX2_countOther n y20 x1 O S).bind fun y27 => lX2_run_42 n T O S m (x1 + 1) y27)))) = some res := H
    refine Ev.go 2 (s' := (h, 44, [(0, .ref 44), (1, .int x1)], [.ref 44, .int x1])) rfl ?_
    refine Ev.get rfl (by decide) xG.1 rfl ?_
    refine Ev.callE rfl rfl rfl (p_argsV (by decide) xS.1 (Nat.le_of_ble_eq_true rfl)) rfl (Nat.le_of_ble_eq_true rfl) (spX5_size xS ) ?_
    refine Ev.if2 rfl (fun c16 => ?_) (fun c16 => ?_)
    · have c16 : (fX5_size S) ≤ x1 := c16
      rw [if_pos c16] at H
      cases H
      exact Ev.ret rfl rfl rfl ⟨rfl, xG, (fun k _ => rfl)⟩
    · have c16 : ¬ ((fX5_size S) ≤ x1) := c16
      rw [if_neg c16] at H
      refine Ev.go 2 (s' := (h, 55, [(0, .ref 44), (1, .int x1)], [.ref 44, .ref 44])) rfl ?_
      refine Ev.get rfl (by decide) xG.1 rfl ?_
      refine Ev.go 1 (s' := (h, 59, [(0, .ref 44), (1, .int x1)], [.int x1, .ref 36, .ref 44])) rfl ?_
      obtain ⟨y18, e17, H⟩ := Option.bind_eq_some_iff.mp H
      refine Ev.callE rfl rfl rfl (p_argsV (by decide) xS.1 (Nat.le_of_ble_eq_true rfl)) rfl (Nat.le_of_ble_eq_true rfl) (spX5_hangOf xS x1 e17) ?_
      refine Ev.go 1 (s' := (h, 63, [(0, .ref 44), (1, .int x1)], [.int x1, .int y18, .ref 44])) rfl ?_
      obtain ⟨y20, e19, H⟩ := Option.bind_eq_some_iff.mp H
      refine Ev.call rfl rfl rfl (p_argsV (by decide) xG.1 (Nat.le_of_ble_eq_true rfl)) rfl (Nat.le_of_ble_eq_true rfl) ((spX2_countRest xG xT xO xS y18 x1 e19).mono (fun r h21 q22 => ?_))
      obtain ⟨rfl, q22_G, q22_f⟩ := q22
      have i23 : isT h21 7 T := isT.fr q22_f (fr1 (by omega)) xT
      have i24 : isO h21 O := isO.fr q22_f (fr1 (by omega)) xO
      have i25 : isS h21 36 S := isS.fr q22_f (fr1 (by omega)) xS
      refine Ev.go 2 (s' := (h21, 68, [(0, .ref 44), (1, .int x1)], [.int x1, .ref 44])) rfl ?_
      obtain ⟨y27, e26, H⟩ := Option.bind_eq_some_iff.mp H
      refine Ev.call rfl rfl rfl (p_argsV (by decide) q22_G.1 (Nat.le_of_ble_eq_true rfl)) rfl (Nat.le_of_ble_eq_true rfl) ((spX2_countOther q22_G i24 i25 x1 e26).mono (fun r h28 q29 => ?_))
      obtain ⟨rfl, q29_G, q29_f⟩ := q29
      have i30 : isT h28 7 T := isT.fr q29_f (fr1 (by omega)) i23
      have i31 : isO h28 O := isO.fr q29_f (fr1 (by omega)) i24
      have i32 : isS h28 36 S := isS.fr q29_f (fr1 (by omega)) i25
      refine Ev.go 2 (s' := (h28, 42, [(0, .ref 44), (1, .int (x1 + 1))], [])) rfl ?_
      refine Ev.live rfl (lv' := [(0, .ref 44), (1, .int (x1 + 1))]) rfl ?_
      refine (llX2_run_42 m h28 (x1 + 1) y27 _ H i30 i31 i32 q29_G).mono (fun r h9 q9 => ?_)
      obtain ⟨q9r, q9_0, q9f⟩ := q9
      exact ⟨q9r, q9_0, fun k hk => (q9f k hk).trans (by rw [q29_f k (by have := hk; simp at this ⊢; omega)]; rw [q22_f k (by have := hk; simp at this ⊢; omega)])⟩
def lX2_run_10 (n : Nat) (T : tT) (O : tO) (S : tS) : Nat → Int32 → tG → Option (tG)
  | 0, _, _ => none
  | m + 1, x1, G => (if x1 < 0 then lX2_run_42 n T O S n 1 (G.1, G.2.1, va_up G.2.2.1 0 (p_fill (G.2.2.1 0) 1), G.2.2.2) else ((fX2_countOwn n G x1 T O S).bind fun y3 => ((fX2_countHung n y3 x1 O S).bind fun y10 => lX2_run_10 n T O S m (x1 + (-1)) y10)))
theorem llX2_run_10 {d n : Nat} {T : tT} {O : tO} {S : tS} : ∀ (m : Nat) (h : pH) (x1 : Int32) (G : tG) (res : tG), lX2_run_10 n T O S m x1 G = some res → isT h 7 T → isO h O → isS h 36 S → isG h G → Ev (d + 4) mX2_run (h, 10, [(0, .ref 44), (1, .int x1)], []) (fun r h1 => r = none ∧ isG h1 res ∧ fr [(44, 73)] h h1)
  | 0, h, x1, G, res, H, _, _, _, _ => by cases H
  | m + 1, h, x1, G, res, H, xT, xO, xS, xG => by
    have H : (if x1 < 0 then lX2_run_42 n T O S n 1 (G.1, G.2.1, va_up G.2.2.1 0 (p_fill (G.2.2.1 0) 1), G.2.2.2) else ((fX2_countOwn n G x1 T O S).bind fun y3 => ((fX2_countHung n y3 x1 O S).bind fun y10 => lX2_run_10 n T O S m (x1 + (-1)) y10))) = some res := H
    refine Ev.go 1 (s' := (h, 11, [(0, .ref 44), (1, .int x1)], [.int x1])) rfl ?_
    refine Ev.if1 rfl (fun c1 => ?_) (fun c1 => ?_)
    · have c1 : x1 < 0 := c1
      rw [if_pos c1] at H
      refine Ev.go 1 (s' := (h, 31, [(0, .ref 44), (1, .int x1)], [.ref 44])) rfl ?_
      refine Ev.get rfl (by decide) xG.1 rfl ?_
      refine Ev.go 1 (s' := (h, 35, [(0, .ref 44), (1, .int x1)], [.int 0, .ref 63])) rfl ?_
      refine Ev.aald rfl (by decide) xG.2.2.2.2.2.1 (by unfold vp_in; decide) (p_rowAt (by unfold vp_in; decide)) ?_
      refine Ev.go 1 (s' := (h, 37, [(0, .ref 44), (1, .int x1)], [.long 1, .ref 64])) rfl ?_
      refine Ev.callU rfl rfl rfl rfl rfl (Nat.le_of_ble_eq_true rfl) (spJ7_fill (by decide) (xG.2.2.2.2.2.2.1 0 (by decide)) 1) ?_
      refine Ev.go 2 (s' := ((pu h 64 (eJ 24 (p_fill (G.2.2.1 0) 1))), 42, [(0, .ref 44), (1, .int 1)], [])) rfl ?_
      refine Ev.live rfl (lv' := [(0, .ref 44), (1, .int 1)]) rfl ?_
      refine (llX2_run_42 n (pu h 64 (eJ 24 (p_fill (G.2.2.1 0) 1))) 1 (G.1, G.2.1, va_up G.2.2.1 0 (p_fill (G.2.2.1 0) 1), G.2.2.2) _ H ⟨(pu_n (by decide) xT.1), (pu_n (by decide) xT.2.1), (pu_n (by decide) xT.2.2.1), (pu_n (by decide) xT.2.2.2.1), (by decide)⟩ ⟨(pu_n (by decide) xO.1), (pu_n (by decide) xO.2.1), (pu_n (by decide) xO.2.2.1), (pu_n (by decide) xO.2.2.2.1), (pu_n (by decide) xO.2.2.2.2.1), (pu_n (by decide) xO.2.2.2.2.2.1), (pu_n (by decide) xO.2.2.2.2.2.2.1), (pu_n (by decide) xO.2.2.2.2.2.2.2)⟩ ⟨(pu_n (by decide) xS.1), (pu_n (by decide) xS.2.1), (pu_n (by decide) xS.2.2.1), (pu_n (by decide) xS.2.2.2.1), (by decide)⟩ ⟨(pu_n (by decide) xG.1), (pu_n (by decide) xG.2.1), (rw_keep xG.2.2.1 (by omega)), (pu_n (by decide) xG.2.2.2.1), (rw_keep xG.2.2.2.2.1 (by omega)), (pu_n (by decide) xG.2.2.2.2.2.1), (rw_put (b := 64) (X := 0) xG.2.2.2.2.2.2.1 (by decide)), (pu_n (by decide) xG.2.2.2.2.2.2.2)⟩).mono (fun r h9 q9 => ?_)
      obtain ⟨q9r, q9_0, q9f⟩ := q9
      exact ⟨q9r, q9_0, fun k hk => (q9f k hk).trans (by rw [pu_x (show k ≠ 64 from fun e => by have := hk; simp at this; omega)])⟩
    · have c1 : ¬ (x1 < 0) := c1
      rw [if_neg c1] at H
      refine Ev.go 2 (s' := (h, 16, [(0, .ref 44), (1, .int x1)], [.int x1, .ref 44])) rfl ?_
      obtain ⟨y3, e2, H⟩ := Option.bind_eq_some_iff.mp H
      refine Ev.call rfl rfl rfl (p_argsV (by decide) xG.1 (Nat.le_of_ble_eq_true rfl)) rfl (Nat.le_of_ble_eq_true rfl) ((spX2_countOwn xG xT xO xS x1 e2).mono (fun r h4 q5 => ?_))
      obtain ⟨rfl, q5_G, q5_f⟩ := q5
      have i6 : isT h4 7 T := isT.fr q5_f (fr1 (by omega)) xT
      have i7 : isO h4 O := isO.fr q5_f (fr1 (by omega)) xO
      have i8 : isS h4 36 S := isS.fr q5_f (fr1 (by omega)) xS
      refine Ev.go 2 (s' := (h4, 21, [(0, .ref 44), (1, .int x1)], [.int x1, .ref 44])) rfl ?_
      obtain ⟨y10, e9, H⟩ := Option.bind_eq_some_iff.mp H
      refine Ev.call rfl rfl rfl (p_argsV (by decide) q5_G.1 (Nat.le_of_ble_eq_true rfl)) rfl (Nat.le_of_ble_eq_true rfl) ((spX2_countHung q5_G i7 i8 x1 e9).mono (fun r h11 q12 => ?_))
      obtain ⟨rfl, q12_G, q12_f⟩ := q12
      have i13 : isT h11 7 T := isT.fr q12_f (fr1 (by omega)) i6
      have i14 : isO h11 O := isO.fr q12_f (fr1 (by omega)) i7
      have i15 : isS h11 36 S := isS.fr q12_f (fr1 (by omega)) i8
      refine Ev.go 2 (s' := (h11, 10, [(0, .ref 44), (1, .int (x1 + (-1)))], [])) rfl ?_
      refine Ev.live rfl (lv' := [(0, .ref 44), (1, .int (x1 + (-1)))]) rfl ?_
      refine (llX2_run_10 m h11 (x1 + (-1)) y10 _ H i13 i14 i15 q12_G).mono (fun r h9 q9 => ?_)
      obtain ⟨q9r, q9_0, q9f⟩ := q9
      exact ⟨q9r, q9_0, fun k hk => (q9f k hk).trans (by rw [q12_f k (by have := hk; simp at this ⊢; omega)]; rw [q5_f k (by have := hk; simp at this ⊢; omega)])⟩
def fX2_run (n : Nat) (G : tG) (T : tT) (O : tO) (S : tS) : Option (tG) := lX2_run_10 n T O S n ((fX5_size S) - 1) G
theorem spX2_run {d n : Nat} {h : pH} {G : tG} {T : tT} {O : tO} {S : tS} (xG : isG h G) (xT : isT h 7 T) (xO : isO h O) (xS : isS h 36 S) {res : tG} (H : fX2_run n G T O S = some res) : Ev (d + 4) mX2_run (h, 0, [(0, .ref 44)], []) (fun r h1 => r = none ∧ isG h1 res ∧ fr [(44, 73)] h h1) := by
  unfold fX2_run at H
  refine Ev.go 1 (s' := (h, 1, [(0, .ref 44)], [.ref 44])) rfl ?_
  refine Ev.get rfl (by decide) xG.1 rfl ?_
  refine Ev.callE rfl rfl rfl (p_argsV (by decide) xS.1 (Nat.le_of_ble_eq_true rfl)) rfl (Nat.le_of_ble_eq_true rfl) (spX5_size xS ) ?_
  refine Ev.go 3 (s' := (h, 10, [(0, .ref 44), (1, .int ((fX5_size S) - 1))], [])) rfl ?_
  refine Ev.live rfl (lv' := [(0, .ref 44), (1, .int ((fX5_size S) - 1))]) rfl ?_
  exact llX2_run_10 n h ((fX5_size S) - 1) G _ H xT xO xS xG
end
