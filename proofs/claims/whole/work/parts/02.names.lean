/-! ===== BEGIN words of one list among another's, by their places ===== -/
theorem goodIn_r {big : List Cond} (ws : List Cond) (ps : List Nat) (hp : ws = ps.filterMap (fun i => big[i]?)) (h : ws.all goodWord = true) : GoodIn big ws := by
  intro w hw
  have h1 := List.all_eq_true.mp h w hw
  rw [hp] at hw
  obtain ⟨i, -, hi⟩ := List.mem_filterMap.mp hw
  have hm : w ∈ big := by first | exact List.mem_of_getElem? hi | exact List.getElem?_mem hi
  exact ⟨hm, good_of_word h1⟩
theorem goodIn_app {big a b : List Cond} (ha : GoodIn big a) (hb : GoodIn big b) : GoodIn big (a ++ b) := fun w h => (List.mem_append.mp h).elim (ha w) (hb w)
theorem goodIn_ca {big a b : List Cond} {c : Cond} (ha : GoodIn big (c :: a)) (hb : GoodIn big b) : GoodIn big (c :: (a ++ b)) := fun w h => (List.mem_cons.mp h).elim (fun e => ha w (List.mem_cons.mpr (Or.inl e))) (fun h => (List.mem_append.mp h).elim (fun h => ha w (List.mem_cons.mpr (Or.inr h))) (hb w))
theorem goodIn_sub {big ws : List Cond} (hm : ∀ w ∈ ws, w ∈ big) (h : ws.all goodWord = true) : GoodIn big ws := fun w hw => ⟨hm w hw, good_of_word (List.all_eq_true.mp h w hw)⟩
/-! ===== END ===== -/

def RX0 : String := "LabelTree$Keys"
def TX0 : u_T := fun k => match k with
  | _ => ("", "", "", false)
def tyX0 : Nat → FieldType := fun k => match k with
  | _ => .int
abbrev wsX00 : List Cond := u_ws RX0 TX0 0
theorem nmX0 : ∀ a, a < 0 → ∀ b, b < 0 → a ≠ b → (TX0 a).2.1 ≠ (TX0 b).2.1 := by decide +kernel
theorem tyX0_ok : ∀ k, k < 0 → parseFieldDescriptor (TX0 k).2.2.1 = some (tyX0 k) := by decide +kernel
abbrev cX0_choose : ByteArray := prog_2_method_2_code
def yX0_choose : MethodName := ⟨RX0, "choose", "(III)I"⟩
abbrev cX0_pick : ByteArray := prog_2_method_3_code
def yX0_pick : MethodName := ⟨RX0, "pick", "(III)I"⟩
abbrev cX0_length : ByteArray := prog_2_method_4_code
def yX0_length : MethodName := ⟨RX0, "length", "(I)I"⟩
abbrev cX0_figures : ByteArray := prog_2_method_5_code
def yX0_figures : MethodName := ⟨RX0, "figures", "(I)I"⟩
def RX1 : String := "LabelTree$Letters"
def TX1 : u_T := fun k => match k with
  | 0 => ("LabelTree$Letters", "letters", "[I", true)
  | _ => ("LabelTree$Letters", "size", "I", false)
def tyX1 : Nat → FieldType := fun k => match k with
  | 0 => .array .int
  | _ => .int
abbrev wsX10 : List Cond := u_ws RX1 TX1 2
theorem nmX1 : ∀ a, a < 2 → ∀ b, b < 2 → a ≠ b → (TX1 a).2.1 ≠ (TX1 b).2.1 := by decide +kernel
theorem tyX1_ok : ∀ k, k < 2 → parseFieldDescriptor (TX1 k).2.2.1 = some (tyX1 k) := by decide +kernel
abbrev cX1_init : ByteArray := prog_3_method_1_code
def yX1_init : MethodName := ⟨RX1, "<init>", "()V"⟩
abbrev cX1_size : ByteArray := prog_3_method_2_code
def yX1_size : MethodName := ⟨RX1, "size", "()I"⟩
abbrev cX1_isFull : ByteArray := prog_3_method_3_code
def yX1_isFull : MethodName := ⟨RX1, "isFull", "()Z"⟩
abbrev cX1_add : ByteArray := prog_3_method_4_code
def yX1_add : MethodName := ⟨RX1, "add", "(I)V"⟩
abbrev cX1_clear : ByteArray := prog_3_method_5_code
def yX1_clear : MethodName := ⟨RX1, "clear", "()V"⟩
abbrev cX1_letterAt : ByteArray := prog_3_method_6_code
def yX1_letterAt : MethodName := ⟨RX1, "letterAt", "(I)I"⟩
def RX2 : String := "LabelTree$Matcher"
def TX2 : u_T := fun k => match k with
  | 0 => ("LabelTree$Matcher", "own", "[[J", true)
  | 1 => ("LabelTree$Matcher", "hung", "[[J", true)
  | 2 => ("LabelTree$Matcher", "other", "[[J", true)
  | 3 => ("LabelTree$Matcher", "rest", "[J", true)
  | 4 => ("LabelTree$Matcher", "tree", "LLabelTree$Tree;", true)
  | 5 => ("LabelTree$Matcher", "order", "LLabelTree$Order;", true)
  | _ => ("LabelTree$Matcher", "pattern", "LLabelTree$Pattern;", true)
def tyX2 : Nat → FieldType := fun k => match k with
  | 0 => .array (.array .long)
  | 1 => .array (.array .long)
  | 2 => .array (.array .long)
  | 3 => .array .long
  | 4 => .object "LabelTree$Tree"
  | 5 => .object "LabelTree$Order"
  | _ => .object "LabelTree$Pattern"
abbrev wsX20 : List Cond := u_ws RX2 TX2 7
theorem nmX2 : ∀ a, a < 7 → ∀ b, b < 7 → a ≠ b → (TX2 a).2.1 ≠ (TX2 b).2.1 := by decide +kernel
theorem tyX2_ok : ∀ k, k < 7 → parseFieldDescriptor (TX2 k).2.2.1 = some (tyX2 k) := by decide +kernel
abbrev cX2_init : ByteArray := prog_4_method_1_code
def yX2_init : MethodName := ⟨RX2, "<init>", "(LLabelTree$Tree;LLabelTree$Order;LLabelTree$Pattern;)V"⟩
abbrev cX2_run : ByteArray := prog_4_method_2_code
def yX2_run : MethodName := ⟨RX2, "run", "()V"⟩
abbrev cX2_total : ByteArray := prog_4_method_3_code
def yX2_total : MethodName := ⟨RX2, "total", "()J"⟩
abbrev cX2_ways : ByteArray := prog_4_method_4_code
def yX2_ways : MethodName := ⟨RX2, "ways", "(II)J"⟩
abbrev cX2_countOwn : ByteArray := prog_4_method_5_code
def yX2_countOwn : MethodName := ⟨RX2, "countOwn", "(I)V"⟩
abbrev cX2_product : ByteArray := prog_4_method_6_code
def yX2_product : MethodName := ⟨RX2, "product", "(III)J"⟩
abbrev cX2_countHung : ByteArray := prog_4_method_7_code
def yX2_countHung : MethodName := ⟨RX2, "countHung", "(I)V"⟩
abbrev cX2_countRest : ByteArray := prog_4_method_8_code
def yX2_countRest : MethodName := ⟨RX2, "countRest", "(II)V"⟩
abbrev cX2_countOther : ByteArray := prog_4_method_9_code
def yX2_countOther : MethodName := ⟨RX2, "countOther", "(I)V"⟩
abbrev cX2_sourceOf : ByteArray := prog_4_method_10_code
def yX2_sourceOf : MethodName := ⟨RX2, "sourceOf", "(II)I"⟩
abbrev cX2_reachesOn : ByteArray := prog_4_method_11_code
def yX2_reachesOn : MethodName := ⟨RX2, "reachesOn", "(I)Z"⟩
def RX3 : String := "LabelTree$Order"
def TX3 : u_T := fun k => match k with
  | 0 => ("LabelTree$Order", "ranks", "[I", true)
  | 1 => ("LabelTree$Order", "nodes", "[I", true)
  | 2 => ("LabelTree$Order", "parents", "[I", true)
  | 3 => ("LabelTree$Order", "elders", "[I", true)
  | 4 => ("LabelTree$Order", "levels", "[I", true)
  | 5 => ("LabelTree$Order", "kids", "[I", true)
  | 6 => ("LabelTree$Order", "belows", "[I", true)
  | _ => ("LabelTree$Order", "size", "I", false)
def tyX3 : Nat → FieldType := fun k => match k with
  | 0 => .array .int
  | 1 => .array .int
  | 2 => .array .int
  | 3 => .array .int
  | 4 => .array .int
  | 5 => .array .int
  | 6 => .array .int
  | _ => .int
abbrev wsX30 : List Cond := u_ws RX3 TX3 8
theorem nmX3 : ∀ a, a < 8 → ∀ b, b < 8 → a ≠ b → (TX3 a).2.1 ≠ (TX3 b).2.1 := by decide +kernel
theorem tyX3_ok : ∀ k, k < 8 → parseFieldDescriptor (TX3 k).2.2.1 = some (tyX3 k) := by decide +kernel
abbrev cX3_init : ByteArray := prog_5_method_1_code
def yX3_init : MethodName := ⟨RX3, "<init>", "()V"⟩
abbrev cX3_read : ByteArray := prog_5_method_2_code
def yX3_read : MethodName := ⟨RX3, "read", "(LLabelTree$Tree;)V"⟩
abbrev cX3_takeFollower : ByteArray := prog_5_method_3_code
def yX3_takeFollower : MethodName := ⟨RX3, "takeFollower", "(LLabelTree$Tree;I)V"⟩
abbrev cX3_take : ByteArray := prog_5_method_4_code
def yX3_take : MethodName := ⟨RX3, "take", "(III)V"⟩
abbrev cX3_isRank : ByteArray := prog_5_method_5_code
def yX3_isRank : MethodName := ⟨RX3, "isRank", "(I)Z"⟩
abbrev cX3_size : ByteArray := prog_5_method_6_code
def yX3_size : MethodName := ⟨RX3, "size", "()I"⟩
abbrev cX3_rankOf : ByteArray := prog_5_method_7_code
def yX3_rankOf : MethodName := ⟨RX3, "rankOf", "(I)I"⟩
abbrev cX3_nodeAt : ByteArray := prog_5_method_8_code
def yX3_nodeAt : MethodName := ⟨RX3, "nodeAt", "(I)I"⟩
abbrev cX3_parentAt : ByteArray := prog_5_method_9_code
def yX3_parentAt : MethodName := ⟨RX3, "parentAt", "(I)I"⟩
abbrev cX3_elderAt : ByteArray := prog_5_method_10_code
def yX3_elderAt : MethodName := ⟨RX3, "elderAt", "(I)I"⟩
abbrev cX3_levelAt : ByteArray := prog_5_method_11_code
def yX3_levelAt : MethodName := ⟨RX3, "levelAt", "(I)I"⟩
abbrev cX3_kidsAt : ByteArray := prog_5_method_12_code
def yX3_kidsAt : MethodName := ⟨RX3, "kidsAt", "(I)I"⟩
abbrev cX3_belowAt : ByteArray := prog_5_method_13_code
def yX3_belowAt : MethodName := ⟨RX3, "belowAt", "(I)I"⟩
abbrev cX3_spans : ByteArray := prog_5_method_14_code
def yX3_spans : MethodName := ⟨RX3, "spans", "(II)Z"⟩
abbrev cX3_bitsFrom : ByteArray := prog_5_method_15_code
def yX3_bitsFrom : MethodName := ⟨RX3, "bitsFrom", "(I)I"⟩
abbrev cX3_mostLevels : ByteArray := prog_5_method_16_code
def yX3_mostLevels : MethodName := ⟨RX3, "mostLevels", "()I"⟩
def RX4 : String := "LabelTree$Past"
def TX4 : u_T := fun k => match k with
  | 0 => ("LabelTree$Past", "bits", "[I", true)
  | 1 => ("LabelTree$Past", "cames", "[I", true)
  | 2 => ("LabelTree$Past", "tagged", "[I", true)
  | 3 => ("LabelTree$Past", "tags", "[I", true)
  | _ => ("LabelTree$Past", "size", "I", false)
def tyX4 : Nat → FieldType := fun k => match k with
  | 0 => .array .int
  | 1 => .array .int
  | 2 => .array .int
  | 3 => .array .int
  | _ => .int
abbrev wsX40 : List Cond := u_ws RX4 TX4 5
theorem nmX4 : ∀ a, a < 5 → ∀ b, b < 5 → a ≠ b → (TX4 a).2.1 ≠ (TX4 b).2.1 := by decide +kernel
theorem tyX4_ok : ∀ k, k < 5 → parseFieldDescriptor (TX4 k).2.2.1 = some (tyX4 k) := by decide +kernel
abbrev cX4_init : ByteArray := prog_6_method_1_code
def yX4_init : MethodName := ⟨RX4, "<init>", "()V"⟩
abbrev cX4_size : ByteArray := prog_6_method_2_code
def yX4_size : MethodName := ⟨RX4, "size", "()I"⟩
abbrev cX4_clear : ByteArray := prog_6_method_3_code
def yX4_clear : MethodName := ⟨RX4, "clear", "()V"⟩
abbrev cX4_record : ByteArray := prog_6_method_4_code
def yX4_record : MethodName := ⟨RX4, "record", "(LLabelTree$Tree;I)V"⟩
abbrev cX4_forgetFirst : ByteArray := prog_6_method_5_code
def yX4_forgetFirst : MethodName := ⟨RX4, "forgetFirst", "()V"⟩
abbrev cX4_restore : ByteArray := prog_6_method_6_code
def yX4_restore : MethodName := ⟨RX4, "restore", "(LLabelTree$Tree;)V"⟩
def RX5 : String := "LabelTree$Pattern"
def TX5 : u_T := fun k => match k with
  | 0 => ("LabelTree$Pattern", "tags", "[I", true)
  | 1 => ("LabelTree$Pattern", "hangs", "[I", true)
  | 2 => ("LabelTree$Pattern", "axes", "[I", true)
  | 3 => ("LabelTree$Pattern", "size", "I", false)
  | _ => ("LabelTree$Pattern", "lastOutermost", "I", false)
def tyX5 : Nat → FieldType := fun k => match k with
  | 0 => .array .int
  | 1 => .array .int
  | 2 => .array .int
  | 3 => .int
  | _ => .int
abbrev wsX50 : List Cond := u_ws RX5 TX5 5
theorem nmX5 : ∀ a, a < 5 → ∀ b, b < 5 → a ≠ b → (TX5 a).2.1 ≠ (TX5 b).2.1 := by decide +kernel
theorem tyX5_ok : ∀ k, k < 5 → parseFieldDescriptor (TX5 k).2.2.1 = some (tyX5 k) := by decide +kernel
abbrev cX5_init : ByteArray := prog_7_method_1_code
def yX5_init : MethodName := ⟨RX5, "<init>", "()V"⟩
abbrev cX5_clear : ByteArray := prog_7_method_2_code
def yX5_clear : MethodName := ⟨RX5, "clear", "()V"⟩
abbrev cX5_copyFrom : ByteArray := prog_7_method_3_code
def yX5_copyFrom : MethodName := ⟨RX5, "copyFrom", "(LLabelTree$Pattern;)V"⟩
abbrev cX5_size : ByteArray := prog_7_method_4_code
def yX5_size : MethodName := ⟨RX5, "size", "()I"⟩
abbrev cX5_has : ByteArray := prog_7_method_5_code
def yX5_has : MethodName := ⟨RX5, "has", "(I)Z"⟩
abbrev cX5_add : ByteArray := prog_7_method_6_code
def yX5_add : MethodName := ⟨RX5, "add", "(III)I"⟩
abbrev cX5_setLastOutermost : ByteArray := prog_7_method_7_code
def yX5_setLastOutermost : MethodName := ⟨RX5, "setLastOutermost", "(I)V"⟩
abbrev cX5_lastOutermost : ByteArray := prog_7_method_8_code
def yX5_lastOutermost : MethodName := ⟨RX5, "lastOutermost", "()I"⟩
abbrev cX5_tagOf : ByteArray := prog_7_method_9_code
def yX5_tagOf : MethodName := ⟨RX5, "tagOf", "(I)I"⟩
abbrev cX5_hangOf : ByteArray := prog_7_method_10_code
def yX5_hangOf : MethodName := ⟨RX5, "hangOf", "(I)I"⟩
abbrev cX5_axisOf : ByteArray := prog_7_method_11_code
def yX5_axisOf : MethodName := ⟨RX5, "axisOf", "(I)I"⟩
abbrev cX5_fits : ByteArray := prog_7_method_12_code
def yX5_fits : MethodName := ⟨RX5, "fits", "(II)Z"⟩
def RX6 : String := "LabelTree$PatternReader"
def TX6 : u_T := fun k => match k with
  | 0 => ("LabelTree$PatternReader", "opened", "[I", true)
  | 1 => ("LabelTree$PatternReader", "depth", "I", false)
  | 2 => ("LabelTree$PatternReader", "due", "I", false)
  | 3 => ("LabelTree$PatternReader", "latest", "I", false)
  | _ => ("LabelTree$PatternReader", "axis", "I", false)
def tyX6 : Nat → FieldType := fun k => match k with
  | 0 => .array .int
  | 1 => .int
  | 2 => .int
  | 3 => .int
  | _ => .int
abbrev wsX60 : List Cond := u_ws RX6 TX6 5
theorem nmX6 : ∀ a, a < 5 → ∀ b, b < 5 → a ≠ b → (TX6 a).2.1 ≠ (TX6 b).2.1 := by decide +kernel
theorem tyX6_ok : ∀ k, k < 5 → parseFieldDescriptor (TX6 k).2.2.1 = some (tyX6 k) := by decide +kernel
abbrev cX6_init : ByteArray := prog_8_method_1_code
def yX6_init : MethodName := ⟨RX6, "<init>", "()V"⟩
abbrev cX6_read : ByteArray := prog_8_method_2_code
def yX6_read : MethodName := ⟨RX6, "read", "(LLabelTree$Letters;LLabelTree$Pattern;)I"⟩
abbrev cX6_takes : ByteArray := prog_8_method_3_code
def yX6_takes : MethodName := ⟨RX6, "takes", "(ILLabelTree$Pattern;)Z"⟩
abbrev cX6_takesTag : ByteArray := prog_8_method_4_code
def yX6_takesTag : MethodName := ⟨RX6, "takesTag", "(ILLabelTree$Pattern;)Z"⟩
abbrev cX6_takesAxis : ByteArray := prog_8_method_5_code
def yX6_takesAxis : MethodName := ⟨RX6, "takesAxis", "(I)Z"⟩
abbrev cX6_axisFor : ByteArray := prog_8_method_6_code
def yX6_axisFor : MethodName := ⟨RX6, "axisFor", "(I)I"⟩
abbrev cX6_opens : ByteArray := prog_8_method_7_code
def yX6_opens : MethodName := ⟨RX6, "opens", "()Z"⟩
abbrev cX6_closes : ByteArray := prog_8_method_8_code
def yX6_closes : MethodName := ⟨RX6, "closes", "()Z"⟩
def RX7 : String := "LabelTree$Tree"
def TX7 : u_T := fun k => match k with
  | 0 => ("LabelTree$Tree", "tags", "[I", true)
  | 1 => ("LabelTree$Tree", "parents", "[I", true)
  | 2 => ("LabelTree$Tree", "spots", "[I", true)
  | 3 => ("LabelTree$Tree", "thereBits", "I", false)
  | 4 => ("LabelTree$Tree", "came", "I", false)
  | _ => ("LabelTree$Tree", "kind", "I", false)
def tyX7 : Nat → FieldType := fun k => match k with
  | 0 => .array .int
  | 1 => .array .int
  | 2 => .array .int
  | 3 => .int
  | 4 => .int
  | _ => .int
abbrev wsX70 : List Cond := u_ws RX7 TX7 6
theorem nmX7 : ∀ a, a < 6 → ∀ b, b < 6 → a ≠ b → (TX7 a).2.1 ≠ (TX7 b).2.1 := by decide +kernel
theorem tyX7_ok : ∀ k, k < 6 → parseFieldDescriptor (TX7 k).2.2.1 = some (tyX7 k) := by decide +kernel
abbrev cX7_init : ByteArray := prog_9_method_1_code
def yX7_init : MethodName := ⟨RX7, "<init>", "()V"⟩
abbrev cX7_clear : ByteArray := prog_9_method_2_code
def yX7_clear : MethodName := ⟨RX7, "clear", "()V"⟩
abbrev cX7_copyFrom : ByteArray := prog_9_method_3_code
def yX7_copyFrom : MethodName := ⟨RX7, "copyFrom", "(LLabelTree$Tree;)V"⟩
abbrev cX7_isNumber : ByteArray := prog_9_method_4_code
def yX7_isNumber : MethodName := ⟨RX7, "isNumber", "(I)Z"⟩
abbrev cX7_isThere : ByteArray := prog_9_method_5_code
def yX7_isThere : MethodName := ⟨RX7, "isThere", "(I)Z"⟩
abbrev cX7_isFull : ByteArray := prog_9_method_6_code
def yX7_isFull : MethodName := ⟨RX7, "isFull", "()Z"⟩
abbrev cX7_came : ByteArray := prog_9_method_7_code
def yX7_came : MethodName := ⟨RX7, "came", "()I"⟩
abbrev cX7_kind : ByteArray := prog_9_method_8_code
def yX7_kind : MethodName := ⟨RX7, "kind", "()I"⟩
abbrev cX7_setKind : ByteArray := prog_9_method_9_code
def yX7_setKind : MethodName := ⟨RX7, "setKind", "(I)V"⟩
abbrev cX7_bits : ByteArray := prog_9_method_10_code
def yX7_bits : MethodName := ⟨RX7, "bits", "()I"⟩
abbrev cX7_tagOf : ByteArray := prog_9_method_11_code
def yX7_tagOf : MethodName := ⟨RX7, "tagOf", "(I)I"⟩
abbrev cX7_setTag : ByteArray := prog_9_method_12_code
def yX7_setTag : MethodName := ⟨RX7, "setTag", "(II)V"⟩
abbrev cX7_parentOf : ByteArray := prog_9_method_13_code
def yX7_parentOf : MethodName := ⟨RX7, "parentOf", "(I)I"⟩
abbrev cX7_spotOf : ByteArray := prog_9_method_14_code
def yX7_spotOf : MethodName := ⟨RX7, "spotOf", "(I)I"⟩
abbrev cX7_add : ByteArray := prog_9_method_15_code
def yX7_add : MethodName := ⟨RX7, "add", "(III)I"⟩
abbrev cX7_remove : ByteArray := prog_9_method_16_code
def yX7_remove : MethodName := ⟨RX7, "remove", "(I)V"⟩
abbrev cX7_rewind : ByteArray := prog_9_method_17_code
def yX7_rewind : MethodName := ⟨RX7, "rewind", "(II)V"⟩
abbrev cX7_kidsOf : ByteArray := prog_9_method_18_code
def yX7_kidsOf : MethodName := ⟨RX7, "kidsOf", "(I)I"⟩
abbrev cX7_nextKid : ByteArray := prog_9_method_19_code
def yX7_nextKid : MethodName := ⟨RX7, "nextKid", "(II)I"⟩
abbrev cX7_childAt : ByteArray := prog_9_method_20_code
def yX7_childAt : MethodName := ⟨RX7, "childAt", "(II)I"⟩
abbrev cX7_spotFor : ByteArray := prog_9_method_21_code
def yX7_spotFor : MethodName := ⟨RX7, "spotFor", "(II)I"⟩
def RX8 : String := "LabelTree$TreeReader"
def TX8 : u_T := fun k => match k with
  | 0 => ("LabelTree$TreeReader", "numbers", "[I", true)
  | 1 => ("LabelTree$TreeReader", "place", "I", false)
  | _ => ("LabelTree$TreeReader", "kindTold", "Z", false)
def tyX8 : Nat → FieldType := fun k => match k with
  | 0 => .array .int
  | 1 => .int
  | _ => .boolean
abbrev wsX80 : List Cond := u_ws RX8 TX8 3
theorem nmX8 : ∀ a, a < 3 → ∀ b, b < 3 → a ≠ b → (TX8 a).2.1 ≠ (TX8 b).2.1 := by decide +kernel
theorem tyX8_ok : ∀ k, k < 3 → parseFieldDescriptor (TX8 k).2.2.1 = some (tyX8 k) := by decide +kernel
abbrev cX8_init : ByteArray := prog_10_method_1_code
def yX8_init : MethodName := ⟨RX8, "<init>", "()V"⟩
abbrev cX8_read : ByteArray := prog_10_method_2_code
def yX8_read : MethodName := ⟨RX8, "read", "(LLabelTree$Letters;LLabelTree$Tree;)I"⟩
abbrev cX8_numbersBehind : ByteArray := prog_10_method_3_code
def yX8_numbersBehind : MethodName := ⟨RX8, "numbersBehind", "(I)I"⟩
abbrev cX8_readNumbers : ByteArray := prog_10_method_4_code
def yX8_readNumbers : MethodName := ⟨RX8, "readNumbers", "(LLabelTree$Letters;I)Z"⟩
abbrev cX8_readNumber : ByteArray := prog_10_method_5_code
def yX8_readNumber : MethodName := ⟨RX8, "readNumber", "(LLabelTree$Letters;)I"⟩
abbrev cX8_figureAt : ByteArray := prog_10_method_6_code
def yX8_figureAt : MethodName := ⟨RX8, "figureAt", "(LLabelTree$Letters;I)I"⟩
abbrev cX8_apply : ByteArray := prog_10_method_7_code
def yX8_apply : MethodName := ⟨RX8, "apply", "(ILLabelTree$Tree;)Z"⟩
abbrev cX8_applyKind : ByteArray := prog_10_method_8_code
def yX8_applyKind : MethodName := ⟨RX8, "applyKind", "(LLabelTree$Tree;)Z"⟩
abbrev cX8_applyRoot : ByteArray := prog_10_method_9_code
def yX8_applyRoot : MethodName := ⟨RX8, "applyRoot", "(LLabelTree$Tree;)Z"⟩
abbrev cX8_applyNode : ByteArray := prog_10_method_10_code
def yX8_applyNode : MethodName := ⟨RX8, "applyNode", "(LLabelTree$Tree;)Z"⟩
def RX9 : String := "LabelTree"
def TX9 : u_T := fun k => match k with
  | 0 => ("LabelTree", "text", "LLabelTree$Letters;", true)
  | 1 => ("LabelTree", "treeReader", "LLabelTree$TreeReader;", true)
  | 2 => ("LabelTree", "patternReader", "LLabelTree$PatternReader;", true)
  | 3 => ("LabelTree", "tree", "LLabelTree$Tree;", true)
  | 4 => ("LabelTree", "treeDraft", "LLabelTree$Tree;", true)
  | 5 => ("LabelTree", "order", "LLabelTree$Order;", true)
  | 6 => ("LabelTree", "past", "LLabelTree$Past;", true)
  | 7 => ("LabelTree", "keptFirst", "LLabelTree$Tree;", true)
  | 8 => ("LabelTree", "keptSecond", "LLabelTree$Tree;", true)
  | 9 => ("LabelTree", "keptSize", "I", false)
  | 10 => ("LabelTree", "steps", "LLabelTree$Pattern;", true)
  | 11 => ("LabelTree", "stepsDraft", "LLabelTree$Pattern;", true)
  | 12 => ("LabelTree", "matcher", "LLabelTree$Matcher;", true)
  | _ => ("LabelTree", "matched", "Z", false)
def tyX9 : Nat → FieldType := fun k => match k with
  | 0 => .object "LabelTree$Letters"
  | 1 => .object "LabelTree$TreeReader"
  | 2 => .object "LabelTree$PatternReader"
  | 3 => .object "LabelTree$Tree"
  | 4 => .object "LabelTree$Tree"
  | 5 => .object "LabelTree$Order"
  | 6 => .object "LabelTree$Past"
  | 7 => .object "LabelTree$Tree"
  | 8 => .object "LabelTree$Tree"
  | 9 => .int
  | 10 => .object "LabelTree$Pattern"
  | 11 => .object "LabelTree$Pattern"
  | 12 => .object "LabelTree$Matcher"
  | _ => .boolean
abbrev wsX90 : List Cond := u_ws RX9 TX9 14
theorem nmX9 : ∀ a, a < 14 → ∀ b, b < 14 → a ≠ b → (TX9 a).2.1 ≠ (TX9 b).2.1 := by decide +kernel
theorem tyX9_ok : ∀ k, k < 14 → parseFieldDescriptor (TX9 k).2.2.1 = some (tyX9 k) := by decide +kernel
abbrev cX9_init : ByteArray := prog_1_method_1_code
def yX9_init : MethodName := ⟨RX9, "<init>", "()V"⟩
abbrev cX9_write : ByteArray := prog_1_method_2_code
def yX9_write : MethodName := ⟨RX9, "write", "(I)I"⟩
abbrev cX9_wipe : ByteArray := prog_1_method_3_code
def yX9_wipe : MethodName := ⟨RX9, "wipe", "()I"⟩
abbrev cX9_fault : ByteArray := prog_1_method_4_code
def yX9_fault : MethodName := ⟨RX9, "fault", "()I"⟩
abbrev cX9_lay : ByteArray := prog_1_method_5_code
def yX9_lay : MethodName := ⟨RX9, "lay", "()I"⟩
abbrev cX9_node : ByteArray := prog_1_method_6_code
def yX9_node : MethodName := ⟨RX9, "node", "(II)I"⟩
abbrev cX9_child : ByteArray := prog_1_method_7_code
def yX9_child : MethodName := ⟨RX9, "child", "(II)I"⟩
abbrev cX9_key : ByteArray := prog_1_method_8_code
def yX9_key : MethodName := ⟨RX9, "key", "(III)I"⟩
abbrev cX9_at : ByteArray := prog_1_method_9_code
def yX9_at : MethodName := ⟨RX9, "at", "(I)I"⟩
abbrev cX9_grow : ByteArray := prog_1_method_10_code
def yX9_grow : MethodName := ⟨RX9, "grow", "(III)I"⟩
abbrev cX9_cut : ByteArray := prog_1_method_11_code
def yX9_cut : MethodName := ⟨RX9, "cut", "(I)I"⟩
abbrev cX9_tag : ByteArray := prog_1_method_12_code
def yX9_tag : MethodName := ⟨RX9, "tag", "(II)I"⟩
abbrev cX9_undo : ByteArray := prog_1_method_13_code
def yX9_undo : MethodName := ⟨RX9, "undo", "()I"⟩
abbrev cX9_between : ByteArray := prog_1_method_14_code
def yX9_between : MethodName := ⟨RX9, "between", "(III)I"⟩
abbrev cX9_ahead : ByteArray := prog_1_method_15_code
def yX9_ahead : MethodName := ⟨RX9, "ahead", "(II)I"⟩
abbrev cX9_above : ByteArray := prog_1_method_16_code
def yX9_above : MethodName := ⟨RX9, "above", "(II)I"⟩
abbrev cX9_meet : ByteArray := prog_1_method_17_code
def yX9_meet : MethodName := ⟨RX9, "meet", "(II)I"⟩
abbrev cX9_pattern : ByteArray := prog_1_method_18_code
def yX9_pattern : MethodName := ⟨RX9, "pattern", "()I"⟩
abbrev cX9_step : ByteArray := prog_1_method_19_code
def yX9_step : MethodName := ⟨RX9, "step", "(II)I"⟩
abbrev cX9_matches : ByteArray := prog_1_method_20_code
def yX9_matches : MethodName := ⟨RX9, "matches", "()J"⟩
abbrev cX9_puts : ByteArray := prog_1_method_21_code
def yX9_puts : MethodName := ⟨RX9, "puts", "(II)J"⟩
abbrev cX9_useful : ByteArray := prog_1_method_22_code
def yX9_useful : MethodName := ⟨RX9, "useful", "(I)I"⟩
abbrev cX9_end : ByteArray := prog_1_method_23_code
def yX9_end : MethodName := ⟨RX9, "end", "(I)I"⟩
abbrev cX9_keep : ByteArray := prog_1_method_24_code
def yX9_keep : MethodName := ⟨RX9, "keep", "()I"⟩
abbrev cX9_back : ByteArray := prog_1_method_25_code
def yX9_back : MethodName := ⟨RX9, "back", "()I"⟩
abbrev cX9_count : ByteArray := prog_1_method_26_code
def yX9_count : MethodName := ⟨RX9, "count", "(I)I"⟩
abbrev cX9_settle : ByteArray := prog_1_method_27_code
def yX9_settle : MethodName := ⟨RX9, "settle", "()V"⟩
abbrev cX9_matchAll : ByteArray := prog_1_method_28_code
def yX9_matchAll : MethodName := ⟨RX9, "matchAll", "()V"⟩
abbrev cX9_keptTree : ByteArray := prog_1_method_29_code
def yX9_keptTree : MethodName := ⟨RX9, "keptTree", "(I)LLabelTree$Tree;"⟩
abbrev cX9_isPlace : ByteArray := prog_1_method_30_code
def yX9_isPlace : MethodName := ⟨RX9, "isPlace", "(II)Z"⟩
abbrev cX9_isTag : ByteArray := prog_1_method_31_code
def yX9_isTag : MethodName := ⟨RX9, "isTag", "(I)Z"⟩
abbrev cX9_isKeyPart : ByteArray := prog_1_method_32_code
def yX9_isKeyPart : MethodName := ⟨RX9, "isKeyPart", "(I)Z"⟩
abbrev cX9_keyPart : ByteArray := prog_1_method_33_code
def yX9_keyPart : MethodName := ⟨RX9, "keyPart", "(II)I"⟩
abbrev cX9_climb : ByteArray := prog_1_method_34_code
def yX9_climb : MethodName := ⟨RX9, "climb", "(II)I"⟩
abbrev cX9_mostFigures : ByteArray := prog_1_method_35_code
def yX9_mostFigures : MethodName := ⟨RX9, "mostFigures", "()I"⟩
def RX10 : String := "LabelTreeModel"
def TX10 : u_T := fun k => match k with
  | 0 => ("LabelTreeModel", "there", "I", false)
  | 1 => ("LabelTreeModel", "came", "I", false)
  | 2 => ("LabelTreeModel", "kind", "I", false)
  | 3 => ("LabelTreeModel", "tagOf", "[I", true)
  | 4 => ("LabelTreeModel", "parentOf", "[I", true)
  | 5 => ("LabelTreeModel", "keyOf", "[I", true)
  | 6 => ("LabelTreeModel", "ahead", "[I", true)
  | 7 => ("LabelTreeModel", "undoMany", "I", false)
  | 8 => ("LabelTreeModel", "saved", "[I", true)
  | 9 => ("LabelTreeModel", "savedMany", "I", false)
  | 10 => ("LabelTreeModel", "text", "[I", true)
  | 11 => ("LabelTreeModel", "size", "I", false)
  | 12 => ("LabelTreeModel", "readAt", "I", false)
  | 13 => ("LabelTreeModel", "readNumber", "I", false)
  | 14 => ("LabelTreeModel", "before", "[I", true)
  | 15 => ("LabelTreeModel", "steps", "I", false)
  | 16 => ("LabelTreeModel", "lastStep", "I", false)
  | 17 => ("LabelTreeModel", "stepTag", "[I", true)
  | 18 => ("LabelTreeModel", "hangsOn", "[I", true)
  | 19 => ("LabelTreeModel", "axisOf", "[I", true)
  | 20 => ("LabelTreeModel", "readSteps", "I", false)
  | 21 => ("LabelTreeModel", "readLast", "I", false)
  | 22 => ("LabelTreeModel", "readTag", "[I", true)
  | 23 => ("LabelTreeModel", "readHangs", "[I", true)
  | 24 => ("LabelTreeModel", "readAxis", "[I", true)
  | 25 => ("LabelTreeModel", "onLevel", "[I", true)
  | _ => ("LabelTreeModel", "ways", "[J", true)
def tyX10 : Nat → FieldType := fun k => match k with
  | 0 => .int
  | 1 => .int
  | 2 => .int
  | 3 => .array .int
  | 4 => .array .int
  | 5 => .array .int
  | 6 => .array .int
  | 7 => .int
  | 8 => .array .int
  | 9 => .int
  | 10 => .array .int
  | 11 => .int
  | 12 => .int
  | 13 => .int
  | 14 => .array .int
  | 15 => .int
  | 16 => .int
  | 17 => .array .int
  | 18 => .array .int
  | 19 => .array .int
  | 20 => .int
  | 21 => .int
  | 22 => .array .int
  | 23 => .array .int
  | 24 => .array .int
  | 25 => .array .int
  | _ => .array .long
abbrev wsX100 : List Cond := u_ws RX10 TX10 27
theorem nmX10 : ∀ a, a < 27 → ∀ b, b < 27 → a ≠ b → (TX10 a).2.1 ≠ (TX10 b).2.1 := by decide +kernel
theorem tyX10_ok : ∀ k, k < 27 → parseFieldDescriptor (TX10 k).2.2.1 = some (tyX10 k) := by decide +kernel
abbrev cX10_in : ByteArray := prog_12_method_1_code
def yX10_in : MethodName := ⟨RX10, "in", "(III)Z"⟩
abbrev cX10_has : ByteArray := prog_12_method_2_code
def yX10_has : MethodName := ⟨RX10, "has", "(II)Z"⟩
abbrev cX10_init : ByteArray := prog_12_method_3_code
def yX10_init : MethodName := ⟨RX10, "<init>", "()V"⟩
abbrev cX10_isNode : ByteArray := prog_12_method_4_code
def yX10_isNode : MethodName := ⟨RX10, "isNode", "(I)Z"⟩
abbrev cX10_isTag : ByteArray := prog_12_method_5_code
def yX10_isTag : MethodName := ⟨RX10, "isTag", "(I)Z"⟩
abbrev cX10_root : ByteArray := prog_12_method_6_code
def yX10_root : MethodName := ⟨RX10, "root", "(I)V"⟩
abbrev cX10_childMany : ByteArray := prog_12_method_7_code
def yX10_childMany : MethodName := ⟨RX10, "childMany", "(I)I"⟩
abbrev cX10_childBehind : ByteArray := prog_12_method_8_code
def yX10_childBehind : MethodName := ⟨RX10, "childBehind", "(II)I"⟩
abbrev cX10_childAt : ByteArray := prog_12_method_9_code
def yX10_childAt : MethodName := ⟨RX10, "childAt", "(II)I"⟩
abbrev cX10_keyBetween : ByteArray := prog_12_method_10_code
def yX10_keyBetween : MethodName := ⟨RX10, "keyBetween", "(II)I"⟩
abbrev cX10_keyFor : ByteArray := prog_12_method_11_code
def yX10_keyFor : MethodName := ⟨RX10, "keyFor", "(II)I"⟩
abbrev cX10_figuresOf : ByteArray := prog_12_method_12_code
def yX10_figuresOf : MethodName := ⟨RX10, "figuresOf", "(I)I"⟩
abbrev cX10_numberOf : ByteArray := prog_12_method_13_code
def yX10_numberOf : MethodName := ⟨RX10, "numberOf", "(I)I"⟩
abbrev cX10_comes : ByteArray := prog_12_method_14_code
def yX10_comes : MethodName := ⟨RX10, "comes", "(III)I"⟩
abbrev cX10_isOver : ByteArray := prog_12_method_15_code
def yX10_isOver : MethodName := ⟨RX10, "isOver", "(II)Z"⟩
abbrev cX10_belowSet : ByteArray := prog_12_method_16_code
def yX10_belowSet : MethodName := ⟨RX10, "belowSet", "(I)I"⟩
abbrev cX10_bits : ByteArray := prog_12_method_17_code
def yX10_bits : MethodName := ⟨RX10, "bits", "(I)I"⟩
abbrev cX10_deepOf : ByteArray := prog_12_method_18_code
def yX10_deepOf : MethodName := ⟨RX10, "deepOf", "(I)I"⟩
abbrev cX10_behind : ByteArray := prog_12_method_19_code
def yX10_behind : MethodName := ⟨RX10, "behind", "(I)I"⟩
abbrev cX10_placeOf : ByteArray := prog_12_method_20_code
def yX10_placeOf : MethodName := ⟨RX10, "placeOf", "(I)I"⟩
abbrev cX10_node : ByteArray := prog_12_method_21_code
def yX10_node : MethodName := ⟨RX10, "node", "(II)I"⟩
abbrev cX10_child : ByteArray := prog_12_method_22_code
def yX10_child : MethodName := ⟨RX10, "child", "(II)I"⟩
abbrev cX10_key : ByteArray := prog_12_method_23_code
def yX10_key : MethodName := ⟨RX10, "key", "(III)I"⟩
abbrev cX10_at : ByteArray := prog_12_method_24_code
def yX10_at : MethodName := ⟨RX10, "at", "(I)I"⟩
abbrev cX10_lays : ByteArray := prog_12_method_25_code
def yX10_lays : MethodName := ⟨RX10, "lays", "([II)V"⟩
abbrev cX10_takes : ByteArray := prog_12_method_26_code
def yX10_takes : MethodName := ⟨RX10, "takes", "([II)V"⟩
abbrev cX10_notes : ByteArray := prog_12_method_27_code
def yX10_notes : MethodName := ⟨RX10, "notes", "()V"⟩
abbrev cX10_grow : ByteArray := prog_12_method_28_code
def yX10_grow : MethodName := ⟨RX10, "grow", "(III)I"⟩
abbrev cX10_cut : ByteArray := prog_12_method_29_code
def yX10_cut : MethodName := ⟨RX10, "cut", "(I)I"⟩
abbrev cX10_tag : ByteArray := prog_12_method_30_code
def yX10_tag : MethodName := ⟨RX10, "tag", "(II)I"⟩
abbrev cX10_undo : ByteArray := prog_12_method_31_code
def yX10_undo : MethodName := ⟨RX10, "undo", "()I"⟩
abbrev cX10_keep : ByteArray := prog_12_method_32_code
def yX10_keep : MethodName := ⟨RX10, "keep", "()I"⟩
abbrev cX10_back : ByteArray := prog_12_method_33_code
def yX10_back : MethodName := ⟨RX10, "back", "()I"⟩
abbrev cX10_between : ByteArray := prog_12_method_34_code
def yX10_between : MethodName := ⟨RX10, "between", "(III)I"⟩
abbrev cX10_ahead : ByteArray := prog_12_method_35_code
def yX10_ahead : MethodName := ⟨RX10, "ahead", "(II)I"⟩
abbrev cX10_above : ByteArray := prog_12_method_36_code
def yX10_above : MethodName := ⟨RX10, "above", "(II)I"⟩
abbrev cX10_meet : ByteArray := prog_12_method_37_code
def yX10_meet : MethodName := ⟨RX10, "meet", "(II)I"⟩
abbrev cX10_write : ByteArray := prog_12_method_38_code
def yX10_write : MethodName := ⟨RX10, "write", "(I)I"⟩
abbrev cX10_wipe : ByteArray := prog_12_method_39_code
def yX10_wipe : MethodName := ⟨RX10, "wipe", "()I"⟩
abbrev cX10_here : ByteArray := prog_12_method_40_code
def yX10_here : MethodName := ⟨RX10, "here", "()I"⟩
abbrev cX10_isFigure : ByteArray := prog_12_method_41_code
def yX10_isFigure : MethodName := ⟨RX10, "isFigure", "()Z"⟩
abbrev cX10_number : ByteArray := prog_12_method_42_code
def yX10_number : MethodName := ⟨RX10, "number", "(III)Z"⟩
abbrev cX10_readsKind : ByteArray := prog_12_method_43_code
def yX10_readsKind : MethodName := ⟨RX10, "readsKind", "()Z"⟩
abbrev cX10_readsRoot : ByteArray := prog_12_method_44_code
def yX10_readsRoot : MethodName := ⟨RX10, "readsRoot", "()Z"⟩
abbrev cX10_readsNode : ByteArray := prog_12_method_45_code
def yX10_readsNode : MethodName := ⟨RX10, "readsNode", "()Z"⟩
abbrev cX10_readsItem : ByteArray := prog_12_method_46_code
def yX10_readsItem : MethodName := ⟨RX10, "readsItem", "(Z)Z"⟩
abbrev cX10_reads : ByteArray := prog_12_method_47_code
def yX10_reads : MethodName := ⟨RX10, "reads", "()I"⟩
abbrev cX10_fault : ByteArray := prog_12_method_48_code
def yX10_fault : MethodName := ⟨RX10, "fault", "()I"⟩
abbrev cX10_many : ByteArray := prog_12_method_49_code
def yX10_many : MethodName := ⟨RX10, "many", "(I)I"⟩
abbrev cX10_lay : ByteArray := prog_12_method_50_code
def yX10_lay : MethodName := ⟨RX10, "lay", "()I"⟩
abbrev cX10_axisBy : ByteArray := prog_12_method_51_code
def yX10_axisBy : MethodName := ⟨RX10, "axisBy", "(I)I"⟩
abbrev cX10_readsStep : ByteArray := prog_12_method_52_code
def yX10_readsStep : MethodName := ⟨RX10, "readsStep", "(II)Z"⟩
abbrev cX10_readsPattern : ByteArray := prog_12_method_53_code
def yX10_readsPattern : MethodName := ⟨RX10, "readsPattern", "()I"⟩
abbrev cX10_pattern : ByteArray := prog_12_method_54_code
def yX10_pattern : MethodName := ⟨RX10, "pattern", "()I"⟩
abbrev cX10_isStep : ByteArray := prog_12_method_55_code
def yX10_isStep : MethodName := ⟨RX10, "isStep", "(I)Z"⟩
abbrev cX10_step : ByteArray := prog_12_method_56_code
def yX10_step : MethodName := ⟨RX10, "step", "(II)I"⟩
abbrev cX10_stands : ByteArray := prog_12_method_57_code
def yX10_stands : MethodName := ⟨RX10, "stands", "(III)Z"⟩
abbrev cX10_waysBy : ByteArray := prog_12_method_58_code
def yX10_waysBy : MethodName := ⟨RX10, "waysBy", "(II)J"⟩
abbrev cX10_sumOf : ByteArray := prog_12_method_59_code
def yX10_sumOf : MethodName := ⟨RX10, "sumOf", "(II)J"⟩
abbrev cX10_matches : ByteArray := prog_12_method_60_code
def yX10_matches : MethodName := ⟨RX10, "matches", "()J"⟩
abbrev cX10_puts : ByteArray := prog_12_method_61_code
def yX10_puts : MethodName := ⟨RX10, "puts", "(II)J"⟩
abbrev cX10_usefulSet : ByteArray := prog_12_method_62_code
def yX10_usefulSet : MethodName := ⟨RX10, "usefulSet", "(I)I"⟩
abbrev cX10_useful : ByteArray := prog_12_method_63_code
def yX10_useful : MethodName := ⟨RX10, "useful", "(I)I"⟩
abbrev cX10_end : ByteArray := prog_12_method_64_code
def yX10_end : MethodName := ⟨RX10, "end", "(I)I"⟩
abbrev cX10_mostFigures : ByteArray := prog_12_method_65_code
def yX10_mostFigures : MethodName := ⟨RX10, "mostFigures", "()I"⟩
abbrev cX10_mostKeys : ByteArray := prog_12_method_66_code
def yX10_mostKeys : MethodName := ⟨RX10, "mostKeys", "()I"⟩
abbrev cX10_count : ByteArray := prog_12_method_67_code
def yX10_count : MethodName := ⟨RX10, "count", "(I)I"⟩
def RJx145de : String := "java/io/Serializable"
def TJx145de : u_T := fun k => match k with
  | _ => ("", "", "", false)
def tyJx145de : Nat → FieldType := fun k => match k with
  | _ => .int
abbrev wsJx145de0 : List Cond := u_ws RJx145de TJx145de 0
theorem nmJx145de : ∀ a, a < 0 → ∀ b, b < 0 → a ≠ b → (TJx145de a).2.1 ≠ (TJx145de b).2.1 := by decide +kernel
theorem tyJx145de_ok : ∀ k, k < 0 → parseFieldDescriptor (TJx145de k).2.2.1 = some (tyJx145de k) := by decide +kernel
def RJx9f9b0 : String := "java/lang/CharSequence"
def TJx9f9b0 : u_T := fun k => match k with
  | _ => ("", "", "", false)
def tyJx9f9b0 : Nat → FieldType := fun k => match k with
  | _ => .int
abbrev wsJx9f9b00 : List Cond := u_ws RJx9f9b0 TJx9f9b0 0
theorem nmJx9f9b0 : ∀ a, a < 0 → ∀ b, b < 0 → a ≠ b → (TJx9f9b0 a).2.1 ≠ (TJx9f9b0 b).2.1 := by decide +kernel
theorem tyJx9f9b0_ok : ∀ k, k < 0 → parseFieldDescriptor (TJx9f9b0 k).2.2.1 = some (tyJx9f9b0 k) := by decide +kernel
def RJxb160c : String := "java/lang/Comparable"
def TJxb160c : u_T := fun k => match k with
  | _ => ("", "", "", false)
def tyJxb160c : Nat → FieldType := fun k => match k with
  | _ => .int
abbrev wsJxb160c0 : List Cond := u_ws RJxb160c TJxb160c 0
theorem nmJxb160c : ∀ a, a < 0 → ∀ b, b < 0 → a ≠ b → (TJxb160c a).2.1 ≠ (TJxb160c b).2.1 := by decide +kernel
theorem tyJxb160c_ok : ∀ k, k < 0 → parseFieldDescriptor (TJxb160c k).2.2.1 = some (tyJxb160c k) := by decide +kernel
def RJ6 : String := "java/lang/Integer"
def TJ6 : u_T := fun k => match k with
  | _ => ("", "", "", false)
def tyJ6 : Nat → FieldType := fun k => match k with
  | _ => .int
abbrev wsJ60 : List Cond := u_ws RJ6 TJ6 0
theorem nmJ6 : ∀ a, a < 0 → ∀ b, b < 0 → a ≠ b → (TJ6 a).2.1 ≠ (TJ6 b).2.1 := by decide +kernel
theorem tyJ6_ok : ∀ k, k < 0 → parseFieldDescriptor (TJ6 k).2.2.1 = some (tyJ6 k) := by decide +kernel
abbrev cJ6_bitCount_0f7a4 : ByteArray := prog_13_method_49_code
def yJ6_bitCount_0f7a4 : MethodName := ⟨RJ6, "bitCount", "(I)I"⟩
def RJ9 : String := "java/lang/Math"
def TJ9 : u_T := fun k => match k with
  | _ => ("", "", "", false)
def tyJ9 : Nat → FieldType := fun k => match k with
  | _ => .int
abbrev wsJ90 : List Cond := u_ws RJ9 TJ9 0
theorem nmJ9 : ∀ a, a < 0 → ∀ b, b < 0 → a ≠ b → (TJ9 a).2.1 ≠ (TJ9 b).2.1 := by decide +kernel
theorem tyJ9_ok : ∀ k, k < 0 → parseFieldDescriptor (TJ9 k).2.2.1 = some (tyJ9 k) := by decide +kernel
abbrev cJ9_max_7cf53 : ByteArray := prog_14_method_65_code
def yJ9_max_7cf53 : MethodName := ⟨RJ9, "max", "(II)I"⟩
abbrev cJ9_min_7cf53 : ByteArray := prog_14_method_69_code
def yJ9_min_7cf53 : MethodName := ⟨RJ9, "min", "(II)I"⟩
def RJ0 : String := "java/lang/String"
def TJ0 : u_T := fun k => match k with
  | _ => ("", "", "", false)
def tyJ0 : Nat → FieldType := fun k => match k with
  | _ => .int
abbrev wsJ00 : List Cond := u_ws RJ0 TJ0 0
theorem nmJ0 : ∀ a, a < 0 → ∀ b, b < 0 → a ≠ b → (TJ0 a).2.1 ≠ (TJ0 b).2.1 := by decide +kernel
theorem tyJ0_ok : ∀ k, k < 0 → parseFieldDescriptor (TJ0 k).2.2.1 = some (tyJ0 k) := by decide +kernel
abbrev cJ0_length_8abf5 : ByteArray := prog_15_method_54_code
def yJ0_length_8abf5 : MethodName := ⟨RJ0, "length", "()I"⟩
abbrev cJ0_charAt_5068e : ByteArray := prog_15_method_56_code
def yJ0_charAt_5068e : MethodName := ⟨RJ0, "charAt", "(I)C"⟩
abbrev cJ0_coder_7d493 : ByteArray := prog_15_method_152_code
def yJ0_coder_7d493 : MethodName := ⟨RJ0, "coder", "()B"⟩
abbrev cJ0_isLatin1_aae02 : ByteArray := prog_15_method_154_code
def yJ0_isLatin1_aae02 : MethodName := ⟨RJ0, "isLatin1", "()Z"⟩
abbrev cJ0_checkIndex_df160 : ByteArray := prog_15_method_155_code
def yJ0_checkIndex_df160 : MethodName := ⟨RJ0, "checkIndex", "(II)V"⟩
def RJ1 : String := "java/lang/StringLatin1"
def TJ1 : u_T := fun k => match k with
  | _ => ("", "", "", false)
def tyJ1 : Nat → FieldType := fun k => match k with
  | _ => .int
abbrev wsJ10 : List Cond := u_ws RJ1 TJ1 0
theorem nmJ1 : ∀ a, a < 0 → ∀ b, b < 0 → a ≠ b → (TJ1 a).2.1 ≠ (TJ1 b).2.1 := by decide +kernel
theorem tyJ1_ok : ∀ k, k < 0 → parseFieldDescriptor (TJ1 k).2.2.1 = some (tyJ1 k) := by decide +kernel
abbrev cJ1_charAt_3b067 : ByteArray := prog_16_method_2_code
def yJ1_charAt_3b067 : MethodName := ⟨RJ1, "charAt", "([BI)C"⟩
def RJ2 : String := "java/lang/StringUTF16"
def TJ2 : u_T := fun k => match k with
  | _ => ("", "", "", false)
def tyJ2 : Nat → FieldType := fun k => match k with
  | _ => .int
abbrev wsJ20 : List Cond := u_ws RJ2 TJ2 0
theorem nmJ2 : ∀ a, a < 0 → ∀ b, b < 0 → a ≠ b → (TJ2 a).2.1 ≠ (TJ2 b).2.1 := by decide +kernel
theorem tyJ2_ok : ∀ k, k < 0 → parseFieldDescriptor (TJ2 k).2.2.1 = some (tyJ2 k) := by decide +kernel
abbrev cJ2_getChar_3b067 : ByteArray := prog_17_method_5_code
def yJ2_getChar_3b067 : MethodName := ⟨RJ2, "getChar", "([BI)C"⟩
abbrev cJ2_length_9d52b : ByteArray := prog_17_method_6_code
def yJ2_length_9d52b : MethodName := ⟨RJ2, "length", "([B)I"⟩
abbrev cJ2_charAt_3b067 : ByteArray := prog_17_method_83_code
def yJ2_charAt_3b067 : MethodName := ⟨RJ2, "charAt", "([BI)C"⟩
abbrev cJ2_checkIndex_2214a : ByteArray := prog_17_method_91_code
def yJ2_checkIndex_2214a : MethodName := ⟨RJ2, "checkIndex", "(I[B)V"⟩
def RJ10 : String := "java/lang/System"
def TJ10 : u_T := fun k => match k with
  | _ => ("", "", "", false)
def tyJ10 : Nat → FieldType := fun k => match k with
  | _ => .int
abbrev wsJ100 : List Cond := u_ws RJ10 TJ10 0
theorem nmJ10 : ∀ a, a < 0 → ∀ b, b < 0 → a ≠ b → (TJ10 a).2.1 ≠ (TJ10 b).2.1 := by decide +kernel
theorem tyJ10_ok : ∀ k, k < 0 → parseFieldDescriptor (TJ10 k).2.2.1 = some (tyJ10 k) := by decide +kernel
def RJxfd54e : String := "java/lang/constant/Constable"
def TJxfd54e : u_T := fun k => match k with
  | _ => ("", "", "", false)
def tyJxfd54e : Nat → FieldType := fun k => match k with
  | _ => .int
abbrev wsJxfd54e0 : List Cond := u_ws RJxfd54e TJxfd54e 0
theorem nmJxfd54e : ∀ a, a < 0 → ∀ b, b < 0 → a ≠ b → (TJxfd54e a).2.1 ≠ (TJxfd54e b).2.1 := by decide +kernel
theorem tyJxfd54e_ok : ∀ k, k < 0 → parseFieldDescriptor (TJxfd54e k).2.2.1 = some (tyJxfd54e k) := by decide +kernel
def RJx3cf43 : String := "java/lang/constant/ConstantDesc"
def TJx3cf43 : u_T := fun k => match k with
  | _ => ("", "", "", false)
def tyJx3cf43 : Nat → FieldType := fun k => match k with
  | _ => .int
abbrev wsJx3cf430 : List Cond := u_ws RJx3cf43 TJx3cf43 0
theorem nmJx3cf43 : ∀ a, a < 0 → ∀ b, b < 0 → a ≠ b → (TJx3cf43 a).2.1 ≠ (TJx3cf43 b).2.1 := by decide +kernel
theorem tyJx3cf43_ok : ∀ k, k < 0 → parseFieldDescriptor (TJx3cf43 k).2.2.1 = some (tyJx3cf43 k) := by decide +kernel
def RJ7 : String := "java/util/Arrays"
def TJ7 : u_T := fun k => match k with
  | _ => ("", "", "", false)
def tyJ7 : Nat → FieldType := fun k => match k with
  | _ => .int
abbrev wsJ70 : List Cond := u_ws RJ7 TJ7 0
theorem nmJ7 : ∀ a, a < 0 → ∀ b, b < 0 → a ≠ b → (TJ7 a).2.1 ≠ (TJ7 b).2.1 := by decide +kernel
theorem tyJ7_ok : ∀ k, k < 0 → parseFieldDescriptor (TJ7 k).2.2.1 = some (tyJ7 k) := by decide +kernel
abbrev cJ7_fill_d0a16 : ByteArray := prog_19_method_101_code
def yJ7_fill_d0a16 : MethodName := ⟨RJ7, "fill", "([JJ)V"⟩
def RJ3 : String := "jdk/internal/util/Preconditions"
def TJ3 : u_T := fun k => match k with
  | _ => ("", "", "", false)
def tyJ3 : Nat → FieldType := fun k => match k with
  | _ => .int
abbrev wsJ30 : List Cond := u_ws RJ3 TJ3 0
theorem nmJ3 : ∀ a, a < 0 → ∀ b, b < 0 → a ≠ b → (TJ3 a).2.1 ≠ (TJ3 b).2.1 := by decide +kernel
theorem tyJ3_ok : ∀ k, k < 0 → parseFieldDescriptor (TJ3 k).2.2.1 = some (tyJ3 k) := by decide +kernel
abbrev cJ3_checkIndex_8e157 : ByteArray := prog_20_method_11_code
def yJ3_checkIndex_8e157 : MethodName := ⟨RJ3, "checkIndex", "(IILjava/util/function/BiFunction;)I"⟩
def RL : String := "LabelTreeLaw"
abbrev cL_law : ByteArray := code
def yL_law : MethodName := ⟨RL, "law", "([I)Z"⟩
abbrev vwCl : List vw_C := [(RX1, TX1, 2), (RX2, TX2, 7), (RX3, TX3, 8), (RX4, TX4, 5), (RX5, TX5, 5), (RX6, TX6, 5), (RX7, TX7, 6), (RX8, TX8, 3), (RX9, TX9, 14), (RX10, TX10, 27)]
