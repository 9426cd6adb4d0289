/-! WHAT THE PURE MACHINE DOES, THE MACHINE DOES: the tie between places and cells, the words, a step, a run, a contract. -/
def p_v (ad : Nat → Nat) : Value → Value
  | .ref a => .ref (ad a)
  | v => v
def p_e (k : ClassId × ClassId × ClassId) (ad : Nat → Nat) : pE → va_E
  | .inl (n, f) => .inl (k.1, n, .inl f)
  | .inr (.inl (n, f)) => .inl (k.2.1, n, .inr (.inl f))
  | .inr (.inr (.inl (n, f))) => .inl (k.2.2, n, .inr (.inr (.inr (.inr (fun i => (f i).map ad)))))
  | .inr (.inr (.inr (c, fs))) => .inr (c, fs.map (p_v ad))
def p_wm (k : ClassId × ClassId × ClassId) (ad : Nat → Nat) (N : Nat) (h : pH) : va_W := (List.range N).map (fun j => (ad j, p_e k ad (h j)))
def p_tys (k : ClassId × ClassId × ClassId) : List (ClassId × FieldType) := [(k.1, .int), (k.2.1, .long), (k.2.2, .array .long)]
def p_A (ad : Nat → Nat) (N : Nat) : Nat → Prop := fun q => ∃ j, j < N ∧ q = ad j
def p_lv (ad : Nat → Nat) (lv : pLv) : pLv := lv.map (fun q => (q.1, p_v ad q.2))
theorem p_v_cat (ad : Nat → Nat) (v : Value) : (p_v ad v).category = v.category := by cases v <;> rfl
theorem p_wm_get {k : ClassId × ClassId × ClassId} {ad : Nat → Nat} {N : Nat} {h : pH} {j : Nat} (hj : j < N) : (p_wm k ad N h)[j]? = some (ad j, p_e k ad (h j)) := by
  simp [p_wm, hj]
theorem p_wm_set {k : ClassId × ClassId × ClassId} {ad : Nat → Nat} {N : Nat} {h : pH} (j : Nat) (x : pE) : (p_wm k ad N h).set j (ad j, p_e k ad x) = p_wm k ad N (pu h j x) := by
  apply List.ext_getElem?
  intro i
  by_cases hi : i < N
  · by_cases e : j = i
    · subst e
      rw [List.getElem?_set_self (by simp [p_wm, hi]), p_wm_get hi]
      simp [pu]
    · rw [List.getElem?_set_ne e, p_wm_get hi, p_wm_get hi]
      simp [pu, Ne.symm e]
  · rw [List.getElem?_eq_none (by simp [p_wm]; omega), List.getElem?_eq_none (by simp [p_wm]; omega)]
theorem p_wm_D {k : ClassId × ClassId × ClassId} {ad : Nat → Nat} {N : Nat} (inj : ∀ i j, i < N → j < N → ad i = ad j → i = j) (h : pH) : va_D (p_A ad N) (p_wm k ad N h) := by
  have lt : ∀ {i : Nat} {q : Nat × va_E}, (p_wm k ad N h)[i]? = some q → i < N := fun {i q} hi => by
    have := (List.getElem?_eq_some_iff.mp hi).1
    simpa [p_wm] using this
  refine ⟨fun i j p q hi hj hpq => ?_, fun i q hi => ?_⟩
  · have h1 := lt hi
    have h2 := lt hj
    rw [p_wm_get h1] at hi
    rw [p_wm_get h2] at hj
    cases hi
    cases hj
    exact inj i j h1 h2 hpq
  · have h1 := lt hi
    rw [p_wm_get h1] at hi
    cases hi
    exact ⟨i, h1, rfl⟩
theorem p_look {i : Nat} {v : Value} : ∀ {lv : pLv}, List.lookup i lv = some v → (i, v) ∈ lv
  | [], h => by simp at h
  | (j, w) :: r, h => by
    rw [List.lookup_cons] at h
    by_cases e : i = j
    · subst e
      simp at h
      subst h
      exact List.mem_cons_self
    · have e2 : (i == j) = false := by simpa using e
      rw [e2] at h
      exact List.mem_cons_of_mem _ (p_look h)
theorem p_lv_at {ad : Nat → Nat} {ls : Array Slot} {nL i : Nat} {lv : pLv} {v : Value} (hl : lv_has ls nL (p_lv ad lv)) (h : List.lookup i lv = some v) : ls[i]? = some (.val (p_v ad v)) :=
  hl.2.2 (i, p_v ad v) (List.mem_map.mpr ⟨(i, v), p_look h, rfl⟩)
theorem p_ins_mem {i : Nat} {v : Value} {q : Nat × Value} : ∀ {lv : pLv}, q ∈ p_ins i v lv → q = (i, v) ∨ q ∈ lv
  | [], h => Or.inl (by simpa [p_ins] using h)
  | x :: r, h => by
    unfold p_ins at h
    split at h
    · exact List.mem_cons.mp h
    · rcases List.mem_cons.mp h with h | h
      · exact Or.inr (by rw [h]; exact List.mem_cons_self)
      · rcases p_ins_mem h with h | h
        · exact Or.inl h
        · exact Or.inr (List.mem_cons_of_mem _ h)
theorem p_lv_mono {ad : Nat → Nat} {ls : Array Slot} {nL : Nat} {l : pLv} {lv : pLv} (h : lv_has ls nL l) (hm : ∀ q ∈ lv, (q.1, p_v ad q.2) ∈ l) : lv_has ls nL (p_lv ad lv) := by
  refine ⟨h.1, h.2.1, fun q hq => ?_⟩
  obtain ⟨x, hx, rfl⟩ := List.mem_map.mp hq
  exact h.2.2 _ (hm x hx)
theorem p_lv_live {ad : Nat → Nat} {ls : Array Slot} {nL : Nat} {lv : pLv} (ks : List Nat) (h : lv_has ls nL (p_lv ad lv)) : lv_has ls nL (p_lv ad (p_live ks lv)) := by
  refine p_lv_mono h (fun q hq => ?_)
  unfold p_live at hq
  split at hq
  · exact List.mem_map.mpr ⟨q, hq, rfl⟩
  · exact List.mem_map.mpr ⟨q, (List.mem_filter.mp hq).1, rfl⟩
theorem p_lv_s1 {ad : Nat → Nat} {ls : Array Slot} {nL i : Nat} {v : Value} {lv : pLv} (h : lv_has ls nL ((i, p_v ad v) :: (p_lv ad lv).filter (fun q => !(q.1 == i) && !(q.1 + 1 == i && q.2.category == 2)))) : lv_has ls nL (p_lv ad (p_s1 i v lv)) := by
  refine p_lv_mono h (fun q hq => ?_)
  rcases p_ins_mem hq with rfl | hq
  · exact List.mem_cons_self
  · obtain ⟨h1, h2⟩ := List.mem_filter.mp hq
    refine List.mem_cons_of_mem _ (List.mem_filter.mpr ⟨List.mem_map.mpr ⟨q, h1, rfl⟩, ?_⟩)
    simpa [p_v_cat] using h2
theorem p_lv_s2 {ad : Nat → Nat} {ls : Array Slot} {nL i : Nat} {v : Value} {lv : pLv} (h : lv_has ls nL ((i, p_v ad v) :: (p_lv ad lv).filter (fun q => !(q.1 == i) && (!(q.1 == i + 1) && !(q.1 + 1 == i && q.2.category == 2))))) : lv_has ls nL (p_lv ad (p_s2 i v lv)) := by
  refine p_lv_mono h (fun q hq => ?_)
  rcases p_ins_mem hq with rfl | hq
  · exact List.mem_cons_self
  · obtain ⟨h1, h2⟩ := List.mem_filter.mp hq
    refine List.mem_cons_of_mem _ (List.mem_filter.mpr ⟨List.mem_map.mpr ⟨q, h1, rfl⟩, ?_⟩)
    simpa [p_v_cat] using h2
theorem p_lv_args (ad : Nat → Nat) : ∀ (vs : List Value) (i : Nat), lv_args i (vs.map (p_v ad)) = p_lv ad (lv_args i vs)
  | [], _ => rfl
  | v :: vs, i => by
    simp only [List.map_cons, lv_args, p_v_cat, p_lv]
    congr 1
    exact p_lv_args ad vs _
theorem p_sl_len (ad : Nat → Nat) : ∀ (vs : List Value), (lg_sl (vs.map (p_v ad))).length = (lg_sl vs).length
  | [] => rfl
  | v :: vs => by
    have ih := p_sl_len ad vs
    unfold lg_sl at ih ⊢
    simp only [List.map_cons, List.flatMap_cons, List.length_append, p_v_cat, ih]
    split <;> rfl
theorem p_cats (ad : Nat → Nat) (vs : List Value) : ((vs.map (p_v ad)).map fun v => v.category).sum = (vs.map fun v => v.category).sum := by
  rw [List.map_map]
  congr 1
  apply List.map_congr_left
  intro v _
  exact p_v_cat ad v
/-! the words -/
def p_W : List Jvm.Cond := lw_tbl.filter goodWord
def p_word (i : Nat) (w : Jvm.Cond) : Bool := decide (lw_tbl[i]? = some w) && goodWord w
theorem p_word_in {i : Nat} {w : Jvm.Cond} (h : p_word i w = true) : w ∈ p_W := by
  simp only [p_word, Bool.and_eq_true, decide_eq_true_eq] at h
  exact List.mem_filter.mpr ⟨List.mem_of_getElem? h.1, h.2⟩
def p_isNest : Jvm.Cond → Bool
  | .methodLinkNest _ _ _ _ => true
  | _ => false
def p_nest (U : State) : Prop := ∀ w ∈ lw_tbl, p_isNest w = true → va_Nw w U
theorem p_nest.warm {s U : State} (hW : s.WarmedH U.vm) (h : p_nest s) : p_nest U := fun w hw hn => by
  have h1 := h w hw hn
  cases w <;> first | (simp [p_isNest] at hn; done) | exact va_Nw.warmM hW h1
theorem p_nest.same {u U : State} (hvm : u.vm = U.vm) (h : p_nest u) : p_nest U := fun w hw hn => by
  have h1 := h w hw hn
  cases w <;> first | (simp [p_isNest] at hn; done) | exact va_Nw.same rfl hvm h1
def p_ws (M : pM) : List Jvm.Cond := .code M.1 M.2.1 M.2.2.1 M.2.2.2.1 :: p_W
theorem p_good {w : Jvm.Cond} (h : w ∈ p_W) : (w.onTables && w.keeps) = true ∨ ∃ ty, w = .arrayClass ty := good_of_word (List.mem_filter.mp h).2
theorem p_ws_good {M M' : pM} (h : Jvm.Cond.code M'.1 M'.2.1 M'.2.2.1 M'.2.2.2.1 ∈ p_W) : GoodIn (p_ws M) (p_ws M') := fun w hw => by
  rcases List.mem_cons.mp hw with e | hw
  · subst e
    exact ⟨List.mem_cons_of_mem _ h, p_good h⟩
  · exact ⟨List.mem_cons_of_mem _ hw, p_good hw⟩
/-- frames d, locals 30 a frame -/
def p_rm (d : Nat) : Room := { frames := d, cells := 0, slots := 0, locals := 30 * d }
/-- how long an instruction is, as the rows want it -/
def p_ln (i : Instr) : Option Nat :=
  match i with
  | .aload _ => some 2
  | .iload _ => some 2
  | .lload _ => some 2
  | .istore _ => some 2
  | .lstore _ => some 2
  | .bipush _ => some 2
  | .ldc _ => some 2
  | .iinc _ _ => some 3
  | .sipush _ => some 3
  | .ldc_w _ => some 3
  | .ldc2_w _ => some 3
  | .goto _ => some 3
  | .ifCond _ _ => some 3
  | .if_icmp _ _ => some 3
  | .getfield _ => some 3
  | .putfield _ => some 3
  | .invokevirtual _ => some 3
  | .invokestatic _ => some 3
  | .tableswitch _ _ _ _ => none
  | .lookupswitch _ _ => none
  | _ => some 1
def p_okL (i : Instr) (len : Nat) : Bool :=
  match p_ln i with
  | some k => len == k
  | none => true
def p_okY (M' : pM) (na : Nat) : Bool :=
  decide (M'.1.cls ≠ "java/lang/invoke/MethodHandle") && decide (M'.1.cls ≠ "java/lang/invoke/VarHandle") && decide ((parseMethodDescriptor M'.1.desc).map (fun d => d.parameters.length) = some na)
def p_okW (Cs : List pCi) (Ms : List pM) (own : String) (q : pI) : Bool :=
  match q.2.1 with
  | .goto off => decide ((q.1 : Int) + off = (q.2.2.2.1.1 : Int))
  | .ifCond _ off => decide ((q.1 : Int) + off = (q.2.2.2.1.1 : Int))
  | .if_icmp _ off => decide ((q.1 : Int) + off = (q.2.2.2.1.1 : Int))
  | .ldc idx => p_word (q.2.2.2.2.1.getD 0 0) (.constant own idx (Int32.ofNat q.2.2.2.1.1))
  | .ldc_w idx => p_word (q.2.2.2.2.1.getD 0 0) (.constant own idx (Int32.ofNat q.2.2.2.1.1))
  | .ldc2_w idx => p_word (q.2.2.2.2.1.getD 0 0) (.constantLong own idx (if q.2.2.2.1.2.1 = 1 then -(Int64.ofNat q.2.2.2.1.1) else Int64.ofNat q.2.2.2.1.1))
  | .getfield idx => (match Cs[q.2.2.2.1.1]? with
    | some C => decide (q.2.2.2.1.2.1 < C.1.2.2) && p_word (q.2.2.2.2.1.getD 0 0) (.fieldLink own idx (C.1.2.1 q.2.2.2.1.2.1).1 (C.1.2.1 q.2.2.2.1.2.1).2.1 (C.1.2.1 q.2.2.2.1.2.1).2.2.1)
    | none => false)
  | .putfield idx => (match Cs[q.2.2.2.1.1]? with
    | some C => decide (q.2.2.2.1.2.1 < C.1.2.2) && !(C.1.2.1 q.2.2.2.1.2.1).2.2.2 && p_word (q.2.2.2.2.1.getD 0 0) (.fieldLink own idx (C.1.2.1 q.2.2.2.1.2.1).1 (C.1.2.1 q.2.2.2.1.2.1).2.1 (C.1.2.1 q.2.2.2.1.2.1).2.2.1)
    | none => false)
  | .invokevirtual idx => (match Ms[q.2.2.2.1.1]? with
    | some M' => p_okY M' q.2.2.2.1.2.1 && p_word (q.2.2.2.2.1.getD 0 0) (.methodLink own idx M'.1) && p_word (q.2.2.2.2.1.getD 1 0) (.instanceMethod M'.1) && p_word (q.2.2.2.2.1.getD 2 0) (.selects M'.1.cls M'.1 M'.1) && p_word (q.2.2.2.2.1.getD 3 0) (.initialized M'.1.cls) && decide ((Cs[q.2.2.2.1.2.2]?).map (fun C => C.1.1) = some M'.1.cls)
    | none => false)
  | .invokestatic idx => if q.2.2.2.1.2.2 = 2 then
      p_word (q.2.2.2.2.1.getD 0 0) (.methodLink own idx arraycopyName) && p_word (q.2.2.2.2.1.getD 1 0) (.native arraycopyName) && p_word (q.2.2.2.2.1.getD 2 0) (.static arraycopyName) && p_word (q.2.2.2.2.1.getD 3 0) (.initialized "java/lang/System")
    else if q.2.2.2.1.2.2 = 3 then
      p_word (q.2.2.2.2.1.getD 0 0) (.methodLink own idx Lib.Math.max.name) && p_word (q.2.2.2.2.1.getD 1 0) (.static Lib.Math.max.name) && p_word (q.2.2.2.2.1.getD 2 0) (.initialized "java/lang/Math") && p_word (q.2.2.2.2.1.getD 3 0) (.code Lib.Math.max.name Lib.Math.max.code 2 (some .int))
    else if q.2.2.2.1.2.2 = 4 then
      p_word (q.2.2.2.2.1.getD 0 0) (.methodLink own idx Lib.Math.min.name) && p_word (q.2.2.2.2.1.getD 1 0) (.static Lib.Math.min.name) && p_word (q.2.2.2.2.1.getD 2 0) (.initialized "java/lang/Math") && p_word (q.2.2.2.2.1.getD 3 0) (.code Lib.Math.min.name Lib.Math.min.code 2 (some .int))
    else (match Ms[q.2.2.2.1.1]? with
    | some M' => p_okY M' q.2.2.2.1.2.1 && p_word (q.2.2.2.2.1.getD 1 0) (.static M'.1) && p_word (q.2.2.2.2.1.getD 2 0) (.initialized M'.1.cls) &&
        (if q.2.2.2.1.2.2 = 1 then decide (lw_tbl[q.2.2.2.2.1.getD 0 0]? = some (.methodLinkNest own idx M'.1 "LabelTree")) else p_word (q.2.2.2.2.1.getD 0 0) (.methodLink own idx M'.1))
    | none => false)
  | _ => true
def p_okI (Cs : List pCi) (Ms : List pM) (M : pM) (q : pI) : Bool :=
  decide (decode M.2.1 q.1 = .ok (q.2.1, q.2.2.1)) && p_okL q.2.1 q.2.2.1 && p_okW Cs Ms M.1.cls q
def p_okM (Cs : List pCi) (Ms : List pM) (M : pM) : Prop :=
  (∀ q ∈ M.2.2.2.2.2, p_okI Cs Ms M q = true) ∧ Jvm.Cond.code M.1 M.2.1 M.2.2.1 M.2.2.2.1 ∈ p_W ∧ plainName M.1.cls = true ∧ M.2.2.1 ≤ 11
/-- what is known of the classes -/
def p_okC (Cs : List pCi) : Prop := ∀ (ci : Nat) (q : pCi), Cs[ci]? = some q → (∀ w ∈ u_ws q.1.1 q.1.2.1 q.1.2.2, w ∈ p_W) ∧ (∀ k, k < q.1.2.2 → parseFieldDescriptor (q.1.2.1 k).2.2.1 = some (q.2 k)) ∧ (∀ a, a < q.1.2.2 → ∀ b, b < q.1.2.2 → a ≠ b → (q.1.2.1 a).2.1 ≠ (q.1.2.1 b).2.1)
theorem p_fit {ty : FieldType} {ad : Nat → Nat} {v : Value} (h1 : narrow ty v = v) (h2 : fits ty v = true) : narrow ty (p_v ad v) = p_v ad v ∧ fits ty (p_v ad v) = true := by
  cases v with
  | ref a => cases ty <;> first | (simp [fits] at h2; done) | exact ⟨rfl, rfl⟩
  | _ => exact ⟨h1, h2⟩
