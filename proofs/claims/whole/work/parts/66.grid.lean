/-! new long[8][24], by the model's own words: gd_step -/
/-- the tables know the class of arrays of such arrays -/
def va_AOA (ty : FieldType) (s : State) : Prop := ∀ args : Array Value, (Cond.arrayOver (.array ty)).before args s = true
/-- the outer row when i of its eight rows are in it -/
def gd_o (cA : ClassId) (b i : Nat) : Cell := arrV cA 8 (fun j => va_rf (if j < i then some (b + 1 + j) else none))
def gd_r (cJ : ClassId) : Cell := arrV cJ 24 (fun _ => .long 0)
/-- the state when i rows stand -/
def gd_S (cA cJ : ClassId) (U : State) : Nat → State
  | 0 => U.pushCell (gd_o cA U.heap.size 0)
  | i + 1 => ((gd_S cA cJ U i).pushCell (gd_r cJ)).setCell U.heap.size (gd_o cA U.heap.size (i + 1))
theorem gd_top (cA cJ : ClassId) (U : State) (f : JFrame) : ∀ i, gd_S cA cJ (U.setTop f) i = (gd_S cA cJ U i).setTop f
  | 0 => rfl
  | i + 1 => by
    show ((gd_S cA cJ (U.setTop f) i).pushCell _).setCell _ _ = _
    rw [gd_top cA cJ U f i]
    rfl
theorem gd_set (cA : ClassId) (b i : Nat) : (gd_o cA b i).setSlot i (.ref (b + 1 + i)) = gd_o cA b (i + 1) := by
  unfold gd_o
  rw [arrV_store]
  refine congrArg (arrV cA 8) (funext fun j => ?_)
  unfold updV
  by_cases e : j = i
  · subst e
    rw [if_pos rfl, if_pos (Nat.lt_succ_self j)]
    rfl
  · rw [if_neg e]
    show va_rf (if j < i then some (b + 1 + j) else none) = va_rf (if j < i + 1 then some (b + 1 + j) else none)
    by_cases h : j < i
    · rw [if_pos h, if_pos (Nat.lt_succ_of_lt h)]
    · rw [if_neg h, if_neg (by omega)]
theorem gd_o0 (cA : ClassId) (b : Nat) : gd_o cA b 0 = arrV cA 8 (fun _ => .null) := by
  unfold gd_o
  refine congrArg (arrV cA 8) (funext fun j => ?_)
  rw [if_neg (Nat.not_lt_zero j)]
  rfl
/-- what the heap holds then -/
theorem gd_heap (cA cJ : ClassId) (U : State) : ∀ i, (gd_S cA cJ U i).vm = U.vm ∧ (gd_S cA cJ U i).heap.size = U.heap.size + 1 + i ∧ (gd_S cA cJ U i).heap[U.heap.size]? = some (gd_o cA U.heap.size i) ∧ (∀ j, j < i → (gd_S cA cJ U i).heap[U.heap.size + 1 + j]? = some (gd_r cJ)) ∧ ∀ x, x < U.heap.size → (gd_S cA cJ U i).heap[x]? = U.heap[x]?
  | 0 => ⟨rfl, by show (U.heap.push _).size = _; rw [Array.size_push], by show (U.heap.push _)[U.heap.size]? = _; rw [Array.getElem?_push, if_pos rfl], fun j hj => absurd hj (Nat.not_lt_zero _), fun x hx => by show (U.heap.push _)[x]? = _; rw [Array.getElem?_push, if_neg (Nat.ne_of_lt hx)]⟩
  | i + 1 => by
    obtain ⟨h1, h2, h3, h4, h5⟩ := gd_heap cA cJ U i
    have eH : (gd_S cA cJ U (i + 1)).heap = ((gd_S cA cJ U i).heap.push (gd_r cJ)).setIfInBounds U.heap.size (gd_o cA U.heap.size (i + 1)) := rfl
    refine ⟨h1, ?_, ?_, fun j hj => ?_, fun x hx => ?_⟩
    · rw [eH, Array.size_setIfInBounds, Array.size_push, h2]
      rfl
    · rw [eH, Array.getElem?_setIfInBounds, if_pos rfl, if_pos (by rw [Array.size_push, h2]; omega)]
    · rw [eH, Array.getElem?_setIfInBounds, if_neg (by omega), Array.getElem?_push]
      by_cases e : j = i
      · rw [if_pos (by rw [h2, e])]
      · rw [if_neg (by rw [h2]; omega)]
        exact h4 j (by omega)
    · rw [eH, Array.getElem?_setIfInBounds, if_neg (by omega), Array.getElem?_push, if_neg (by rw [h2]; omega)]
      exact h5 x hx
section GRID
variable {p : Program} {l : Launch} {e : Env} {R : Room} {s : State} {m : MethodId} {args : Array Value} {below : List Frame} {meth : Method} {c : Code} {Q : State → Prop} {H : Heap} {locs : List Loc} {cells slots : Nat}
theorem gd_stand {T : State} (X : Stand p l e R s m args below meth c T locs cells slots) (hs : s.heap.size ≤ T.heap.size) (cA cJ : ClassId) : ∀ i, Stand p l e R s m args below meth c (gd_S cA cJ T i) locs (cells + 1 + i) (slots + 8 + i * 24)
  | 0 => by
    have h := X.pushed (gd_o cA T.heap.size 0)
    rw [show (gd_o cA T.heap.size 0).slots.size = 8 from arrV_size _ _ _] at h
    rw [Nat.zero_mul, Nat.add_zero, Nat.add_zero]
    exact h
  | i + 1 => by
    have X1 := gd_stand X hs cA cJ i
    obtain ⟨-, h2, h3, -⟩ := gd_heap cA cJ T i
    have h := X1.pushed (gd_r cJ)
    rw [show (gd_r cJ).slots.size = 24 from arrV_size _ _ _] at h
    have hc : ((gd_S cA cJ T i).pushCell (gd_r cJ)).heap[T.heap.size]? = some (gd_o cA T.heap.size i) := by
      show ((gd_S cA cJ T i).heap.push _)[T.heap.size]? = _
      rw [Array.getElem?_push, if_neg (by rw [h2]; omega)]
      exact h3
    have h := (h.stored hc i (.ref (T.heap.size + 1 + i))).forget (fun y hy => by rw [List.mem_singleton.mp hy]; exact hs)
    rw [gd_set] at h
    rw [show slots + 8 + (i + 1) * 24 = slots + 8 + i * 24 + 24 by omega]
    exact h
end GRID
/-- the array class over arrays, and what it is over -/
theorem gd_over {t : FieldType} {a : Array Value} {s : State} (h : (Cond.arrayOver (.array t)).before a s = true) : ∃ comp c k, s.vm.findClass (FieldType.array t).toString = some comp ∧ s.vm.findClass ("[" ++ (FieldType.array t).toString) = some c ∧ s.vm.classes[c]? = some k ∧ k.kind = .array comp (.array t) := by
  simp only [Cond.before, Cond.holds, Cond.value, beq_iff_eq] at h
  obtain ⟨comp, hcomp, h⟩ := Option.bind_eq_some_iff.mp h
  obtain ⟨c, hc, h⟩ := Option.bind_eq_some_iff.mp h
  obtain ⟨k, hk, h⟩ := Option.map_eq_some_iff.mp h
  obtain ⟨hlt, hp, -⟩ := Array.findIdx?_eq_some_iff_getElem.mp hc
  rw [(Array.getElem?_eq_some_iff.mp hk).2] at hp
  cases hkind : k.kind with
  | array cm ty =>
    rw [hkind] at h hp
    simp only [Bool.and_eq_true, decide_eq_true_eq] at h
    have hp : cm = comp := by simpa using hp
    exact ⟨comp, c, k, hcomp, h.2, hk, by rw [hkind, hp, h.1]⟩
  | _ => rw [hkind] at h; cases h
section GRIDW
variable {E : CtlPost} {e : Env} {d : Bool} {acts : List Action} {s : State}
/-- a new array of an array class, nothing in it yet -/
theorem gd_new {c comp : ClassId} {k : Class} {ty : FieldType} {n : Nat} {v : Value} (hk : s.vm.classes[c]? = some k) (hkind : k.kind = .array comp ty) (h1 : n ≤ 1000) (hl : 1000 ≤ e.platform.arrayLengthLimit) (hh : 8000 ≤ e.platform.maxHeapBytes) (hby : componentBytes ty ≤ 8) (hf : fits ty v = true) (hc : s.heap.size < e.platform.maxCells) (hs : s.slotsUsed + n ≤ e.platform.maxSlots) {Q : Addr → Pre} (hq : ∀ acts', Q s.heap.size d acts' (s.pushCell (arrV c n (fun _ => v)))) : wp (Jvm.newArray c n v) Q E e d acts s := by
  have a1 : ¬ n > e.platform.arrayLengthLimit := by omega
  have a2 : ¬ n * componentBytes ty > e.platform.maxHeapBytes := by
    have : n * componentBytes ty ≤ 1000 * 8 := Nat.mul_le_mul h1 hby
    omega
  have a3 : ¬ n > e.platform.maxSlots := by omega
  simp only [Jvm.newArray, Jvm.arrayFits, wp_bind', W.ask, W.ite, a1, if_false, wp_pure', W.theClass, hk, hkind, a2, a3, W.alloc, Option.some.injEq, exists_eq_left', Array.size_replicate]
  refine ⟨hc, hs, fun i w hw => ?_, ?_⟩
  · rw [Array.getElem?_replicate] at hw
    split at hw
    · cases hw
      simp [State.fitsSlot, State.slotType?, hk, hkind, hf]
    · cases hw
  · rw [arrV_new]
    exact hq _
end GRIDW
section GRIDS
variable {p : Program} {l : Launch} {e : Env} {R : Room} {s : State} {m : MethodId} {args : Array Value} {below : List Frame} {meth : Method} {c : Code} {Q : State → Prop} {H : Heap} {locs : List Loc} {cells slots : Nat} {cc : ByteArray} {pc : Nat} {ls : Array Slot} {rest : List Value}
theorem gd_row {E : CtlPost} {d : Bool} {acts : List Action} {V : State} {f : JFrame} {cJ cE : ClassId} {kJ : Class} (hJ : V.vm.classes[cJ]? = some kJ) (hkJ : kJ.kind = .array cE .long) (hl : 1000 ≤ e.platform.arrayLengthLimit) (hh : 8000 ≤ e.platform.maxHeapBytes) (hc : V.heap.size < e.platform.maxCells) (hs : V.slotsUsed + 24 ≤ e.platform.maxSlots) {Q : Addr → Pre} (hq : ∀ acts', Q V.heap.size d acts' ((V.pushCell (gd_r cJ)).setTop f)) : wp (multianewarray.make cJ [24]) Q E e d acts (V.setTop f) := by
  have n24 : Int32.toNatClampNeg 24 = 24 := by decide
  rw [multianewarray.make, if_neg (by decide)]
  simp only [wp_bind', W.theClass, State.vm_setTop, hJ, Option.some.injEq, exists_eq_left', hkJ, n24]
  exact gd_new (s := V.setTop f) hJ hkJ (by decide) hl hh (by decide) rfl hc hs hq
theorem gd_make {E : CtlPost} {d : Bool} {acts : List Action} {U : State} {f : JFrame} {cA cJ cE : ClassId} {kA kJ : Class} (X : Stand p l e R s m args below meth c U locs cells slots) (hs : s.heap.size ≤ U.heap.size) (hA : U.vm.classes[cA]? = some kA) (hkA : kA.kind = .array cJ (.array .long)) (hJ : U.vm.classes[cJ]? = some kJ) (hkJ : kJ.kind = .array cE .long) (hcells : cells + (1 + 8) ≤ R.cells) (hslots : slots + (8 + 8 * 24) ≤ R.slots) {Q : Addr → Pre} (hq : ∀ d' acts', Q U.heap.size d' acts' ((gd_S cA cJ U 8).setTop f)) : wp (multianewarray.make cA [8, 24]) Q E e d acts (U.setTop f) := by
  have hl : 1000 ≤ e.platform.arrayLengthLimit := by rw [Launch.admits_arrayLengthLimit X.admits]; decide
  have hh : 8000 ≤ e.platform.maxHeapBytes := by rw [Launch.admits_maxHeapBytes X.admits]; decide
  obtain ⟨r1, r2⟩ := X.roomAbove (a := 1) (b := 8) (by omega) (by omega)
  have n8 : Int32.toNatClampNeg 8 = 8 := by decide
  have b8 : ((8 : Int32) == 0) = false := by decide
  rw [multianewarray.make, if_neg (by decide)]
  simp only [wp_bind', W.theClass, State.vm_setTop, hA, Option.some.injEq, exists_eq_left', hkA, n8, b8, Bool.false_eq_true, if_false]
  refine gd_new (s := U.setTop f) hA hkA (by decide) hl hh (by decide) rfl (by show U.heap.size < _; omega) r2 (fun acts' => ?_)
  have e0 : (U.setTop f).pushCell (arrV cA 8 fun _ => .null) = (gd_S cA cJ U 0).setTop f := by
    rw [← gd_o0 cA U.heap.size]
    rfl
  rw [e0, wp_bind', Std.Legacy.Range.forIn_eq_forIn_range']
  show wp (forIn (List.range' 0 8) PUnit.unit _) _ E e d acts' _
  refine wp_forIn_inv (fun todo V => ∃ i, i ≤ 8 ∧ todo = List.range' i (8 - i) ∧ V = (gd_S cA cJ U i).setTop f) _ _ ⟨0, by decide, rfl, rfl⟩ ?_ ?_
  · rintro x todo V d1 acts1 Q1 ⟨i, hi, hli, rfl⟩ hnext
    have hi8 : i < 8 := by
      rcases Nat.lt_or_ge i 8 with h | h
      · exact h
      · rw [show 8 - i = 0 by omega] at hli
        cases hli
    rw [show 8 - i = (7 - i) + 1 by omega, List.range'_succ] at hli
    obtain ⟨rfl, rfl⟩ := List.cons.inj hli
    have XI := gd_stand X hs cA cJ x
    obtain ⟨v1, v2, v3, v4, v5⟩ := gd_heap cA cJ U x
    obtain ⟨q1, q2⟩ := XI.roomAbove (a := 1) (b := 24) (by omega) (by omega)
    simp only [wp_bind']
    refine gd_row (by rw [v1]; exact hJ) hkJ hl hh (by omega) q2 (fun acts2 => ?_)
    simp only [wp_bind', W.writeLoc, wp_pure']
    have hc : ((gd_S cA cJ U x).pushCell (gd_r cJ)).heap[U.heap.size]? = some (gd_o cA U.heap.size x) := by
      show ((gd_S cA cJ U x).heap.push _)[U.heap.size]? = _
      rw [Array.getElem?_push, if_neg (by rw [v2]; omega)]
      exact v3
    refine ⟨gd_o cA U.heap.size x, hc, (fun h => by cases h), (by rw [show (gd_o cA U.heap.size x).slots.size = 8 from arrV_size _ _ _]; exact hi8), ?_, hnext _ _ _ ⟨x + 1, hi8, by rw [show 8 - (x + 1) = 7 - x by omega], ?_⟩⟩
    · have hv : ((gd_S cA cJ U x).pushCell (gd_r cJ)).vm.classes[cA]? = some kA := by
        show (gd_S cA cJ U x).vm.classes[cA]? = _
        rw [v1]
        exact hA
      simp [State.fitsSlot, State.slotType?, gd_o, arrV, v1, hA, hkA, fits]
    · rw [v2, gd_set]
      rfl
  · rintro V d1 acts1 ⟨i, hi, hli, rfl⟩
    have hi8 : i = 8 := by
      rcases Nat.lt_or_ge i 8 with h | h
      · rw [show 8 - i = (7 - i) + 1 by omega, List.range'_succ] at hli
        cases hli
      · omega
    subst hi8
    simp only [wp_pure']
    exact hq _ _
theorem gd_step (hexec : p.tables.exec = Jvm.exec) (hb : c.code = cc) {own : String} {index : Nat} {cA cJ cE : ClassId} {kA kJ : Class} (hown : s.vm.findClass own = some m.cls) (hlink : (Cond.classLink own index "[[J").before args s = true) (fA : s.vm.findClass "[[J" = some cA) (hA : s.vm.classes[cA]? = some kA) (hkA : kA.kind = .array cJ (.array .long)) (hJ : s.vm.classes[cJ]? = some kJ) (hkJ : kJ.kind = .array cE .long) (hs : s.heap.size ≤ H.size) (hcells : cells + (1 + 8) ≤ R.cells) (hslots : slots + (8 + 8 * 24) ≤ R.slots) (hd : decode cc pc = .ok (.multianewarray index 2, 4))
    (kk : ∀ H1 : Heap, H1[H.size]? = some (gd_o cA H.size 8) → (∀ j, j < 8 → H1[H.size + 1 + j]? = some (gd_r cJ)) → (∀ x, x < H.size → H1[x]? = H[x]?) → H1.size = H.size + 1 + 8 → W p l e R s m args below meth c H1 locs (cells + 1 + 8) (slots + 8 + 8 * 24) Q (F0 m (pc + 4) ls (.ref H.size :: rest))) : W p l e R s m args below meth c H locs cells slots Q (F0 m pc ls (.int 24 :: .int 8 :: rest)) := by
  intro T hT X
  have hpl : e.platform.magicAccessors = ({} : Platform).magicAccessors := by rw [X.admits.platform]
  obtain ⟨c0, hc0, hcl⟩ := Cond.classLink_spec hown hlink e.platform hpl
  have e0 : c0 = cA := Option.some.inj (hc0.symm.trans fA)
  subst e0
  obtain ⟨hg1, hw1, hr1⟩ := State.classEntry (e := e) X.warmed hcl
  generalize T.vm.noted m.cls index (.cls c0) = vm1 at hg1 hw1 hr1
  have X1 := X.noted hw1
  obtain ⟨kA1, hA1, eA1⟩ := hw1.alike.2.2 _ _ hA
  obtain ⟨kJ1, hJ1, eJ1⟩ := hw1.alike.2.2 _ _ hJ
  have XF := gd_stand X1 (by show s.heap.size ≤ T.heap.size; rw [hT]; exact hs) c0 cJ 8
  obtain ⟨-, z2, z3, z4, z5⟩ := gd_heap c0 cJ (T.setVm vm1) 8
  have eT : (T.setVm vm1).heap = H := hT
  rw [eT] at z2 z3 z4 z5
  obtain ⟨t, a1, b1⟩ := kk _ z3 z4 z5 z2 _ rfl XF
  refine ⟨t, ?_, b1⟩
  have kA2 : kA1.kind = .array cJ (.array .long) := by rw [eA1]; exact hkA
  have kJ2 : kJ1.kind = .array cE .long := by rw [eJ1]; exact hkJ
  jvm_step X.here [hexec, hb, hd]
  have hm : (T.setTop (F0 m pc ls (.int 24 :: .int 8 :: rest))).method? = some m := State.method?_setTop _ X.here.top
  simp only [multianewarray.sem, wp_bind', W.resolveClassAt_links (vm' := vm1) hm hg1]
  rw [W.popN, if_neg (by decide)]
  refine ⟨_, State.topJava?_setTop' (s := T.setVm vm1) _ X.here.top, [.int 8, .int 24], rest, rfl, rfl, ?_⟩
  simp only [List.mapM_cons, List.mapM_nil, wp_bind', wp_pure', State.setVm_setTop, State.setTop_setTop]
  refine gd_make X1 (by show s.heap.size ≤ T.heap.size; rw [hT]; exact hs) hA1 kA2 hJ1 kJ2 hcells hslots (fun d1 acts1 => ?_)
  simp only [wp_bind', W.mark, W.pushRef, State.topJava?_setTop' _ XF.here.top, Option.some.injEq, exists_eq_left', State.setTop_setTop]
  intro acts2
  simp only [eT]
  simp [jvm, XF.here.top]
  exact a1
end GRIDS
