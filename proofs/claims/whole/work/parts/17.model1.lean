/-! the reference: its methods as functions -/
def fX10_in (v : Int32) (low : Int32) (high : Int32) : Int32 := (if v < low then 0 else (if high < v then 0 else 1))
theorem spX10_in {d : Nat} {h : pH}  (v : Int32) (low : Int32) (high : Int32) : Ev d mX10_in (h, 0, [(0, .int v), (1, .int low), (2, .int high)], []) (fun r h1 => r = some (.int (fX10_in v low high)) ∧ h1 = h) := by
  refine Ev.go 2 (s' := (h, 2, [(0, .int v), (1, .int low), (2, .int high)], [.int low, .int v])) rfl ?_
  refine Ev.if2 rfl (fun c1 => ?_) (fun c1 => ?_)
  · have c1 : v < low := c1
    refine Ev.go 1 (s' := (h, 15, [(0, .int v), (1, .int low), (2, .int high)], [.int 0])) rfl ?_
    exact Ev.ret rfl rfl (p_retZ rfl) ⟨congrArg (fun z => some (Value.int z)) (by rw [fX10_in, if_pos c1]), rfl⟩
  · have c1 : ¬ (v < low) := c1
    refine Ev.go 2 (s' := (h, 7, [(0, .int v), (1, .int low), (2, .int high)], [.int high, .int v])) rfl ?_
    refine Ev.if2 rfl (fun c2 => ?_) (fun c2 => ?_)
    · have c2 : high < v := c2
      refine Ev.go 1 (s' := (h, 15, [(0, .int v), (1, .int low), (2, .int high)], [.int 0])) rfl ?_
      exact Ev.ret rfl rfl (p_retZ rfl) ⟨congrArg (fun z => some (Value.int z)) (by rw [fX10_in, if_neg c1, if_pos c2]), rfl⟩
    · have c2 : ¬ (high < v) := c2
      refine Ev.go 2 (s' := (h, 15, [(0, .int v), (1, .int low), (2, .int high)], [.int 1])) rfl ?_
      exact Ev.ret rfl rfl (p_retZ rfl) ⟨congrArg (fun z => some (Value.int z)) (by rw [fX10_in, if_neg c1, if_neg c2]), rfl⟩
def fX10_has (set : Int32) (k : Int32) : Int32 := (if ¬ ((set >>> (k &&& 31)) &&& 1) = 1 then 0 else 1)
theorem spX10_has {d : Nat} {h : pH}  (set : Int32) (k : Int32) : Ev d mX10_has (h, 0, [(0, .int set), (1, .int k)], []) (fun r h1 => r = some (.int (fX10_has set k)) ∧ h1 = h) := by
  refine Ev.go 6 (s' := (h, 6, [(0, .int set), (1, .int k)], [.int 1, .int ((set >>> (k &&& 31)) &&& 1)])) rfl ?_
  refine Ev.if2 rfl (fun c1 => ?_) (fun c1 => ?_)
  · have c1 : ¬ ((set >>> (k &&& 31)) &&& 1) = 1 := c1
    refine Ev.go 1 (s' := (h, 14, [(0, .int set), (1, .int k)], [.int 0])) rfl ?_
    exact Ev.ret rfl rfl (p_retZ rfl) ⟨congrArg (fun z => some (Value.int z)) (by rw [fX10_has, if_pos c1]), rfl⟩
  · have c1 : ¬ (¬ ((set >>> (k &&& 31)) &&& 1) = 1) := c1
    refine Ev.go 2 (s' := (h, 14, [(0, .int set), (1, .int k)], [.int 1])) rfl ?_
    exact Ev.ret rfl rfl (p_retZ rfl) ⟨congrArg (fun z => some (Value.int z)) (by rw [fX10_has, if_neg c1]), rfl⟩
def fX10_isNode (M : tM) (v : Int32) : Int32 := (if (fX10_in v 0 23) = 0 then 0 else (if (fX10_has (M.1 0) v) = 0 then 0 else 1))
theorem spX10_isNode {d : Nat} {h : pH} {M : tM} (xM : isM h M) (v : Int32) : Ev (d + 1) mX10_isNode (h, 0, [(0, .ref 73), (1, .int v)], []) (fun r h1 => r = some (.int (fX10_isNode M v)) ∧ h1 = h) := by
  refine Ev.go 3 (s' := (h, 4, [(0, .ref 73), (1, .int v)], [.int 23, .int 0, .int v])) rfl ?_
  refine Ev.callE rfl rfl rfl rfl rfl (Nat.le_of_ble_eq_true rfl) (spX10_in  v 0 23) ?_
  refine Ev.if1 rfl (fun c1 => ?_) (fun c1 => ?_)
  · have c1 : (fX10_in v 0 23) = 0 := c1
    refine Ev.go 1 (s' := (h, 26, [(0, .ref 73), (1, .int v)], [.int 0])) rfl ?_
    exact Ev.ret rfl rfl (p_retZ rfl) ⟨congrArg (fun z => some (Value.int z)) (by rw [fX10_isNode, if_pos c1]), rfl⟩
  · have c1 : ¬ ((fX10_in v 0 23) = 0) := c1
    refine Ev.go 1 (s' := (h, 11, [(0, .ref 73), (1, .int v)], [.ref 73])) rfl ?_
    refine Ev.get rfl (by decide) xM.1 rfl ?_
    refine Ev.go 1 (s' := (h, 15, [(0, .ref 73), (1, .int v)], [.int v, .int (M.1 0)])) rfl ?_
    refine Ev.callE rfl rfl rfl rfl rfl (Nat.le_of_ble_eq_true rfl) (spX10_has  (M.1 0) v) ?_
    refine Ev.if1 rfl (fun c2 => ?_) (fun c2 => ?_)
    · have c2 : (fX10_has (M.1 0) v) = 0 := c2
      refine Ev.go 1 (s' := (h, 26, [(0, .ref 73), (1, .int v)], [.int 0])) rfl ?_
      exact Ev.ret rfl rfl (p_retZ rfl) ⟨congrArg (fun z => some (Value.int z)) (by rw [fX10_isNode, if_neg c1, if_pos c2]), rfl⟩
    · have c2 : ¬ ((fX10_has (M.1 0) v) = 0) := c2
      refine Ev.go 2 (s' := (h, 26, [(0, .ref 73), (1, .int v)], [.int 1])) rfl ?_
      exact Ev.ret rfl rfl (p_retZ rfl) ⟨congrArg (fun z => some (Value.int z)) (by rw [fX10_isNode, if_neg c1, if_neg c2]), rfl⟩
def fX10_isTag (t : Int32) : Option (Int32) := (if (fX10_in t 0 5) &&& 1 = (fX10_in t 0 5) then some (fX10_in t 0 5) else none)
theorem spX10_isTag {d : Nat} {h : pH}  (t : Int32) {res : Int32} (H : fX10_isTag t = some res) : Ev (d + 1) mX10_isTag (h, 0, [(0, .int t)], []) (fun r h1 => r = some (.int res) ∧ h1 = h) := by
  unfold fX10_isTag at H
  refine Ev.go 3 (s' := (h, 3, [(0, .int t)], [.int 5, .int 0, .int t])) rfl ?_
  refine Ev.callE rfl rfl rfl rfl rfl (Nat.le_of_ble_eq_true rfl) (spX10_in  t 0 5) ?_
  have v1 : (fX10_in t 0 5) &&& 1 = (fX10_in t 0 5) := Classical.byContradiction fun q => by rw [if_neg q] at H; cases H
  rw [if_pos v1] at H
  have H := Option.some.inj H
  subst H
  exact Ev.ret rfl rfl (p_retZ (t := .boolean) (congrArg Value.int v1)) ⟨rfl, rfl⟩
def fX10_root (M : tM) (tag : Int32) : Option (tM) := some (va_up (va_up M.1 0 1) 1 1, va_up (va_up (va_up M.2.1 3 (upd (M.2.1 3) 0 tag)) 4 (upd (M.2.1 4) 0 (-4))) 5 (upd (M.2.1 5) 0 0), M.2.2)
theorem spX10_root {d : Nat} {h : pH} {M : tM} (xM : isM h M) (tag : Int32) {res : tM} (H : fX10_root M tag = some res) : Ev d mX10_root (h, 0, [(0, .ref 73), (1, .int tag)], []) (fun r h1 => r = none ∧ isM h1 res ∧ fr [(73, 89)] h h1) := by
  unfold fX10_root at H
  refine Ev.go 2 (s' := (h, 2, [(0, .ref 73), (1, .int tag)], [.int 1, .ref 73])) rfl ?_
  refine Ev.put rfl rfl (by decide) xM.1 (Nat.le_of_ble_eq_true rfl) rfl rfl (fs' := [.int 1, .int (M.1 1), .int (M.1 2), .ref 74, .ref 75, .ref 76, .ref 77, .int (M.1 7), .ref 78, .int (M.1 9), .ref 79, .int (M.1 11), .int (M.1 12), .int (M.1 13), .ref 80, .int (M.1 15), .int (M.1 16), .ref 81, .ref 82, .ref 83, .int (M.1 20), .int (M.1 21), .ref 84, .ref 85, .ref 86, .ref 87, .ref 88]) rfl ?_
  refine Ev.go 2 (s' := ((pu h 73 (eO 9 [.int 1, .int (M.1 1), .int (M.1 2), .ref 74, .ref 75, .ref 76, .ref 77, .int (M.1 7), .ref 78, .int (M.1 9), .ref 79, .int (M.1 11), .int (M.1 12), .int (M.1 13), .ref 80, .int (M.1 15), .int (M.1 16), .ref 81, .ref 82, .ref 83, .int (M.1 20), .int (M.1 21), .ref 84, .ref 85, .ref 86, .ref 87, .ref 88])), 7, [(0, .ref 73), (1, .int tag)], [.int 1, .ref 73])) rfl ?_
  refine Ev.put rfl rfl (by decide) pu_s (Nat.le_of_ble_eq_true rfl) rfl rfl (fs' := [.int 1, .int 1, .int (M.1 2), .ref 74, .ref 75, .ref 76, .ref 77, .int (M.1 7), .ref 78, .int (M.1 9), .ref 79, .int (M.1 11), .int (M.1 12), .int (M.1 13), .ref 80, .int (M.1 15), .int (M.1 16), .ref 81, .ref 82, .ref 83, .int (M.1 20), .int (M.1 21), .ref 84, .ref 85, .ref 86, .ref 87, .ref 88]) rfl ?_
  refine Ev.go 1 (s' := ((pu (pu h 73 (eO 9 [.int 1, .int (M.1 1), .int (M.1 2), .ref 74, .ref 75, .ref 76, .ref 77, .int (M.1 7), .ref 78, .int (M.1 9), .ref 79, .int (M.1 11), .int (M.1 12), .int (M.1 13), .ref 80, .int (M.1 15), .int (M.1 16), .ref 81, .ref 82, .ref 83, .int (M.1 20), .int (M.1 21), .ref 84, .ref 85, .ref 86, .ref 87, .ref 88])) 73 (eO 9 [.int 1, .int 1, .int (M.1 2), .ref 74, .ref 75, .ref 76, .ref 77, .int (M.1 7), .ref 78, .int (M.1 9), .ref 79, .int (M.1 11), .int (M.1 12), .int (M.1 13), .ref 80, .int (M.1 15), .int (M.1 16), .ref 81, .ref 82, .ref 83, .int (M.1 20), .int (M.1 21), .ref 84, .ref 85, .ref 86, .ref 87, .ref 88])), 11, [(0, .ref 73), (1, .int tag)], [.ref 73])) rfl ?_
  refine Ev.get rfl (by decide) pu_s rfl ?_
  refine Ev.go 2 (s' := ((pu (pu h 73 (eO 9 [.int 1, .int (M.1 1), .int (M.1 2), .ref 74, .ref 75, .ref 76, .ref 77, .int (M.1 7), .ref 78, .int (M.1 9), .ref 79, .int (M.1 11), .int (M.1 12), .int (M.1 13), .ref 80, .int (M.1 15), .int (M.1 16), .ref 81, .ref 82, .ref 83, .int (M.1 20), .int (M.1 21), .ref 84, .ref 85, .ref 86, .ref 87, .ref 88])) 73 (eO 9 [.int 1, .int 1, .int (M.1 2), .ref 74, .ref 75, .ref 76, .ref 77, .int (M.1 7), .ref 78, .int (M.1 9), .ref 79, .int (M.1 11), .int (M.1 12), .int (M.1 13), .ref 80, .int (M.1 15), .int (M.1 16), .ref 81, .ref 82, .ref 83, .int (M.1 20), .int (M.1 21), .ref 84, .ref 85, .ref 86, .ref 87, .ref 88])), 16, [(0, .ref 73), (1, .int tag)], [.int tag, .int 0, .ref 74])) rfl ?_
  refine Ev.iast rfl (by decide) (pu_n (by decide) (pu_n (by decide) xM.2.1)) (by unfold vp_in; decide) ?_
  refine Ev.go 1 (s' := ((pu (pu (pu h 73 (eO 9 [.int 1, .int (M.1 1), .int (M.1 2), .ref 74, .ref 75, .ref 76, .ref 77, .int (M.1 7), .ref 78, .int (M.1 9), .ref 79, .int (M.1 11), .int (M.1 12), .int (M.1 13), .ref 80, .int (M.1 15), .int (M.1 16), .ref 81, .ref 82, .ref 83, .int (M.1 20), .int (M.1 21), .ref 84, .ref 85, .ref 86, .ref 87, .ref 88])) 73 (eO 9 [.int 1, .int 1, .int (M.1 2), .ref 74, .ref 75, .ref 76, .ref 77, .int (M.1 7), .ref 78, .int (M.1 9), .ref 79, .int (M.1 11), .int (M.1 12), .int (M.1 13), .ref 80, .int (M.1 15), .int (M.1 16), .ref 81, .ref 82, .ref 83, .int (M.1 20), .int (M.1 21), .ref 84, .ref 85, .ref 86, .ref 87, .ref 88])) 74 (eI 24 (upd (M.2.1 3) 0 tag))), 18, [(0, .ref 73), (1, .int tag)], [.ref 73])) rfl ?_
  refine Ev.get rfl (by decide) (pu_n (by decide) pu_s) rfl ?_
  refine Ev.go 2 (s' := ((pu (pu (pu h 73 (eO 9 [.int 1, .int (M.1 1), .int (M.1 2), .ref 74, .ref 75, .ref 76, .ref 77, .int (M.1 7), .ref 78, .int (M.1 9), .ref 79, .int (M.1 11), .int (M.1 12), .int (M.1 13), .ref 80, .int (M.1 15), .int (M.1 16), .ref 81, .ref 82, .ref 83, .int (M.1 20), .int (M.1 21), .ref 84, .ref 85, .ref 86, .ref 87, .ref 88])) 73 (eO 9 [.int 1, .int 1, .int (M.1 2), .ref 74, .ref 75, .ref 76, .ref 77, .int (M.1 7), .ref 78, .int (M.1 9), .ref 79, .int (M.1 11), .int (M.1 12), .int (M.1 13), .ref 80, .int (M.1 15), .int (M.1 16), .ref 81, .ref 82, .ref 83, .int (M.1 20), .int (M.1 21), .ref 84, .ref 85, .ref 86, .ref 87, .ref 88])) 74 (eI 24 (upd (M.2.1 3) 0 tag))), 24, [(0, .ref 73), (1, .int tag)], [.int ((-4)), .int 0, .ref 75])) rfl ?_
  refine Ev.iast rfl (by decide) (pu_n (by decide) (pu_n (by decide) (pu_n (by decide) xM.2.2.1))) (by unfold vp_in; decide) ?_
  refine Ev.go 1 (s' := ((pu (pu (pu (pu h 73 (eO 9 [.int 1, .int (M.1 1), .int (M.1 2), .ref 74, .ref 75, .ref 76, .ref 77, .int (M.1 7), .ref 78, .int (M.1 9), .ref 79, .int (M.1 11), .int (M.1 12), .int (M.1 13), .ref 80, .int (M.1 15), .int (M.1 16), .ref 81, .ref 82, .ref 83, .int (M.1 20), .int (M.1 21), .ref 84, .ref 85, .ref 86, .ref 87, .ref 88])) 73 (eO 9 [.int 1, .int 1, .int (M.1 2), .ref 74, .ref 75, .ref 76, .ref 77, .int (M.1 7), .ref 78, .int (M.1 9), .ref 79, .int (M.1 11), .int (M.1 12), .int (M.1 13), .ref 80, .int (M.1 15), .int (M.1 16), .ref 81, .ref 82, .ref 83, .int (M.1 20), .int (M.1 21), .ref 84, .ref 85, .ref 86, .ref 87, .ref 88])) 74 (eI 24 (upd (M.2.1 3) 0 tag))) 75 (eI 24 (upd (M.2.1 4) 0 (-4)))), 26, [(0, .ref 73), (1, .int tag)], [.ref 73])) rfl ?_
  refine Ev.get rfl (by decide) (pu_n (by decide) (pu_n (by decide) pu_s)) rfl ?_
  refine Ev.go 2 (s' := ((pu (pu (pu (pu h 73 (eO 9 [.int 1, .int (M.1 1), .int (M.1 2), .ref 74, .ref 75, .ref 76, .ref 77, .int (M.1 7), .ref 78, .int (M.1 9), .ref 79, .int (M.1 11), .int (M.1 12), .int (M.1 13), .ref 80, .int (M.1 15), .int (M.1 16), .ref 81, .ref 82, .ref 83, .int (M.1 20), .int (M.1 21), .ref 84, .ref 85, .ref 86, .ref 87, .ref 88])) 73 (eO 9 [.int 1, .int 1, .int (M.1 2), .ref 74, .ref 75, .ref 76, .ref 77, .int (M.1 7), .ref 78, .int (M.1 9), .ref 79, .int (M.1 11), .int (M.1 12), .int (M.1 13), .ref 80, .int (M.1 15), .int (M.1 16), .ref 81, .ref 82, .ref 83, .int (M.1 20), .int (M.1 21), .ref 84, .ref 85, .ref 86, .ref 87, .ref 88])) 74 (eI 24 (upd (M.2.1 3) 0 tag))) 75 (eI 24 (upd (M.2.1 4) 0 (-4)))), 31, [(0, .ref 73), (1, .int tag)], [.int 0, .int 0, .ref 76])) rfl ?_
  refine Ev.iast rfl (by decide) (pu_n (by decide) (pu_n (by decide) (pu_n (by decide) (pu_n (by decide) xM.2.2.2.1)))) (by unfold vp_in; decide) ?_
  have H := Option.some.inj H
  subst H
  exact Ev.ret rfl rfl rfl ⟨rfl, ⟨(pu_n (by decide) (pu_n (by decide) (pu_n (by decide) pu_s))), (pu_n (by decide) (pu_n (by decide) pu_s)), (pu_n (by decide) pu_s), pu_s, (pu_n (by decide) (pu_n (by decide) (pu_n (by decide) (pu_n (by decide) (pu_n (by decide) xM.2.2.2.2.1))))), (pu_n (by decide) (pu_n (by decide) (pu_n (by decide) (pu_n (by decide) (pu_n (by decide) xM.2.2.2.2.2.1))))), (pu_n (by decide) (pu_n (by decide) (pu_n (by decide) (pu_n (by decide) (pu_n (by decide) xM.2.2.2.2.2.2.1))))), (pu_n (by decide) (pu_n (by decide) (pu_n (by decide) (pu_n (by decide) (pu_n (by decide) xM.2.2.2.2.2.2.2.1))))), (pu_n (by decide) (pu_n (by decide) (pu_n (by decide) (pu_n (by decide) (pu_n (by decide) xM.2.2.2.2.2.2.2.2.1))))), (pu_n (by decide) (pu_n (by decide) (pu_n (by decide) (pu_n (by decide) (pu_n (by decide) xM.2.2.2.2.2.2.2.2.2.1))))), (pu_n (by decide) (pu_n (by decide) (pu_n (by decide) (pu_n (by decide) (pu_n (by decide) xM.2.2.2.2.2.2.2.2.2.2.1))))), (pu_n (by decide) (pu_n (by decide) (pu_n (by decide) (pu_n (by decide) (pu_n (by decide) xM.2.2.2.2.2.2.2.2.2.2.2.1))))), (pu_n (by decide) (pu_n (by decide) (pu_n (by decide) (pu_n (by decide) (pu_n (by decide) xM.2.2.2.2.2.2.2.2.2.2.2.2.1))))), (pu_n (by decide) (pu_n (by decide) (pu_n (by decide) (pu_n (by decide) (pu_n (by decide) xM.2.2.2.2.2.2.2.2.2.2.2.2.2.1))))), (pu_n (by decide) (pu_n (by decide) (pu_n (by decide) (pu_n (by decide) (pu_n (by decide) xM.2.2.2.2.2.2.2.2.2.2.2.2.2.2.1))))), (pu_n (by decide) (pu_n (by decide) (pu_n (by decide) (pu_n (by decide) (pu_n (by decide) xM.2.2.2.2.2.2.2.2.2.2.2.2.2.2.2)))))⟩, (fun k hk => by rw [pu_x (show k ≠ 76 from fun e => by have := hk; simp at this; omega)]; rw [pu_x (show k ≠ 75 from fun e => by have := hk; simp at this; omega)]; rw [pu_x (show k ≠ 74 from fun e => by have := hk; simp at this; omega)]; rw [pu_x (show k ≠ 73 from fun e => by have := hk; simp at this; omega)]; rw [pu_x (show k ≠ 73 from fun e => by have := hk; simp at this; omega)])⟩
def lX10_childMany_4 (n : Nat) (M : tM) : Nat → Int32 → Int32 → Int32 → Option (Int32)
  | 0, _, _, _ => none
  | m + 1, x1, x2, x3 => (if 24 ≤ x3 then some x2 else (if (fX10_has (M.1 0) x3) = 0 then lX10_childMany_4 n M m x1 (x2 + 0) (x3 + 1) else (if x3 < 0 ∨ 24 ≤ x3.toNatClampNeg then none else (if ¬ ((M.2.1 4) x3.toNatClampNeg) = x1 then lX10_childMany_4 n M m x1 (x2 + 0) (x3 + 1) else lX10_childMany_4 n M m x1 (x2 + 1) (x3 + 1)))))
theorem llX10_childMany_4 {d n : Nat} {M : tM} : ∀ (m : Nat) (h : pH) (x1 : Int32) (x2 : Int32) (x3 : Int32) (res : Int32), lX10_childMany_4 n M m x1 x2 x3 = some res → isM h M → Ev (d + 1) mX10_childMany (h, 4, [(0, .ref 73), (1, .int x1), (2, .int x2), (3, .int x3)], []) (fun r h1 => r = some (.int res) ∧ h1 = h)
  | 0, h, x1, x2, x3, res, H, _ => by cases H
  | m + 1, h, x1, x2, x3, res, H, xM => by
    have H : (if 24 ≤ x3 then some x2 else (if (fX10_has (M.1 0) x3) = 0 then lX10_childMany_4 n M m x1 (x2 + 0) (x3 + 1) else (if x3 < 0 ∨ 24 ≤ x3.toNatClampNeg then none else (if ¬ ((M.2.1 4) x3.toNatClampNeg) = x1 then lX10_childMany_4 n M m x1 (x2 + 0) (x3 + 1) else lX10_childMany_4 n M m x1 (x2 + 1) (x3 + 1))))) = some res := H
    refine Ev.go 2 (s' := (h, 7, [(0, .ref 73), (1, .int x1), (2, .int x2), (3, .int x3)], [.int 24, .int x3])) rfl ?_
    refine Ev.if2 rfl (fun c1 => ?_) (fun c1 => ?_)
    · have c1 : 24 ≤ x3 := c1
      rw [if_pos c1] at H
      refine Ev.go 1 (s' := (h, 46, [(0, .ref 73), (1, .int x1), (2, .int x2), (3, .int x3)], [.int x2])) rfl ?_
      have H := Option.some.inj H
      subst H
      exact Ev.ret rfl rfl (p_retZ rfl) ⟨rfl, rfl⟩
    · have c1 : ¬ (24 ≤ x3) := c1
      rw [if_neg c1] at H
      refine Ev.go 2 (s' := (h, 12, [(0, .ref 73), (1, .int x1), (2, .int x2), (3, .int x3)], [.ref 73, .int x2])) rfl ?_
      refine Ev.get rfl (by decide) xM.1 rfl ?_
      refine Ev.go 1 (s' := (h, 16, [(0, .ref 73), (1, .int x1), (2, .int x2), (3, .int x3)], [.int x3, .int (M.1 0), .int x2])) rfl ?_
      refine Ev.callE rfl rfl rfl rfl rfl (Nat.le_of_ble_eq_true rfl) (spX10_has  (M.1 0) x3) ?_
      refine Ev.if1 rfl (fun c2 => ?_) (fun c2 => ?_)
      · have c2 : (fX10_has (M.1 0) x3) = 0 := c2
        rw [if_pos c2] at H
        refine Ev.go 5 (s' := (h, 4, [(0, .ref 73), (1, .int x1), (2, .int (x2 + 0)), (3, .int (x3 + 1))], [])) rfl ?_
        refine Ev.live rfl (lv' := [(0, .ref 73), (1, .int x1), (2, .int (x2 + 0)), (3, .int (x3 + 1))]) rfl ?_
        exact llX10_childMany_4 m h x1 (x2 + 0) (x3 + 1) _ H xM
      · have c2 : ¬ ((fX10_has (M.1 0) x3) = 0) := c2
        rw [if_neg c2] at H
        refine Ev.go 1 (s' := (h, 23, [(0, .ref 73), (1, .int x1), (2, .int x2), (3, .int x3)], [.ref 73, .int x2])) rfl ?_
        refine Ev.get rfl (by decide) xM.1 rfl ?_
        refine Ev.go 1 (s' := (h, 27, [(0, .ref 73), (1, .int x1), (2, .int x2), (3, .int x3)], [.int x3, .ref 75, .int x2])) rfl ?_
        have v3 : vp_in x3 24 := fun q => by rw [if_pos q] at H; cases H
        rw [if_neg v3] at H
        refine Ev.iald rfl (by decide) xM.2.2.1 v3 ?_
        refine Ev.go 1 (s' := (h, 29, [(0, .ref 73), (1, .int x1), (2, .int x2), (3, .int x3)], [.int x1, .int ((M.2.1 4) x3.toNatClampNeg), .int x2])) rfl ?_
        refine Ev.if2 rfl (fun c4 => ?_) (fun c4 => ?_)
        · have c4 : ¬ ((M.2.1 4) x3.toNatClampNeg) = x1 := c4
          rw [if_pos c4] at H
          refine Ev.go 5 (s' := (h, 4, [(0, .ref 73), (1, .int x1), (2, .int (x2 + 0)), (3, .int (x3 + 1))], [])) rfl ?_
          refine Ev.live rfl (lv' := [(0, .ref 73), (1, .int x1), (2, .int (x2 + 0)), (3, .int (x3 + 1))]) rfl ?_
          exact llX10_childMany_4 m h x1 (x2 + 0) (x3 + 1) _ H xM
        · have c4 : ¬ (¬ ((M.2.1 4) x3.toNatClampNeg) = x1) := c4
          rw [if_neg c4] at H
          refine Ev.go 6 (s' := (h, 4, [(0, .ref 73), (1, .int x1), (2, .int (x2 + 1)), (3, .int (x3 + 1))], [])) rfl ?_
          refine Ev.live rfl (lv' := [(0, .ref 73), (1, .int x1), (2, .int (x2 + 1)), (3, .int (x3 + 1))]) rfl ?_
          exact llX10_childMany_4 m h x1 (x2 + 1) (x3 + 1) _ H xM
def fX10_childMany (n : Nat) (M : tM) (p : Int32) : Option (Int32) := lX10_childMany_4 n M n p 0 0
theorem spX10_childMany {d n : Nat} {h : pH} {M : tM} (xM : isM h M) (p : Int32) {res : Int32} (H : fX10_childMany n M p = some res) : Ev (d + 1) mX10_childMany (h, 0, [(0, .ref 73), (1, .int p)], []) (fun r h1 => r = some (.int res) ∧ h1 = h) := by
  unfold fX10_childMany at H
  refine Ev.go 4 (s' := (h, 4, [(0, .ref 73), (1, .int p), (2, .int 0), (3, .int 0)], [])) rfl ?_
  refine Ev.live rfl (lv' := [(0, .ref 73), (1, .int p), (2, .int 0), (3, .int 0)]) rfl ?_
  exact llX10_childMany_4 n h p 0 0 _ H xM
def lX10_childBehind_6 (n : Nat) (M : tM) : Nat → Int32 → Int32 → Int32 → Int32 → Option (Int32)
  | 0, _, _, _, _ => none
  | m + 1, x1, x2, x3, x4 => (if 24 ≤ x4 then some x3 else (if (fX10_has (M.1 0) x4) = 0 then lX10_childBehind_6 n M m x1 x2 x3 (x4 + 1) else (if x4 < 0 ∨ 24 ≤ x4.toNatClampNeg then none else (if ¬ ((M.2.1 4) x4.toNatClampNeg) = x1 then lX10_childBehind_6 n M m x1 x2 x3 (x4 + 1) else (if ((M.2.1 5) x4.toNatClampNeg) ≤ x2 then lX10_childBehind_6 n M m x1 x2 x3 (x4 + 1) else (if x3 = (-4) then lX10_childBehind_6 n M m x1 x2 x4 (x4 + 1) else (if x3 < 0 ∨ 24 ≤ x3.toNatClampNeg then none else (if ((M.2.1 5) x3.toNatClampNeg) ≤ ((M.2.1 5) x4.toNatClampNeg) then lX10_childBehind_6 n M m x1 x2 x3 (x4 + 1) else lX10_childBehind_6 n M m x1 x2 x4 (x4 + 1)))))))))
theorem llX10_childBehind_6 {d n : Nat} {M : tM} : ∀ (m : Nat) (h : pH) (x1 : Int32) (x2 : Int32) (x3 : Int32) (x4 : Int32) (res : Int32), lX10_childBehind_6 n M m x1 x2 x3 x4 = some res → isM h M → Ev (d + 1) mX10_childBehind (h, 6, [(0, .ref 73), (1, .int x1), (2, .int x2), (3, .int x3), (4, .int x4)], []) (fun r h1 => r = some (.int res) ∧ h1 = h)
  | 0, h, x1, x2, x3, x4, res, H, _ => by cases H
  | m + 1, h, x1, x2, x3, x4, res, H, xM => by
    have H : (if 24 ≤ x4 then some x3 else (if (fX10_has (M.1 0) x4) = 0 then lX10_childBehind_6 n M m x1 x2 x3 (x4 + 1) else (if x4 < 0 ∨ 24 ≤ x4.toNatClampNeg then none else (if ¬ ((M.2.1 4) x4.toNatClampNeg) = x1 then lX10_childBehind_6 n M m x1 x2 x3 (x4 + 1) else (if ((M.2.1 5) x4.toNatClampNeg) ≤ x2 then lX10_childBehind_6 n M m x1 x2 x3 (x4 + 1) else (if x3 = (-4) then lX10_childBehind_6 n M m x1 x2 x4 (x4 + 1) else (if x3 < 0 ∨ 24 ≤ x3.toNatClampNeg then none else (if ((M.2.1 5) x3.toNatClampNeg) ≤ ((M.2.1 5) x4.toNatClampNeg) then lX10_childBehind_6 n M m x1 x2 x3 (x4 + 1) else lX10_childBehind_6 n M m x1 x2 x4 (x4 + 1))))))))) = some res := H
    refine Ev.go 2 (s' := (h, 10, [(0, .ref 73), (1, .int x1), (2, .int x2), (3, .int x3), (4, .int x4)], [.int 24, .int x4])) rfl ?_
    refine Ev.if2 rfl (fun c1 => ?_) (fun c1 => ?_)
    · have c1 : 24 ≤ x4 := c1
      rw [if_pos c1] at H
      refine Ev.go 1 (s' := (h, 95, [(0, .ref 73), (1, .int x1), (2, .int x2), (3, .int x3), (4, .int x4)], [.int x3])) rfl ?_
      have H := Option.some.inj H
      subst H
      exact Ev.ret rfl rfl (p_retZ rfl) ⟨rfl, rfl⟩
    · have c1 : ¬ (24 ≤ x4) := c1
      rw [if_neg c1] at H
      refine Ev.go 1 (s' := (h, 14, [(0, .ref 73), (1, .int x1), (2, .int x2), (3, .int x3), (4, .int x4)], [.ref 73])) rfl ?_
      refine Ev.get rfl (by decide) xM.1 rfl ?_
      refine Ev.go 1 (s' := (h, 19, [(0, .ref 73), (1, .int x1), (2, .int x2), (3, .int x3), (4, .int x4)], [.int x4, .int (M.1 0)])) rfl ?_
      refine Ev.callE rfl rfl rfl rfl rfl (Nat.le_of_ble_eq_true rfl) (spX10_has  (M.1 0) x4) ?_
      refine Ev.if1 rfl (fun c2 => ?_) (fun c2 => ?_)
      · have c2 : (fX10_has (M.1 0) x4) = 0 := c2
        rw [if_pos c2] at H
        refine Ev.go 3 (s' := (h, 56, [(0, .ref 73), (1, .int x1), (2, .int x2), (3, .int x3), (4, .int x4), (5, .int 0)], [.int 0])) rfl ?_
        refine Ev.if1 rfl (fun c => ?_) (fun c => ?_)
        · refine Ev.go 4 (s' := (h, 6, [(0, .ref 73), (1, .int x1), (2, .int x2), (3, .int x3), (4, .int (x4 + 1)), (5, .int 0)], [])) rfl ?_
          refine Ev.live rfl (lv' := [(0, .ref 73), (1, .int x1), (2, .int x2), (3, .int x3), (4, .int (x4 + 1))]) rfl ?_
          exact llX10_childBehind_6 m h x1 x2 x3 (x4 + 1) _ H xM
        · exact absurd (show (0 : Int32) = 0 by decide) c
      · have c2 : ¬ ((fX10_has (M.1 0) x4) = 0) := c2
        rw [if_neg c2] at H
        refine Ev.go 1 (s' := (h, 26, [(0, .ref 73), (1, .int x1), (2, .int x2), (3, .int x3), (4, .int x4)], [.ref 73])) rfl ?_
        refine Ev.get rfl (by decide) xM.1 rfl ?_
        refine Ev.go 1 (s' := (h, 31, [(0, .ref 73), (1, .int x1), (2, .int x2), (3, .int x3), (4, .int x4)], [.int x4, .ref 75])) rfl ?_
        have v3 : vp_in x4 24 := fun q => by rw [if_pos q] at H; cases H
        rw [if_neg v3] at H
        refine Ev.iald rfl (by decide) xM.2.2.1 v3 ?_
        refine Ev.go 1 (s' := (h, 33, [(0, .ref 73), (1, .int x1), (2, .int x2), (3, .int x3), (4, .int x4)], [.int x1, .int ((M.2.1 4) x4.toNatClampNeg)])) rfl ?_
        refine Ev.if2 rfl (fun c4 => ?_) (fun c4 => ?_)
        · have c4 : ¬ ((M.2.1 4) x4.toNatClampNeg) = x1 := c4
          rw [if_pos c4] at H
          refine Ev.go 3 (s' := (h, 56, [(0, .ref 73), (1, .int x1), (2, .int x2), (3, .int x3), (4, .int x4), (5, .int 0)], [.int 0])) rfl ?_
          refine Ev.if1 rfl (fun c => ?_) (fun c => ?_)
          · refine Ev.go 4 (s' := (h, 6, [(0, .ref 73), (1, .int x1), (2, .int x2), (3, .int x3), (4, .int (x4 + 1)), (5, .int 0)], [])) rfl ?_
            refine Ev.live rfl (lv' := [(0, .ref 73), (1, .int x1), (2, .int x2), (3, .int x3), (4, .int (x4 + 1))]) rfl ?_
            exact llX10_childBehind_6 m h x1 x2 x3 (x4 + 1) _ H xM
          · exact absurd (show (0 : Int32) = 0 by decide) c
        · have c4 : ¬ (¬ ((M.2.1 4) x4.toNatClampNeg) = x1) := c4
          rw [if_neg c4] at H
          refine Ev.go 1 (s' := (h, 37, [(0, .ref 73), (1, .int x1), (2, .int x2), (3, .int x3), (4, .int x4)], [.ref 73])) rfl ?_
          refine Ev.get rfl (by decide) xM.1 rfl ?_
          refine Ev.go 1 (s' := (h, 42, [(0, .ref 73), (1, .int x1), (2, .int x2), (3, .int x3), (4, .int x4)], [.int x4, .ref 76])) rfl ?_
          refine Ev.iald rfl (by decide) xM.2.2.2.1 v3 ?_
          refine Ev.go 1 (s' := (h, 44, [(0, .ref 73), (1, .int x1), (2, .int x2), (3, .int x3), (4, .int x4)], [.int x2, .int ((M.2.1 5) x4.toNatClampNeg)])) rfl ?_
          refine Ev.if2 rfl (fun c5 => ?_) (fun c5 => ?_)
          · have c5 : ((M.2.1 5) x4.toNatClampNeg) ≤ x2 := c5
            rw [if_pos c5] at H
            refine Ev.go 3 (s' := (h, 56, [(0, .ref 73), (1, .int x1), (2, .int x2), (3, .int x3), (4, .int x4), (5, .int 0)], [.int 0])) rfl ?_
            refine Ev.if1 rfl (fun c => ?_) (fun c => ?_)
            · refine Ev.go 4 (s' := (h, 6, [(0, .ref 73), (1, .int x1), (2, .int x2), (3, .int x3), (4, .int (x4 + 1)), (5, .int 0)], [])) rfl ?_
              refine Ev.live rfl (lv' := [(0, .ref 73), (1, .int x1), (2, .int x2), (3, .int x3), (4, .int (x4 + 1))]) rfl ?_
              exact llX10_childBehind_6 m h x1 x2 x3 (x4 + 1) _ H xM
            · exact absurd (show (0 : Int32) = 0 by decide) c
          · have c5 : ¬ (((M.2.1 5) x4.toNatClampNeg) ≤ x2) := c5
            rw [if_neg c5] at H
            refine Ev.go 4 (s' := (h, 56, [(0, .ref 73), (1, .int x1), (2, .int x2), (3, .int x3), (4, .int x4), (5, .int 1)], [.int 1])) rfl ?_
            refine Ev.if1 rfl (fun c => ?_) (fun c => ?_)
            · exact absurd (show (1 : Int32) = 0 from c) (by decide)
            · refine Ev.go 2 (s' := (h, 62, [(0, .ref 73), (1, .int x1), (2, .int x2), (3, .int x3), (4, .int x4), (5, .int 1)], [.int ((-4)), .int x3])) rfl ?_
              refine Ev.if2 rfl (fun c6 => ?_) (fun c6 => ?_)
              · have c6 : x3 = (-4) := c6
                rw [if_pos c6] at H
                refine Ev.go 5 (s' := (h, 6, [(0, .ref 73), (1, .int x1), (2, .int x2), (3, .int x4), (4, .int (x4 + 1)), (5, .int 1)], [])) rfl ?_
                refine Ev.live rfl (lv' := [(0, .ref 73), (1, .int x1), (2, .int x2), (3, .int x4), (4, .int (x4 + 1))]) rfl ?_
                exact llX10_childBehind_6 m h x1 x2 x4 (x4 + 1) _ H xM
              · have c6 : ¬ (x3 = (-4)) := c6
                rw [if_neg c6] at H
                refine Ev.go 1 (s' := (h, 66, [(0, .ref 73), (1, .int x1), (2, .int x2), (3, .int x3), (4, .int x4), (5, .int 1)], [.ref 73])) rfl ?_
                refine Ev.get rfl (by decide) xM.1 rfl ?_
                refine Ev.go 1 (s' := (h, 71, [(0, .ref 73), (1, .int x1), (2, .int x2), (3, .int x3), (4, .int x4), (5, .int 1)], [.int x4, .ref 76])) rfl ?_
                refine Ev.iald rfl (by decide) xM.2.2.2.1 v3 ?_
                refine Ev.go 1 (s' := (h, 73, [(0, .ref 73), (1, .int x1), (2, .int x2), (3, .int x3), (4, .int x4), (5, .int 1)], [.ref 73, .int ((M.2.1 5) x4.toNatClampNeg)])) rfl ?_
                refine Ev.get rfl (by decide) xM.1 rfl ?_
                refine Ev.go 1 (s' := (h, 77, [(0, .ref 73), (1, .int x1), (2, .int x2), (3, .int x3), (4, .int x4), (5, .int 1)], [.int x3, .ref 76, .int ((M.2.1 5) x4.toNatClampNeg)])) rfl ?_
                have v7 : vp_in x3 24 := fun q => by rw [if_pos q] at H; cases H
                rw [if_neg v7] at H
                refine Ev.iald rfl (by decide) xM.2.2.2.1 v7 ?_
                refine Ev.if2 rfl (fun c8 => ?_) (fun c8 => ?_)
                · have c8 : ((M.2.1 5) x3.toNatClampNeg) ≤ ((M.2.1 5) x4.toNatClampNeg) := c8
                  rw [if_pos c8] at H
                  refine Ev.go 4 (s' := (h, 6, [(0, .ref 73), (1, .int x1), (2, .int x2), (3, .int x3), (4, .int (x4 + 1)), (5, .int 1)], [])) rfl ?_
                  refine Ev.live rfl (lv' := [(0, .ref 73), (1, .int x1), (2, .int x2), (3, .int x3), (4, .int (x4 + 1))]) rfl ?_
                  exact llX10_childBehind_6 m h x1 x2 x3 (x4 + 1) _ H xM
                · have c8 : ¬ (((M.2.1 5) x3.toNatClampNeg) ≤ ((M.2.1 5) x4.toNatClampNeg)) := c8
                  rw [if_neg c8] at H
                  refine Ev.go 5 (s' := (h, 6, [(0, .ref 73), (1, .int x1), (2, .int x2), (3, .int x4), (4, .int (x4 + 1)), (5, .int 1)], [])) rfl ?_
                  refine Ev.live rfl (lv' := [(0, .ref 73), (1, .int x1), (2, .int x2), (3, .int x4), (4, .int (x4 + 1))]) rfl ?_
                  exact llX10_childBehind_6 m h x1 x2 x4 (x4 + 1) _ H xM
def fX10_childBehind (n : Nat) (M : tM) (p : Int32) (key : Int32) : Option (Int32) := lX10_childBehind_6 n M n p key (-4) 0
theorem spX10_childBehind {d n : Nat} {h : pH} {M : tM} (xM : isM h M) (p : Int32) (key : Int32) {res : Int32} (H : fX10_childBehind n M p key = some res) : Ev (d + 1) mX10_childBehind (h, 0, [(0, .ref 73), (1, .int p), (2, .int key)], []) (fun r h1 => r = some (.int res) ∧ h1 = h) := by
  unfold fX10_childBehind at H
  refine Ev.go 4 (s' := (h, 6, [(0, .ref 73), (1, .int p), (2, .int key), (3, .int ((-4))), (4, .int 0)], [])) rfl ?_
  refine Ev.live rfl (lv' := [(0, .ref 73), (1, .int p), (2, .int key), (3, .int ((-4))), (4, .int 0)]) rfl ?_
  exact llX10_childBehind_6 n h p key (-4) 0 _ H xM
def lX10_childAt_10 (n : Nat) (M : tM) : Nat → Int32 → Int32 → Int32 → Int32 → Option (Int32)
  | 0, _, _, _, _ => none
  | m + 1, x1, x2, x3, x4 => (if x2 ≤ x4 then some x3 else (if x3 = (-4) then some x3 else (if x3 < 0 ∨ 24 ≤ x3.toNatClampNeg then none else ((fX10_childBehind n M x1 ((M.2.1 5) x3.toNatClampNeg)).bind fun y7 => lX10_childAt_10 n M m x1 x2 y7 (x4 + 1)))))
theorem llX10_childAt_10 {d n : Nat} {M : tM} : ∀ (m : Nat) (h : pH) (x1 : Int32) (x2 : Int32) (x3 : Int32) (x4 : Int32) (res : Int32), lX10_childAt_10 n M m x1 x2 x3 x4 = some res → isM h M → Ev (d + 2) mX10_childAt (h, 10, [(0, .ref 73), (1, .int x1), (2, .int x2), (3, .int x3), (4, .int x4)], []) (fun r h1 => r = some (.int res) ∧ h1 = h)
  | 0, h, x1, x2, x3, x4, res, H, _ => by cases H
  | m + 1, h, x1, x2, x3, x4, res, H, xM => by
    have H : (if x2 ≤ x4 then some x3 else (if x3 = (-4) then some x3 else (if x3 < 0 ∨ 24 ≤ x3.toNatClampNeg then none else ((fX10_childBehind n M x1 ((M.2.1 5) x3.toNatClampNeg)).bind fun y7 => lX10_childAt_10 n M m x1 x2 y7 (x4 + 1))))) = some res := H
    refine Ev.go 2 (s' := (h, 13, [(0, .ref 73), (1, .int x1), (2, .int x2), (3, .int x3), (4, .int x4)], [.int x2, .int x4])) rfl ?_
    refine Ev.if2 rfl (fun c3 => ?_) (fun c3 => ?_)
    · have c3 : x2 ≤ x4 := c3
      rw [if_pos c3] at H
      refine Ev.go 1 (s' := (h, 41, [(0, .ref 73), (1, .int x1), (2, .int x2), (3, .int x3), (4, .int x4)], [.int x3])) rfl ?_
      have H := Option.some.inj H
      subst H
      exact Ev.ret rfl rfl (p_retZ rfl) ⟨rfl, rfl⟩
    · have c3 : ¬ (x2 ≤ x4) := c3
      rw [if_neg c3] at H
      refine Ev.go 2 (s' := (h, 19, [(0, .ref 73), (1, .int x1), (2, .int x2), (3, .int x3), (4, .int x4)], [.int ((-4)), .int x3])) rfl ?_
      refine Ev.if2 rfl (fun c4 => ?_) (fun c4 => ?_)
      · have c4 : x3 = (-4) := c4
        rw [if_pos c4] at H
        refine Ev.go 1 (s' := (h, 41, [(0, .ref 73), (1, .int x1), (2, .int x2), (3, .int x3), (4, .int x4)], [.int x3])) rfl ?_
        have H := Option.some.inj H
        subst H
        exact Ev.ret rfl rfl (p_retZ rfl) ⟨rfl, rfl⟩
      · have c4 : ¬ (x3 = (-4)) := c4
        rw [if_neg c4] at H
        refine Ev.go 3 (s' := (h, 25, [(0, .ref 73), (1, .int x1), (2, .int x2), (3, .int x3), (4, .int x4)], [.ref 73, .int x1, .ref 73])) rfl ?_
        refine Ev.get rfl (by decide) xM.1 rfl ?_
        refine Ev.go 1 (s' := (h, 29, [(0, .ref 73), (1, .int x1), (2, .int x2), (3, .int x3), (4, .int x4)], [.int x3, .ref 76, .int x1, .ref 73])) rfl ?_
        have v5 : vp_in x3 24 := fun q => by rw [if_pos q] at H; cases H
        rw [if_neg v5] at H
        refine Ev.iald rfl (by decide) xM.2.2.2.1 v5 ?_
        obtain ⟨y7, e6, H⟩ := Option.bind_eq_some_iff.mp H
        refine Ev.callE rfl rfl rfl (p_argsV (by decide) xM.1 (Nat.le_of_ble_eq_true rfl)) rfl (Nat.le_of_ble_eq_true rfl) (spX10_childBehind xM x1 ((M.2.1 5) x3.toNatClampNeg) e6) ?_
        refine Ev.go 3 (s' := (h, 10, [(0, .ref 73), (1, .int x1), (2, .int x2), (3, .int y7), (4, .int (x4 + 1))], [])) rfl ?_
        refine Ev.live rfl (lv' := [(0, .ref 73), (1, .int x1), (2, .int x2), (3, .int y7), (4, .int (x4 + 1))]) rfl ?_
        exact llX10_childAt_10 m h x1 x2 y7 (x4 + 1) _ H xM
def fX10_childAt (n : Nat) (M : tM) (p : Int32) (i : Int32) : Option (Int32) := ((fX10_childBehind n M p 0).bind fun y2 => lX10_childAt_10 n M n p i y2 0)
theorem spX10_childAt {d n : Nat} {h : pH} {M : tM} (xM : isM h M) (p : Int32) (i : Int32) {res : Int32} (H : fX10_childAt n M p i = some res) : Ev (d + 2) mX10_childAt (h, 0, [(0, .ref 73), (1, .int p), (2, .int i)], []) (fun r h1 => r = some (.int res) ∧ h1 = h) := by
  unfold fX10_childAt at H
  refine Ev.go 3 (s' := (h, 3, [(0, .ref 73), (1, .int p), (2, .int i)], [.int 0, .int p, .ref 73])) rfl ?_
  obtain ⟨y2, e1, H⟩ := Option.bind_eq_some_iff.mp H
  refine Ev.callE rfl rfl rfl (p_argsV (by decide) xM.1 (Nat.le_of_ble_eq_true rfl)) rfl (Nat.le_of_ble_eq_true rfl) (spX10_childBehind xM p 0 e1) ?_
  refine Ev.go 3 (s' := (h, 10, [(0, .ref 73), (1, .int p), (2, .int i), (3, .int y2), (4, .int 0)], [])) rfl ?_
  refine Ev.live rfl (lv' := [(0, .ref 73), (1, .int p), (2, .int i), (3, .int y2), (4, .int 0)]) rfl ?_
  exact llX10_childAt_10 n h p i y2 0 _ H xM
def lX10_keyBetween_6 (n : Nat) (M : tM) : Nat → Int32 → Int32 → Int32 → Int32 → Option (Int32)
  | 0, _, _, _, _ => none
  | m + 1, x1, x2, x3, x4 => (if 9 < x4 then some 0 else (if (x3 / 10) = 0 then none else (if (x3 / 10) = 0 then none else (if ((x2 - 1) / (x3 / 10)) < ((x1 / (x3 / 10)) + 1) then lX10_keyBetween_6 n M m x1 x2 (x3 / 10) (x4 + 1) else (if ¬ (M.1 2) = 1 then (if ¬ (M.1 2) = 2 then (if ¬ (M.1 2) = 3 then some ((((x1 / (x3 / 10)) + 1) + ((((x2 - 1) / (x3 / 10)) - ((x1 / (x3 / 10)) + 1)) / 2)) * (x3 / 10)) else (if ((x2 - 1) / (x3 / 10)) ≤ ((x1 / (x3 / 10)) + 1) then some (((x1 / (x3 / 10)) + 1) * (x3 / 10)) else some ((((x1 / (x3 / 10)) + 1) + 1) * (x3 / 10)))) else some (((x2 - 1) / (x3 / 10)) * (x3 / 10))) else some (((x1 / (x3 / 10)) + 1) * (x3 / 10)))))))
theorem llX10_keyBetween_6 {d n : Nat} {M : tM} : ∀ (m : Nat) (h : pH) (x1 : Int32) (x2 : Int32) (x3 : Int32) (x4 : Int32) (res : Int32), lX10_keyBetween_6 n M m x1 x2 x3 x4 = some res → isM h M → Ev d mX10_keyBetween (h, 6, [(0, .ref 73), (1, .int x1), (2, .int x2), (3, .int x3), (4, .int x4)], []) (fun r h1 => r = some (.int res) ∧ h1 = h)
  | 0, h, x1, x2, x3, x4, res, H, _ => by cases H
  | m + 1, h, x1, x2, x3, x4, res, H, xM => by
    have H : (if 9 < x4 then some 0 else (if (x3 / 10) = 0 then none else (if (x3 / 10) = 0 then none else (if ((x2 - 1) / (x3 / 10)) < ((x1 / (x3 / 10)) + 1) then lX10_keyBetween_6 n M m x1 x2 (x3 / 10) (x4 + 1) else (if ¬ (M.1 2) = 1 then (if ¬ (M.1 2) = 2 then (if ¬ (M.1 2) = 3 then some ((((x1 / (x3 / 10)) + 1) + ((((x2 - 1) / (x3 / 10)) - ((x1 / (x3 / 10)) + 1)) / 2)) * (x3 / 10)) else (if ((x2 - 1) / (x3 / 10)) ≤ ((x1 / (x3 / 10)) + 1) then some (((x1 / (x3 / 10)) + 1) * (x3 / 10)) else some ((((x1 / (x3 / 10)) + 1) + 1) * (x3 / 10)))) else some (((x2 - 1) / (x3 / 10)) * (x3 / 10))) else some (((x1 / (x3 / 10)) + 1) * (x3 / 10))))))) = some res := H
    refine Ev.go 2 (s' := (h, 10, [(0, .ref 73), (1, .int x1), (2, .int x2), (3, .int x3), (4, .int x4)], [.int 9, .int x4])) rfl ?_
    refine Ev.if2 rfl (fun c1 => ?_) (fun c1 => ?_)
    · have c1 : 9 < x4 := c1
      rw [if_pos c1] at H
      refine Ev.go 1 (s' := (h, 116, [(0, .ref 73), (1, .int x1), (2, .int x2), (3, .int x3), (4, .int x4)], [.int 0])) rfl ?_
      have H := Option.some.inj H
      subst H
      exact Ev.ret rfl rfl (p_retZ rfl) ⟨rfl, rfl⟩
    · have c1 : ¬ (9 < x4) := c1
      rw [if_neg c1] at H
      refine Ev.go 2 (s' := (h, 16, [(0, .ref 73), (1, .int x1), (2, .int x2), (3, .int x3), (4, .int x4)], [.int 10, .int x3])) rfl ?_
      refine Ev.idiv rfl (by decide) ?_
      refine Ev.go 3 (s' := (h, 20, [(0, .ref 73), (1, .int x1), (2, .int x2), (3, .int (x3 / 10)), (4, .int x4)], [.int (x3 / 10), .int x1])) rfl ?_
      have v2 : ¬ ((x3 / 10) = 0) := fun q => by rw [if_pos q] at H; cases H
      rw [if_neg v2] at H
      refine Ev.idiv rfl v2 ?_
      refine Ev.go 7 (s' := (h, 29, [(0, .ref 73), (1, .int x1), (2, .int x2), (3, .int (x3 / 10)), (4, .int x4), (5, .int ((x1 / (x3 / 10)) + 1))], [.int (x3 / 10), .int (x2 - 1)])) rfl ?_
      have v3 : ¬ ((x3 / 10) = 0) := fun q => by rw [if_pos q] at H; cases H
      rw [if_neg v3] at H
      refine Ev.idiv rfl v3 ?_
      refine Ev.go 3 (s' := (h, 36, [(0, .ref 73), (1, .int x1), (2, .int x2), (3, .int (x3 / 10)), (4, .int x4), (5, .int ((x1 / (x3 / 10)) + 1)), (6, .int ((x2 - 1) / (x3 / 10)))], [.int ((x2 - 1) / (x3 / 10)), .int ((x1 / (x3 / 10)) + 1)])) rfl ?_
      refine Ev.if2 rfl (fun c4 => ?_) (fun c4 => ?_)
      · have c4 : ((x2 - 1) / (x3 / 10)) < ((x1 / (x3 / 10)) + 1) := c4
        rw [if_pos c4] at H
        refine Ev.go 2 (s' := (h, 6, [(0, .ref 73), (1, .int x1), (2, .int x2), (3, .int (x3 / 10)), (4, .int (x4 + 1)), (5, .int ((x1 / (x3 / 10)) + 1)), (6, .int ((x2 - 1) / (x3 / 10)))], [])) rfl ?_
        refine Ev.live rfl (lv' := [(0, .ref 73), (1, .int x1), (2, .int x2), (3, .int (x3 / 10)), (4, .int (x4 + 1))]) rfl ?_
        exact llX10_keyBetween_6 m h x1 x2 (x3 / 10) (x4 + 1) _ H xM
      · have c4 : ¬ (((x2 - 1) / (x3 / 10)) < ((x1 / (x3 / 10)) + 1)) := c4
        rw [if_neg c4] at H
        refine Ev.go 1 (s' := (h, 40, [(0, .ref 73), (1, .int x1), (2, .int x2), (3, .int (x3 / 10)), (4, .int x4), (5, .int ((x1 / (x3 / 10)) + 1)), (6, .int ((x2 - 1) / (x3 / 10)))], [.ref 73])) rfl ?_
        refine Ev.get rfl (by decide) xM.1 rfl ?_
        refine Ev.go 1 (s' := (h, 44, [(0, .ref 73), (1, .int x1), (2, .int x2), (3, .int (x3 / 10)), (4, .int x4), (5, .int ((x1 / (x3 / 10)) + 1)), (6, .int ((x2 - 1) / (x3 / 10)))], [.int 1, .int (M.1 2)])) rfl ?_
        refine Ev.if2 rfl (fun c5 => ?_) (fun c5 => ?_)
        · have c5 : ¬ (M.1 2) = 1 := c5
          rw [if_pos c5] at H
          refine Ev.go 1 (s' := (h, 53, [(0, .ref 73), (1, .int x1), (2, .int x2), (3, .int (x3 / 10)), (4, .int x4), (5, .int ((x1 / (x3 / 10)) + 1)), (6, .int ((x2 - 1) / (x3 / 10)))], [.ref 73])) rfl ?_
          refine Ev.get rfl (by decide) xM.1 rfl ?_
          refine Ev.go 1 (s' := (h, 57, [(0, .ref 73), (1, .int x1), (2, .int x2), (3, .int (x3 / 10)), (4, .int x4), (5, .int ((x1 / (x3 / 10)) + 1)), (6, .int ((x2 - 1) / (x3 / 10)))], [.int 2, .int (M.1 2)])) rfl ?_
          refine Ev.if2 rfl (fun c6 => ?_) (fun c6 => ?_)
          · have c6 : ¬ (M.1 2) = 2 := c6
            rw [if_pos c6] at H
            refine Ev.go 1 (s' := (h, 66, [(0, .ref 73), (1, .int x1), (2, .int x2), (3, .int (x3 / 10)), (4, .int x4), (5, .int ((x1 / (x3 / 10)) + 1)), (6, .int ((x2 - 1) / (x3 / 10)))], [.ref 73])) rfl ?_
            refine Ev.get rfl (by decide) xM.1 rfl ?_
            refine Ev.go 1 (s' := (h, 70, [(0, .ref 73), (1, .int x1), (2, .int x2), (3, .int (x3 / 10)), (4, .int x4), (5, .int ((x1 / (x3 / 10)) + 1)), (6, .int ((x2 - 1) / (x3 / 10)))], [.int 3, .int (M.1 2)])) rfl ?_
            refine Ev.if2 rfl (fun c7 => ?_) (fun c7 => ?_)
            · have c7 : ¬ (M.1 2) = 3 := c7
              rw [if_pos c7] at H
              refine Ev.go 5 (s' := (h, 100, [(0, .ref 73), (1, .int x1), (2, .int x2), (3, .int (x3 / 10)), (4, .int x4), (5, .int ((x1 / (x3 / 10)) + 1)), (6, .int ((x2 - 1) / (x3 / 10)))], [.int 2, .int (((x2 - 1) / (x3 / 10)) - ((x1 / (x3 / 10)) + 1)), .int ((x1 / (x3 / 10)) + 1)])) rfl ?_
              refine Ev.idiv rfl (by decide) ?_
              refine Ev.go 5 (s' := (h, 108, [(0, .ref 73), (1, .int x1), (2, .int x2), (3, .int (x3 / 10)), (4, .int x4), (5, .int ((x1 / (x3 / 10)) + 1)), (6, .int ((x2 - 1) / (x3 / 10))), (7, .int (((x1 / (x3 / 10)) + 1) + ((((x2 - 1) / (x3 / 10)) - ((x1 / (x3 / 10)) + 1)) / 2)))], [.int ((((x1 / (x3 / 10)) + 1) + ((((x2 - 1) / (x3 / 10)) - ((x1 / (x3 / 10)) + 1)) / 2)) * (x3 / 10))])) rfl ?_
              have H := Option.some.inj H
              subst H
              exact Ev.ret rfl rfl (p_retZ rfl) ⟨rfl, rfl⟩
            · have c7 : ¬ (¬ (M.1 2) = 3) := c7
              rw [if_neg c7] at H
              refine Ev.go 2 (s' := (h, 77, [(0, .ref 73), (1, .int x1), (2, .int x2), (3, .int (x3 / 10)), (4, .int x4), (5, .int ((x1 / (x3 / 10)) + 1)), (6, .int ((x2 - 1) / (x3 / 10)))], [.int ((x2 - 1) / (x3 / 10)), .int ((x1 / (x3 / 10)) + 1)])) rfl ?_
              refine Ev.if2 rfl (fun c8 => ?_) (fun c8 => ?_)
              · have c8 : ((x2 - 1) / (x3 / 10)) ≤ ((x1 / (x3 / 10)) + 1) := c8
                rw [if_pos c8] at H
                refine Ev.go 6 (s' := (h, 108, [(0, .ref 73), (1, .int x1), (2, .int x2), (3, .int (x3 / 10)), (4, .int x4), (5, .int ((x1 / (x3 / 10)) + 1)), (6, .int ((x2 - 1) / (x3 / 10))), (7, .int ((x1 / (x3 / 10)) + 1))], [.int (((x1 / (x3 / 10)) + 1) * (x3 / 10))])) rfl ?_
                have H := Option.some.inj H
                subst H
                exact Ev.ret rfl rfl (p_retZ rfl) ⟨rfl, rfl⟩
              · have c8 : ¬ (((x2 - 1) / (x3 / 10)) ≤ ((x1 / (x3 / 10)) + 1)) := c8
                rw [if_neg c8] at H
                refine Ev.go 8 (s' := (h, 108, [(0, .ref 73), (1, .int x1), (2, .int x2), (3, .int (x3 / 10)), (4, .int x4), (5, .int ((x1 / (x3 / 10)) + 1)), (6, .int ((x2 - 1) / (x3 / 10))), (7, .int (((x1 / (x3 / 10)) + 1) + 1))], [.int ((((x1 / (x3 / 10)) + 1) + 1) * (x3 / 10))])) rfl ?_
                have H := Option.some.inj H
                subst H
                exact Ev.ret rfl rfl (p_retZ rfl) ⟨rfl, rfl⟩
          · have c6 : ¬ (¬ (M.1 2) = 2) := c6
            rw [if_neg c6] at H
            refine Ev.go 6 (s' := (h, 108, [(0, .ref 73), (1, .int x1), (2, .int x2), (3, .int (x3 / 10)), (4, .int x4), (5, .int ((x1 / (x3 / 10)) + 1)), (6, .int ((x2 - 1) / (x3 / 10))), (7, .int ((x2 - 1) / (x3 / 10)))], [.int (((x2 - 1) / (x3 / 10)) * (x3 / 10))])) rfl ?_
            have H := Option.some.inj H
            subst H
            exact Ev.ret rfl rfl (p_retZ rfl) ⟨rfl, rfl⟩
        · have c5 : ¬ (¬ (M.1 2) = 1) := c5
          rw [if_neg c5] at H
          refine Ev.go 6 (s' := (h, 108, [(0, .ref 73), (1, .int x1), (2, .int x2), (3, .int (x3 / 10)), (4, .int x4), (5, .int ((x1 / (x3 / 10)) + 1)), (6, .int ((x2 - 1) / (x3 / 10))), (7, .int ((x1 / (x3 / 10)) + 1))], [.int (((x1 / (x3 / 10)) + 1) * (x3 / 10))])) rfl ?_
          have H := Option.some.inj H
          subst H
          exact Ev.ret rfl rfl (p_retZ rfl) ⟨rfl, rfl⟩
def fX10_keyBetween (n : Nat) (M : tM) (low : Int32) (high : Int32) : Option (Int32) := lX10_keyBetween_6 n M n low high 1000000000 1
theorem spX10_keyBetween {d n : Nat} {h : pH} {M : tM} (xM : isM h M) (low : Int32) (high : Int32) {res : Int32} (H : fX10_keyBetween n M low high = some res) : Ev d mX10_keyBetween (h, 0, [(0, .ref 73), (1, .int low), (2, .int high)], []) (fun r h1 => r = some (.int res) ∧ h1 = h) := by
  unfold fX10_keyBetween at H
  refine Ev.go 4 (s' := (h, 6, [(0, .ref 73), (1, .int low), (2, .int high), (3, .int 1000000000), (4, .int 1)], [])) rfl ?_
  refine Ev.live rfl (lv' := [(0, .ref 73), (1, .int low), (2, .int high), (3, .int 1000000000), (4, .int 1)]) rfl ?_
  exact llX10_keyBetween_6 n h low high 1000000000 1 _ H xM
def fX10_keyFor (n : Nat) (M : tM) (p : Int32) (place : Int32) : Option (Int32) := (if ¬ place = 0 then ((fX10_childAt n M p (place - 1)).bind fun y3 => (if y3 < 0 ∨ 24 ≤ y3.toNatClampNeg then none else ((fX10_childMany n M p).bind fun y6 => (if ¬ place = y6 then ((fX10_childAt n M p place).bind fun y9 => (if y9 < 0 ∨ 24 ≤ y9.toNatClampNeg then none else ((fX10_keyBetween n M ((M.2.1 5) y3.toNatClampNeg) ((M.2.1 5) y9.toNatClampNeg)).bind fun y12 => some y12))) else ((fX10_keyBetween n M ((M.2.1 5) y3.toNatClampNeg) 1000000000).bind fun y14 => some y14))))) else ((fX10_childMany n M p).bind fun y16 => (if ¬ place = y16 then ((fX10_childAt n M p place).bind fun y19 => (if y19 < 0 ∨ 24 ≤ y19.toNatClampNeg then none else ((fX10_keyBetween n M 0 ((M.2.1 5) y19.toNatClampNeg)).bind fun y22 => some y22))) else ((fX10_keyBetween n M 0 1000000000).bind fun y24 => some y24))))
theorem spX10_keyFor {d n : Nat} {h : pH} {M : tM} (xM : isM h M) (p : Int32) (place : Int32) {res : Int32} (H : fX10_keyFor n M p place = some res) : Ev (d + 3) mX10_keyFor (h, 0, [(0, .ref 73), (1, .int p), (2, .int place)], []) (fun r h1 => r = some (.int res) ∧ h1 = h) := by
  unfold fX10_keyFor at H
  refine Ev.go 1 (s' := (h, 1, [(0, .ref 73), (1, .int p), (2, .int place)], [.int place])) rfl ?_
  refine Ev.if1 rfl (fun c1 => ?_) (fun c1 => ?_)
  · have c1 : ¬ place = 0 := c1
    rw [if_pos c1] at H
    refine Ev.go 1 (s' := (h, 9, [(0, .ref 73), (1, .int p), (2, .int place)], [.ref 73])) rfl ?_
    refine Ev.get rfl (by decide) xM.1 rfl ?_
    refine Ev.go 5 (s' := (h, 17, [(0, .ref 73), (1, .int p), (2, .int place)], [.int (place - 1), .int p, .ref 73, .ref 76])) rfl ?_
    obtain ⟨y3, e2, H⟩ := Option.bind_eq_some_iff.mp H
    refine Ev.callE rfl rfl rfl (p_argsV (by decide) xM.1 (Nat.le_of_ble_eq_true rfl)) rfl (Nat.le_of_ble_eq_true rfl) (spX10_childAt xM p (place - 1) e2) ?_
    have v4 : vp_in y3 24 := fun q => by rw [if_pos q] at H; cases H
    rw [if_neg v4] at H
    refine Ev.iald rfl (by decide) xM.2.2.2.1 v4 ?_
    refine Ev.go 4 (s' := (h, 25, [(0, .ref 73), (1, .int p), (2, .int place), (3, .int ((M.2.1 5) y3.toNatClampNeg))], [.int p, .ref 73, .int place])) rfl ?_
    obtain ⟨y6, e5, H⟩ := Option.bind_eq_some_iff.mp H
    refine Ev.callE rfl rfl rfl (p_argsV (by decide) xM.1 (Nat.le_of_ble_eq_true rfl)) rfl (Nat.le_of_ble_eq_true rfl) (spX10_childMany xM p e5) ?_
    refine Ev.if2 rfl (fun c7 => ?_) (fun c7 => ?_)
    · have c7 : ¬ place = y6 := c7
      rw [if_pos c7] at H
      refine Ev.go 1 (s' := (h, 37, [(0, .ref 73), (1, .int p), (2, .int place), (3, .int ((M.2.1 5) y3.toNatClampNeg))], [.ref 73])) rfl ?_
      refine Ev.get rfl (by decide) xM.1 rfl ?_
      refine Ev.go 3 (s' := (h, 43, [(0, .ref 73), (1, .int p), (2, .int place), (3, .int ((M.2.1 5) y3.toNatClampNeg))], [.int place, .int p, .ref 73, .ref 76])) rfl ?_
      obtain ⟨y9, e8, H⟩ := Option.bind_eq_some_iff.mp H
      refine Ev.callE rfl rfl rfl (p_argsV (by decide) xM.1 (Nat.le_of_ble_eq_true rfl)) rfl (Nat.le_of_ble_eq_true rfl) (spX10_childAt xM p place e8) ?_
      have v10 : vp_in y9 24 := fun q => by rw [if_pos q] at H; cases H
      rw [if_neg v10] at H
      refine Ev.iald rfl (by decide) xM.2.2.2.1 v10 ?_
      refine Ev.go 4 (s' := (h, 53, [(0, .ref 73), (1, .int p), (2, .int place), (3, .int ((M.2.1 5) y3.toNatClampNeg)), (4, .int ((M.2.1 5) y9.toNatClampNeg))], [.int ((M.2.1 5) y9.toNatClampNeg), .int ((M.2.1 5) y3.toNatClampNeg), .ref 73])) rfl ?_
      obtain ⟨y12, e11, H⟩ := Option.bind_eq_some_iff.mp H
      refine Ev.callE rfl rfl rfl (p_argsV (by decide) xM.1 (Nat.le_of_ble_eq_true rfl)) rfl (Nat.le_of_ble_eq_true rfl) (spX10_keyBetween xM ((M.2.1 5) y3.toNatClampNeg) ((M.2.1 5) y9.toNatClampNeg) e11) ?_
      have H := Option.some.inj H
      subst H
      exact Ev.ret rfl rfl (p_retZ rfl) ⟨rfl, rfl⟩
    · have c7 : ¬ (¬ place = y6) := c7
      rw [if_neg c7] at H
      refine Ev.go 6 (s' := (h, 53, [(0, .ref 73), (1, .int p), (2, .int place), (3, .int ((M.2.1 5) y3.toNatClampNeg)), (4, .int 1000000000)], [.int 1000000000, .int ((M.2.1 5) y3.toNatClampNeg), .ref 73])) rfl ?_
      obtain ⟨y14, e13, H⟩ := Option.bind_eq_some_iff.mp H
      refine Ev.callE rfl rfl rfl (p_argsV (by decide) xM.1 (Nat.le_of_ble_eq_true rfl)) rfl (Nat.le_of_ble_eq_true rfl) (spX10_keyBetween xM ((M.2.1 5) y3.toNatClampNeg) 1000000000 e13) ?_
      have H := Option.some.inj H
      subst H
      exact Ev.ret rfl rfl (p_retZ rfl) ⟨rfl, rfl⟩
  · have c1 : ¬ (¬ place = 0) := c1
    rw [if_neg c1] at H
    refine Ev.go 6 (s' := (h, 25, [(0, .ref 73), (1, .int p), (2, .int place), (3, .int 0)], [.int p, .ref 73, .int place])) rfl ?_
    obtain ⟨y16, e15, H⟩ := Option.bind_eq_some_iff.mp H
    refine Ev.callE rfl rfl rfl (p_argsV (by decide) xM.1 (Nat.le_of_ble_eq_true rfl)) rfl (Nat.le_of_ble_eq_true rfl) (spX10_childMany xM p e15) ?_
    refine Ev.if2 rfl (fun c17 => ?_) (fun c17 => ?_)
    · have c17 : ¬ place = y16 := c17
      rw [if_pos c17] at H
      refine Ev.go 1 (s' := (h, 37, [(0, .ref 73), (1, .int p), (2, .int place), (3, .int 0)], [.ref 73])) rfl ?_
      refine Ev.get rfl (by decide) xM.1 rfl ?_
      refine Ev.go 3 (s' := (h, 43, [(0, .ref 73), (1, .int p), (2, .int place), (3, .int 0)], [.int place, .int p, .ref 73, .ref 76])) rfl ?_
      obtain ⟨y19, e18, H⟩ := Option.bind_eq_some_iff.mp H
      refine Ev.callE rfl rfl rfl (p_argsV (by decide) xM.1 (Nat.le_of_ble_eq_true rfl)) rfl (Nat.le_of_ble_eq_true rfl) (spX10_childAt xM p place e18) ?_
      have v20 : vp_in y19 24 := fun q => by rw [if_pos q] at H; cases H
      rw [if_neg v20] at H
      refine Ev.iald rfl (by decide) xM.2.2.2.1 v20 ?_
      refine Ev.go 4 (s' := (h, 53, [(0, .ref 73), (1, .int p), (2, .int place), (3, .int 0), (4, .int ((M.2.1 5) y19.toNatClampNeg))], [.int ((M.2.1 5) y19.toNatClampNeg), .int 0, .ref 73])) rfl ?_
      obtain ⟨y22, e21, H⟩ := Option.bind_eq_some_iff.mp H
      refine Ev.callE rfl rfl rfl (p_argsV (by decide) xM.1 (Nat.le_of_ble_eq_true rfl)) rfl (Nat.le_of_ble_eq_true rfl) (spX10_keyBetween xM 0 ((M.2.1 5) y19.toNatClampNeg) e21) ?_
      have H := Option.some.inj H
      subst H
      exact Ev.ret rfl rfl (p_retZ rfl) ⟨rfl, rfl⟩
    · have c17 : ¬ (¬ place = y16) := c17
      rw [if_neg c17] at H
      refine Ev.go 6 (s' := (h, 53, [(0, .ref 73), (1, .int p), (2, .int place), (3, .int 0), (4, .int 1000000000)], [.int 1000000000, .int 0, .ref 73])) rfl ?_
      obtain ⟨y24, e23, H⟩ := Option.bind_eq_some_iff.mp H
      refine Ev.callE rfl rfl rfl (p_argsV (by decide) xM.1 (Nat.le_of_ble_eq_true rfl)) rfl (Nat.le_of_ble_eq_true rfl) (spX10_keyBetween xM 0 1000000000 e23) ?_
      have H := Option.some.inj H
      subst H
      exact Ev.ret rfl rfl (p_retZ rfl) ⟨rfl, rfl⟩
def lX10_figuresOf_5 (n : Nat) : Nat → Int32 → Int32 → Option (Int32)
  | 0, _, _ => none
  | m + 1, x1, x2 => (if ¬ (x2 - x2 / 10 * 10) = 0 then some x1 else (if x1 ≤ 0 then some x1 else lX10_figuresOf_5 n m (x1 + (-1)) (x2 / 10)))
theorem llX10_figuresOf_5 {d n : Nat} : ∀ (m : Nat) (h : pH) (x1 : Int32) (x2 : Int32) (res : Int32), lX10_figuresOf_5 n m x1 x2 = some res → True → Ev d mX10_figuresOf (h, 5, [(1, .int x1), (2, .int x2)], []) (fun r h1 => r = some (.int res) ∧ h1 = h)
  | 0, h, x1, x2, res, H, _ => by cases H
  | m + 1, h, x1, x2, res, H, _ => by
    have H : (if ¬ (x2 - x2 / 10 * 10) = 0 then some x1 else (if x1 ≤ 0 then some x1 else lX10_figuresOf_5 n m (x1 + (-1)) (x2 / 10))) = some res := H
    refine Ev.go 2 (s' := (h, 8, [(1, .int x1), (2, .int x2)], [.int 10, .int x2])) rfl ?_
    refine Ev.irem rfl (by decide) ?_
    refine Ev.if1 rfl (fun c1 => ?_) (fun c1 => ?_)
    · have c1 : ¬ (x2 - x2 / 10 * 10) = 0 := c1
      rw [if_pos c1] at H
      refine Ev.go 1 (s' := (h, 28, [(1, .int x1), (2, .int x2)], [.int x1])) rfl ?_
      have H := Option.some.inj H
      subst H
      exact Ev.ret rfl rfl (p_retZ rfl) ⟨rfl, rfl⟩
    · have c1 : ¬ (¬ (x2 - x2 / 10 * 10) = 0) := c1
      rw [if_neg c1] at H
      refine Ev.go 1 (s' := (h, 13, [(1, .int x1), (2, .int x2)], [.int x1])) rfl ?_
      refine Ev.if1 rfl (fun c2 => ?_) (fun c2 => ?_)
      · have c2 : x1 ≤ 0 := c2
        rw [if_pos c2] at H
        refine Ev.go 1 (s' := (h, 28, [(1, .int x1), (2, .int x2)], [.int x1])) rfl ?_
        have H := Option.some.inj H
        subst H
        exact Ev.ret rfl rfl (p_retZ rfl) ⟨rfl, rfl⟩
      · have c2 : ¬ (x1 ≤ 0) := c2
        rw [if_neg c2] at H
        refine Ev.go 2 (s' := (h, 19, [(1, .int x1), (2, .int x2)], [.int 10, .int x2])) rfl ?_
        refine Ev.idiv rfl (by decide) ?_
        refine Ev.go 3 (s' := (h, 5, [(1, .int (x1 + (-1))), (2, .int (x2 / 10))], [])) rfl ?_
        refine Ev.live rfl (lv' := [(1, .int (x1 + (-1))), (2, .int (x2 / 10))]) rfl ?_
        exact llX10_figuresOf_5 m h (x1 + (-1)) (x2 / 10) _ H trivial
def fX10_figuresOf (n : Nat) (key : Int32) : Option (Int32) := lX10_figuresOf_5 n n 9 key
theorem spX10_figuresOf {d n : Nat} {h : pH}  (key : Int32) {res : Int32} (H : fX10_figuresOf n key = some res) : Ev d mX10_figuresOf (h, 0, [(0, .int key)], []) (fun r h1 => r = some (.int res) ∧ h1 = h) := by
  unfold fX10_figuresOf at H
  refine Ev.go 4 (s' := (h, 5, [(0, .int key), (1, .int 9), (2, .int key)], [])) rfl ?_
  refine Ev.live rfl (lv' := [(1, .int 9), (2, .int key)]) rfl ?_
  exact llX10_figuresOf_5 n h 9 key _ H trivial
def lX10_numberOf_2 (n : Nat) : Nat → Int32 → Option (Int32)
  | 0, _ => none
  | m + 1, x1 => (if ¬ (x1 - x1 / 10 * 10) = 0 then some x1 else lX10_numberOf_2 n m (x1 / 10))
theorem llX10_numberOf_2 {d n : Nat} : ∀ (m : Nat) (h : pH) (x1 : Int32) (res : Int32), lX10_numberOf_2 n m x1 = some res → True → Ev d mX10_numberOf (h, 2, [(1, .int x1)], []) (fun r h1 => r = some (.int res) ∧ h1 = h)
  | 0, h, x1, res, H, _ => by cases H
  | m + 1, h, x1, res, H, _ => by
    have H : (if ¬ (x1 - x1 / 10 * 10) = 0 then some x1 else lX10_numberOf_2 n m (x1 / 10)) = some res := H
    refine Ev.go 2 (s' := (h, 5, [(1, .int x1)], [.int 10, .int x1])) rfl ?_
    refine Ev.irem rfl (by decide) ?_
    refine Ev.if1 rfl (fun c1 => ?_) (fun c1 => ?_)
    · have c1 : ¬ (x1 - x1 / 10 * 10) = 0 := c1
      rw [if_pos c1] at H
      refine Ev.go 1 (s' := (h, 18, [(1, .int x1)], [.int x1])) rfl ?_
      have H := Option.some.inj H
      subst H
      exact Ev.ret rfl rfl (p_retZ rfl) ⟨rfl, rfl⟩
    · have c1 : ¬ (¬ (x1 - x1 / 10 * 10) = 0) := c1
      rw [if_neg c1] at H
      refine Ev.go 2 (s' := (h, 12, [(1, .int x1)], [.int 10, .int x1])) rfl ?_
      refine Ev.idiv rfl (by decide) ?_
      refine Ev.go 2 (s' := (h, 2, [(1, .int (x1 / 10))], [])) rfl ?_
      refine Ev.live rfl (lv' := [(1, .int (x1 / 10))]) rfl ?_
      exact llX10_numberOf_2 m h (x1 / 10) _ H trivial
def fX10_numberOf (n : Nat) (key : Int32) : Option (Int32) := lX10_numberOf_2 n n key
theorem spX10_numberOf {d n : Nat} {h : pH}  (key : Int32) {res : Int32} (H : fX10_numberOf n key = some res) : Ev d mX10_numberOf (h, 0, [(0, .int key)], []) (fun r h1 => r = some (.int res) ∧ h1 = h) := by
  unfold fX10_numberOf at H
  refine Ev.go 2 (s' := (h, 2, [(0, .int key), (1, .int key)], [])) rfl ?_
  refine Ev.live rfl (lv' := [(1, .int key)]) rfl ?_
  exact llX10_numberOf_2 n h key _ H trivial
def fX10_comes (n : Nat) (M : tM) (p : Int32) (place : Int32) (tag : Int32) : Option (Int32 × tM) := ((fX10_keyFor n M p place).bind fun y2 => (if ¬ y2 = 0 then (if (M.1 1) < 0 ∨ 24 ≤ (M.1 1).toNatClampNeg then none else some (M.1 1, (va_up (va_up M.1 0 ((M.1 0) ||| (1 <<< ((M.1 1) &&& 31)))) 1 ((M.1 1) + 1), va_up (va_up (va_up M.2.1 3 (upd (M.2.1 3) (M.1 1).toNatClampNeg tag)) 4 (upd (M.2.1 4) (M.1 1).toNatClampNeg p)) 5 (upd (M.2.1 5) (M.1 1).toNatClampNeg y2), M.2.2))) else some ((-4), M)))
theorem spX10_comes {d n : Nat} {h : pH} {M : tM} (xM : isM h M) (p : Int32) (place : Int32) (tag : Int32) {res : Int32 × tM} (H : fX10_comes n M p place tag = some res) : Ev (d + 4) mX10_comes (h, 0, [(0, .ref 73), (1, .int p), (2, .int place), (3, .int tag)], []) (fun r h1 => r = some (.int res.1) ∧ isM h1 res.2 ∧ fr [(73, 89)] h h1) := by
  unfold fX10_comes at H
  refine Ev.go 3 (s' := (h, 3, [(0, .ref 73), (1, .int p), (2, .int place), (3, .int tag)], [.int place, .int p, .ref 73])) rfl ?_
  obtain ⟨y2, e1, H⟩ := Option.bind_eq_some_iff.mp H
  refine Ev.callE rfl rfl rfl (p_argsV (by decide) xM.1 (Nat.le_of_ble_eq_true rfl)) rfl (Nat.le_of_ble_eq_true rfl) (spX10_keyFor xM p place e1) ?_
  refine Ev.go 2 (s' := (h, 10, [(0, .ref 73), (1, .int p), (2, .int place), (3, .int tag), (4, .int y2)], [.int y2])) rfl ?_
  refine Ev.if1 rfl (fun c3 => ?_) (fun c3 => ?_)
  · have c3 : ¬ y2 = 0 := c3
    rw [if_pos c3] at H
    refine Ev.go 1 (s' := (h, 17, [(0, .ref 73), (1, .int p), (2, .int place), (3, .int tag), (4, .int y2)], [.ref 73])) rfl ?_
    refine Ev.get rfl (by decide) xM.1 rfl ?_
    refine Ev.go 3 (s' := (h, 24, [(0, .ref 73), (1, .int p), (2, .int place), (3, .int tag), (4, .int y2), (5, .int (M.1 1))], [.ref 73, .ref 73])) rfl ?_
    refine Ev.get rfl (by decide) xM.1 rfl ?_
    refine Ev.go 4 (s' := (h, 32, [(0, .ref 73), (1, .int p), (2, .int place), (3, .int tag), (4, .int y2), (5, .int (M.1 1))], [.int ((M.1 0) ||| (1 <<< ((M.1 1) &&& 31))), .ref 73])) rfl ?_
    refine Ev.put rfl rfl (by decide) xM.1 (Nat.le_of_ble_eq_true rfl) rfl rfl (fs' := [.int ((M.1 0) ||| (1 <<< ((M.1 1) &&& 31))), .int (M.1 1), .int (M.1 2), .ref 74, .ref 75, .ref 76, .ref 77, .int (M.1 7), .ref 78, .int (M.1 9), .ref 79, .int (M.1 11), .int (M.1 12), .int (M.1 13), .ref 80, .int (M.1 15), .int (M.1 16), .ref 81, .ref 82, .ref 83, .int (M.1 20), .int (M.1 21), .ref 84, .ref 85, .ref 86, .ref 87, .ref 88]) rfl ?_
    refine Ev.go 2 (s' := ((pu h 73 (eO 9 [.int ((M.1 0) ||| (1 <<< ((M.1 1) &&& 31))), .int (M.1 1), .int (M.1 2), .ref 74, .ref 75, .ref 76, .ref 77, .int (M.1 7), .ref 78, .int (M.1 9), .ref 79, .int (M.1 11), .int (M.1 12), .int (M.1 13), .ref 80, .int (M.1 15), .int (M.1 16), .ref 81, .ref 82, .ref 83, .int (M.1 20), .int (M.1 21), .ref 84, .ref 85, .ref 86, .ref 87, .ref 88])), 37, [(0, .ref 73), (1, .int p), (2, .int place), (3, .int tag), (4, .int y2), (5, .int (M.1 1))], [.ref 73, .ref 73])) rfl ?_
    refine Ev.get rfl (by decide) pu_s rfl ?_
    refine Ev.go 2 (s' := ((pu h 73 (eO 9 [.int ((M.1 0) ||| (1 <<< ((M.1 1) &&& 31))), .int (M.1 1), .int (M.1 2), .ref 74, .ref 75, .ref 76, .ref 77, .int (M.1 7), .ref 78, .int (M.1 9), .ref 79, .int (M.1 11), .int (M.1 12), .int (M.1 13), .ref 80, .int (M.1 15), .int (M.1 16), .ref 81, .ref 82, .ref 83, .int (M.1 20), .int (M.1 21), .ref 84, .ref 85, .ref 86, .ref 87, .ref 88])), 42, [(0, .ref 73), (1, .int p), (2, .int place), (3, .int tag), (4, .int y2), (5, .int (M.1 1))], [.int ((M.1 1) + 1), .ref 73])) rfl ?_
    refine Ev.put rfl rfl (by decide) pu_s (Nat.le_of_ble_eq_true rfl) rfl rfl (fs' := [.int ((M.1 0) ||| (1 <<< ((M.1 1) &&& 31))), .int ((M.1 1) + 1), .int (M.1 2), .ref 74, .ref 75, .ref 76, .ref 77, .int (M.1 7), .ref 78, .int (M.1 9), .ref 79, .int (M.1 11), .int (M.1 12), .int (M.1 13), .ref 80, .int (M.1 15), .int (M.1 16), .ref 81, .ref 82, .ref 83, .int (M.1 20), .int (M.1 21), .ref 84, .ref 85, .ref 86, .ref 87, .ref 88]) rfl ?_
    refine Ev.go 1 (s' := ((pu (pu h 73 (eO 9 [.int ((M.1 0) ||| (1 <<< ((M.1 1) &&& 31))), .int (M.1 1), .int (M.1 2), .ref 74, .ref 75, .ref 76, .ref 77, .int (M.1 7), .ref 78, .int (M.1 9), .ref 79, .int (M.1 11), .int (M.1 12), .int (M.1 13), .ref 80, .int (M.1 15), .int (M.1 16), .ref 81, .ref 82, .ref 83, .int (M.1 20), .int (M.1 21), .ref 84, .ref 85, .ref 86, .ref 87, .ref 88])) 73 (eO 9 [.int ((M.1 0) ||| (1 <<< ((M.1 1) &&& 31))), .int ((M.1 1) + 1), .int (M.1 2), .ref 74, .ref 75, .ref 76, .ref 77, .int (M.1 7), .ref 78, .int (M.1 9), .ref 79, .int (M.1 11), .int (M.1 12), .int (M.1 13), .ref 80, .int (M.1 15), .int (M.1 16), .ref 81, .ref 82, .ref 83, .int (M.1 20), .int (M.1 21), .ref 84, .ref 85, .ref 86, .ref 87, .ref 88])), 46, [(0, .ref 73), (1, .int p), (2, .int place), (3, .int tag), (4, .int y2), (5, .int (M.1 1))], [.ref 73])) rfl ?_
    refine Ev.get rfl (by decide) pu_s rfl ?_
    refine Ev.go 2 (s' := ((pu (pu h 73 (eO 9 [.int ((M.1 0) ||| (1 <<< ((M.1 1) &&& 31))), .int (M.1 1), .int (M.1 2), .ref 74, .ref 75, .ref 76, .ref 77, .int (M.1 7), .ref 78, .int (M.1 9), .ref 79, .int (M.1 11), .int (M.1 12), .int (M.1 13), .ref 80, .int (M.1 15), .int (M.1 16), .ref 81, .ref 82, .ref 83, .int (M.1 20), .int (M.1 21), .ref 84, .ref 85, .ref 86, .ref 87, .ref 88])) 73 (eO 9 [.int ((M.1 0) ||| (1 <<< ((M.1 1) &&& 31))), .int ((M.1 1) + 1), .int (M.1 2), .ref 74, .ref 75, .ref 76, .ref 77, .int (M.1 7), .ref 78, .int (M.1 9), .ref 79, .int (M.1 11), .int (M.1 12), .int (M.1 13), .ref 80, .int (M.1 15), .int (M.1 16), .ref 81, .ref 82, .ref 83, .int (M.1 20), .int (M.1 21), .ref 84, .ref 85, .ref 86, .ref 87, .ref 88])), 52, [(0, .ref 73), (1, .int p), (2, .int place), (3, .int tag), (4, .int y2), (5, .int (M.1 1))], [.int tag, .int (M.1 1), .ref 74])) rfl ?_
    have v4 : vp_in (M.1 1) 24 := fun q => by rw [if_pos q] at H; cases H
    rw [if_neg v4] at H
    refine Ev.iast rfl (by decide) (pu_n (by decide) (pu_n (by decide) xM.2.1)) v4 ?_
    refine Ev.go 1 (s' := ((pu (pu (pu h 73 (eO 9 [.int ((M.1 0) ||| (1 <<< ((M.1 1) &&& 31))), .int (M.1 1), .int (M.1 2), .ref 74, .ref 75, .ref 76, .ref 77, .int (M.1 7), .ref 78, .int (M.1 9), .ref 79, .int (M.1 11), .int (M.1 12), .int (M.1 13), .ref 80, .int (M.1 15), .int (M.1 16), .ref 81, .ref 82, .ref 83, .int (M.1 20), .int (M.1 21), .ref 84, .ref 85, .ref 86, .ref 87, .ref 88])) 73 (eO 9 [.int ((M.1 0) ||| (1 <<< ((M.1 1) &&& 31))), .int ((M.1 1) + 1), .int (M.1 2), .ref 74, .ref 75, .ref 76, .ref 77, .int (M.1 7), .ref 78, .int (M.1 9), .ref 79, .int (M.1 11), .int (M.1 12), .int (M.1 13), .ref 80, .int (M.1 15), .int (M.1 16), .ref 81, .ref 82, .ref 83, .int (M.1 20), .int (M.1 21), .ref 84, .ref 85, .ref 86, .ref 87, .ref 88])) 74 (eI 24 (upd (M.2.1 3) (M.1 1).toNatClampNeg tag))), 54, [(0, .ref 73), (1, .int p), (2, .int place), (3, .int tag), (4, .int y2), (5, .int (M.1 1))], [.ref 73])) rfl ?_
    refine Ev.get rfl (by decide) (pu_n (by decide) pu_s) rfl ?_
    refine Ev.go 2 (s' := ((pu (pu (pu h 73 (eO 9 [.int ((M.1 0) ||| (1 <<< ((M.1 1) &&& 31))), .int (M.1 1), .int (M.1 2), .ref 74, .ref 75, .ref 76, .ref 77, .int (M.1 7), .ref 78, .int (M.1 9), .ref 79, .int (M.1 11), .int (M.1 12), .int (M.1 13), .ref 80, .int (M.1 15), .int (M.1 16), .ref 81, .ref 82, .ref 83, .int (M.1 20), .int (M.1 21), .ref 84, .ref 85, .ref 86, .ref 87, .ref 88])) 73 (eO 9 [.int ((M.1 0) ||| (1 <<< ((M.1 1) &&& 31))), .int ((M.1 1) + 1), .int (M.1 2), .ref 74, .ref 75, .ref 76, .ref 77, .int (M.1 7), .ref 78, .int (M.1 9), .ref 79, .int (M.1 11), .int (M.1 12), .int (M.1 13), .ref 80, .int (M.1 15), .int (M.1 16), .ref 81, .ref 82, .ref 83, .int (M.1 20), .int (M.1 21), .ref 84, .ref 85, .ref 86, .ref 87, .ref 88])) 74 (eI 24 (upd (M.2.1 3) (M.1 1).toNatClampNeg tag))), 60, [(0, .ref 73), (1, .int p), (2, .int place), (3, .int tag), (4, .int y2), (5, .int (M.1 1))], [.int p, .int (M.1 1), .ref 75])) rfl ?_
    refine Ev.iast rfl (by decide) (pu_n (by decide) (pu_n (by decide) (pu_n (by decide) xM.2.2.1))) v4 ?_
    refine Ev.go 1 (s' := ((pu (pu (pu (pu h 73 (eO 9 [.int ((M.1 0) ||| (1 <<< ((M.1 1) &&& 31))), .int (M.1 1), .int (M.1 2), .ref 74, .ref 75, .ref 76, .ref 77, .int (M.1 7), .ref 78, .int (M.1 9), .ref 79, .int (M.1 11), .int (M.1 12), .int (M.1 13), .ref 80, .int (M.1 15), .int (M.1 16), .ref 81, .ref 82, .ref 83, .int (M.1 20), .int (M.1 21), .ref 84, .ref 85, .ref 86, .ref 87, .ref 88])) 73 (eO 9 [.int ((M.1 0) ||| (1 <<< ((M.1 1) &&& 31))), .int ((M.1 1) + 1), .int (M.1 2), .ref 74, .ref 75, .ref 76, .ref 77, .int (M.1 7), .ref 78, .int (M.1 9), .ref 79, .int (M.1 11), .int (M.1 12), .int (M.1 13), .ref 80, .int (M.1 15), .int (M.1 16), .ref 81, .ref 82, .ref 83, .int (M.1 20), .int (M.1 21), .ref 84, .ref 85, .ref 86, .ref 87, .ref 88])) 74 (eI 24 (upd (M.2.1 3) (M.1 1).toNatClampNeg tag))) 75 (eI 24 (upd (M.2.1 4) (M.1 1).toNatClampNeg p))), 62, [(0, .ref 73), (1, .int p), (2, .int place), (3, .int tag), (4, .int y2), (5, .int (M.1 1))], [.ref 73])) rfl ?_
    refine Ev.get rfl (by decide) (pu_n (by decide) (pu_n (by decide) pu_s)) rfl ?_
    refine Ev.go 2 (s' := ((pu (pu (pu (pu h 73 (eO 9 [.int ((M.1 0) ||| (1 <<< ((M.1 1) &&& 31))), .int (M.1 1), .int (M.1 2), .ref 74, .ref 75, .ref 76, .ref 77, .int (M.1 7), .ref 78, .int (M.1 9), .ref 79, .int (M.1 11), .int (M.1 12), .int (M.1 13), .ref 80, .int (M.1 15), .int (M.1 16), .ref 81, .ref 82, .ref 83, .int (M.1 20), .int (M.1 21), .ref 84, .ref 85, .ref 86, .ref 87, .ref 88])) 73 (eO 9 [.int ((M.1 0) ||| (1 <<< ((M.1 1) &&& 31))), .int ((M.1 1) + 1), .int (M.1 2), .ref 74, .ref 75, .ref 76, .ref 77, .int (M.1 7), .ref 78, .int (M.1 9), .ref 79, .int (M.1 11), .int (M.1 12), .int (M.1 13), .ref 80, .int (M.1 15), .int (M.1 16), .ref 81, .ref 82, .ref 83, .int (M.1 20), .int (M.1 21), .ref 84, .ref 85, .ref 86, .ref 87, .ref 88])) 74 (eI 24 (upd (M.2.1 3) (M.1 1).toNatClampNeg tag))) 75 (eI 24 (upd (M.2.1 4) (M.1 1).toNatClampNeg p))), 69, [(0, .ref 73), (1, .int p), (2, .int place), (3, .int tag), (4, .int y2), (5, .int (M.1 1))], [.int y2, .int (M.1 1), .ref 76])) rfl ?_
    refine Ev.iast rfl (by decide) (pu_n (by decide) (pu_n (by decide) (pu_n (by decide) (pu_n (by decide) xM.2.2.2.1)))) v4 ?_
    refine Ev.go 1 (s' := ((pu (pu (pu (pu (pu h 73 (eO 9 [.int ((M.1 0) ||| (1 <<< ((M.1 1) &&& 31))), .int (M.1 1), .int (M.1 2), .ref 74, .ref 75, .ref 76, .ref 77, .int (M.1 7), .ref 78, .int (M.1 9), .ref 79, .int (M.1 11), .int (M.1 12), .int (M.1 13), .ref 80, .int (M.1 15), .int (M.1 16), .ref 81, .ref 82, .ref 83, .int (M.1 20), .int (M.1 21), .ref 84, .ref 85, .ref 86, .ref 87, .ref 88])) 73 (eO 9 [.int ((M.1 0) ||| (1 <<< ((M.1 1) &&& 31))), .int ((M.1 1) + 1), .int (M.1 2), .ref 74, .ref 75, .ref 76, .ref 77, .int (M.1 7), .ref 78, .int (M.1 9), .ref 79, .int (M.1 11), .int (M.1 12), .int (M.1 13), .ref 80, .int (M.1 15), .int (M.1 16), .ref 81, .ref 82, .ref 83, .int (M.1 20), .int (M.1 21), .ref 84, .ref 85, .ref 86, .ref 87, .ref 88])) 74 (eI 24 (upd (M.2.1 3) (M.1 1).toNatClampNeg tag))) 75 (eI 24 (upd (M.2.1 4) (M.1 1).toNatClampNeg p))) 76 (eI 24 (upd (M.2.1 5) (M.1 1).toNatClampNeg y2))), 72, [(0, .ref 73), (1, .int p), (2, .int place), (3, .int tag), (4, .int y2), (5, .int (M.1 1))], [.int (M.1 1)])) rfl ?_
    have H := Option.some.inj H
    subst H
    exact Ev.ret rfl rfl (p_retZ rfl) ⟨rfl, ⟨(pu_n (by decide) (pu_n (by decide) (pu_n (by decide) pu_s))), (pu_n (by decide) (pu_n (by decide) pu_s)), (pu_n (by decide) pu_s), pu_s, (pu_n (by decide) (pu_n (by decide) (pu_n (by decide) (pu_n (by decide) (pu_n (by decide) xM.2.2.2.2.1))))), (pu_n (by decide) (pu_n (by decide) (pu_n (by decide) (pu_n (by decide) (pu_n (by decide) xM.2.2.2.2.2.1))))), (pu_n (by decide) (pu_n (by decide) (pu_n (by decide) (pu_n (by decide) (pu_n (by decide) xM.2.2.2.2.2.2.1))))), (pu_n (by decide) (pu_n (by decide) (pu_n (by decide) (pu_n (by decide) (pu_n (by decide) xM.2.2.2.2.2.2.2.1))))), (pu_n (by decide) (pu_n (by decide) (pu_n (by decide) (pu_n (by decide) (pu_n (by decide) xM.2.2.2.2.2.2.2.2.1))))), (pu_n (by decide) (pu_n (by decide) (pu_n (by decide) (pu_n (by decide) (pu_n (by decide) xM.2.2.2.2.2.2.2.2.2.1))))), (pu_n (by decide) (pu_n (by decide) (pu_n (by decide) (pu_n (by decide) (pu_n (by decide) xM.2.2.2.2.2.2.2.2.2.2.1))))), (pu_n (by decide) (pu_n (by decide) (pu_n (by decide) (pu_n (by decide) (pu_n (by decide) xM.2.2.2.2.2.2.2.2.2.2.2.1))))), (pu_n (by decide) (pu_n (by decide) (pu_n (by decide) (pu_n (by decide) (pu_n (by decide) xM.2.2.2.2.2.2.2.2.2.2.2.2.1))))), (pu_n (by decide) (pu_n (by decide) (pu_n (by decide) (pu_n (by decide) (pu_n (by decide) xM.2.2.2.2.2.2.2.2.2.2.2.2.2.1))))), (pu_n (by decide) (pu_n (by decide) (pu_n (by decide) (pu_n (by decide) (pu_n (by decide) xM.2.2.2.2.2.2.2.2.2.2.2.2.2.2.1))))), (pu_n (by decide) (pu_n (by decide) (pu_n (by decide) (pu_n (by decide) (pu_n (by decide) xM.2.2.2.2.2.2.2.2.2.2.2.2.2.2.2)))))⟩, (fun k hk => by rw [pu_x (show k ≠ 76 from fun e => by have := hk; simp at this; omega)]; rw [pu_x (show k ≠ 75 from fun e => by have := hk; simp at this; omega)]; rw [pu_x (show k ≠ 74 from fun e => by have := hk; simp at this; omega)]; rw [pu_x (show k ≠ 73 from fun e => by have := hk; simp at this; omega)]; rw [pu_x (show k ≠ 73 from fun e => by have := hk; simp at this; omega)])⟩
  · have c3 : ¬ (¬ y2 = 0) := c3
    rw [if_neg c3] at H
    refine Ev.go 1 (s' := (h, 15, [(0, .ref 73), (1, .int p), (2, .int place), (3, .int tag), (4, .int y2)], [.int ((-4))])) rfl ?_
    have H := Option.some.inj H
    subst H
    exact Ev.ret rfl rfl (p_retZ rfl) ⟨rfl, xM, (fun k _ => rfl)⟩
def lX10_isOver_2 (n : Nat) (M : tM) : Nat → Int32 → Int32 → Option (Int32)
  | 0, _, _ => none
  | m + 1, x1, x3 => (if x3 = (-4) then (if ¬ x3 = x1 then some 0 else some 1) else (if x3 = x1 then (if ¬ x3 = x1 then some 0 else some 1) else (if x3 < 0 ∨ 24 ≤ x3.toNatClampNeg then none else lX10_isOver_2 n M m x1 ((M.2.1 4) x3.toNatClampNeg))))
theorem llX10_isOver_2 {d n : Nat} {M : tM} : ∀ (m : Nat) (h : pH) (x1 : Int32) (x3 : Int32) (res : Int32), lX10_isOver_2 n M m x1 x3 = some res → isM h M → Ev d mX10_isOver (h, 2, [(0, .ref 73), (1, .int x1), (3, .int x3)], []) (fun r h1 => r = some (.int res) ∧ h1 = h)
  | 0, h, x1, x3, res, H, _ => by cases H
  | m + 1, h, x1, x3, res, H, xM => by
    have H : (if x3 = (-4) then (if ¬ x3 = x1 then some 0 else some 1) else (if x3 = x1 then (if ¬ x3 = x1 then some 0 else some 1) else (if x3 < 0 ∨ 24 ≤ x3.toNatClampNeg then none else lX10_isOver_2 n M m x1 ((M.2.1 4) x3.toNatClampNeg)))) = some res := H
    refine Ev.go 2 (s' := (h, 5, [(0, .ref 73), (1, .int x1), (3, .int x3)], [.int ((-4)), .int x3])) rfl ?_
    refine Ev.if2 rfl (fun c1 => ?_) (fun c1 => ?_)
    · have c1 : x3 = (-4) := c1
      rw [if_pos c1] at H
      refine Ev.go 2 (s' := (h, 25, [(0, .ref 73), (1, .int x1), (3, .int x3)], [.int x1, .int x3])) rfl ?_
      refine Ev.if2 rfl (fun c2 => ?_) (fun c2 => ?_)
      · have c2 : ¬ x3 = x1 := c2
        rw [if_pos c2] at H
        refine Ev.go 1 (s' := (h, 33, [(0, .ref 73), (1, .int x1), (3, .int x3)], [.int 0])) rfl ?_
        have H := Option.some.inj H
        subst H
        exact Ev.ret rfl rfl (p_retZ rfl) ⟨rfl, rfl⟩
      · have c2 : ¬ (¬ x3 = x1) := c2
        rw [if_neg c2] at H
        refine Ev.go 2 (s' := (h, 33, [(0, .ref 73), (1, .int x1), (3, .int x3)], [.int 1])) rfl ?_
        have H := Option.some.inj H
        subst H
        exact Ev.ret rfl rfl (p_retZ rfl) ⟨rfl, rfl⟩
    · have c1 : ¬ (x3 = (-4)) := c1
      rw [if_neg c1] at H
      refine Ev.go 2 (s' := (h, 10, [(0, .ref 73), (1, .int x1), (3, .int x3)], [.int x1, .int x3])) rfl ?_
      refine Ev.if2 rfl (fun c3 => ?_) (fun c3 => ?_)
      · have c3 : x3 = x1 := c3
        rw [if_pos c3] at H
        refine Ev.go 2 (s' := (h, 25, [(0, .ref 73), (1, .int x1), (3, .int x3)], [.int x1, .int x3])) rfl ?_
        refine Ev.if2 rfl (fun c4 => ?_) (fun c4 => ?_)
        · have c4 : ¬ x3 = x1 := c4
          rw [if_pos c4] at H
          refine Ev.go 1 (s' := (h, 33, [(0, .ref 73), (1, .int x1), (3, .int x3)], [.int 0])) rfl ?_
          have H := Option.some.inj H
          subst H
          exact Ev.ret rfl rfl (p_retZ rfl) ⟨rfl, rfl⟩
        · have c4 : ¬ (¬ x3 = x1) := c4
          rw [if_neg c4] at H
          refine Ev.go 2 (s' := (h, 33, [(0, .ref 73), (1, .int x1), (3, .int x3)], [.int 1])) rfl ?_
          have H := Option.some.inj H
          subst H
          exact Ev.ret rfl rfl (p_retZ rfl) ⟨rfl, rfl⟩
      · have c3 : ¬ (x3 = x1) := c3
        rw [if_neg c3] at H
        refine Ev.go 1 (s' := (h, 14, [(0, .ref 73), (1, .int x1), (3, .int x3)], [.ref 73])) rfl ?_
        refine Ev.get rfl (by decide) xM.1 rfl ?_
        refine Ev.go 1 (s' := (h, 18, [(0, .ref 73), (1, .int x1), (3, .int x3)], [.int x3, .ref 75])) rfl ?_
        have v5 : vp_in x3 24 := fun q => by rw [if_pos q] at H; cases H
        rw [if_neg v5] at H
        refine Ev.iald rfl (by decide) xM.2.2.1 v5 ?_
        refine Ev.go 2 (s' := (h, 2, [(0, .ref 73), (1, .int x1), (3, .int ((M.2.1 4) x3.toNatClampNeg))], [])) rfl ?_
        refine Ev.live rfl (lv' := [(0, .ref 73), (1, .int x1), (3, .int ((M.2.1 4) x3.toNatClampNeg))]) rfl ?_
        exact llX10_isOver_2 m h x1 ((M.2.1 4) x3.toNatClampNeg) _ H xM
def fX10_isOver (n : Nat) (M : tM) (v : Int32) (w : Int32) : Option (Int32) := lX10_isOver_2 n M n v w
theorem spX10_isOver {d n : Nat} {h : pH} {M : tM} (xM : isM h M) (v : Int32) (w : Int32) {res : Int32} (H : fX10_isOver n M v w = some res) : Ev d mX10_isOver (h, 0, [(0, .ref 73), (1, .int v), (2, .int w)], []) (fun r h1 => r = some (.int res) ∧ h1 = h) := by
  unfold fX10_isOver at H
  refine Ev.go 2 (s' := (h, 2, [(0, .ref 73), (1, .int v), (2, .int w), (3, .int w)], [])) rfl ?_
  refine Ev.live rfl (lv' := [(0, .ref 73), (1, .int v), (3, .int w)]) rfl ?_
  exact llX10_isOver_2 n h v w _ H xM
def lX10_belowSet_4 (n : Nat) (M : tM) : Nat → Int32 → Int32 → Int32 → Option (Int32)
  | 0, _, _, _ => none
  | m + 1, x1, x2, x3 => (if 24 ≤ x3 then some x2 else (if x3 = x1 then lX10_belowSet_4 n M m x1 (x2 ||| 0) (x3 + 1) else (if (fX10_has (M.1 0) x3) = 0 then lX10_belowSet_4 n M m x1 (x2 ||| 0) (x3 + 1) else ((fX10_isOver n M x1 x3).bind fun y5 => (if y5 = 0 then lX10_belowSet_4 n M m x1 (x2 ||| 0) (x3 + 1) else lX10_belowSet_4 n M m x1 (x2 ||| (1 <<< (x3 &&& 31))) (x3 + 1))))))
theorem llX10_belowSet_4 {d n : Nat} {M : tM} : ∀ (m : Nat) (h : pH) (x1 : Int32) (x2 : Int32) (x3 : Int32) (res : Int32), lX10_belowSet_4 n M m x1 x2 x3 = some res → isM h M → Ev (d + 1) mX10_belowSet (h, 4, [(0, .ref 73), (1, .int x1), (2, .int x2), (3, .int x3)], []) (fun r h1 => r = some (.int res) ∧ h1 = h)
  | 0, h, x1, x2, x3, res, H, _ => by cases H
  | m + 1, h, x1, x2, x3, res, H, xM => by
    have H : (if 24 ≤ x3 then some x2 else (if x3 = x1 then lX10_belowSet_4 n M m x1 (x2 ||| 0) (x3 + 1) else (if (fX10_has (M.1 0) x3) = 0 then lX10_belowSet_4 n M m x1 (x2 ||| 0) (x3 + 1) else ((fX10_isOver n M x1 x3).bind fun y5 => (if y5 = 0 then lX10_belowSet_4 n M m x1 (x2 ||| 0) (x3 + 1) else lX10_belowSet_4 n M m x1 (x2 ||| (1 <<< (x3 &&& 31))) (x3 + 1)))))) = some res := H
    refine Ev.go 2 (s' := (h, 7, [(0, .ref 73), (1, .int x1), (2, .int x2), (3, .int x3)], [.int 24, .int x3])) rfl ?_
    refine Ev.if2 rfl (fun c1 => ?_) (fun c1 => ?_)
    · have c1 : 24 ≤ x3 := c1
      rw [if_pos c1] at H
      refine Ev.go 1 (s' := (h, 52, [(0, .ref 73), (1, .int x1), (2, .int x2), (3, .int x3)], [.int x2])) rfl ?_
      have H := Option.some.inj H
      subst H
      exact Ev.ret rfl rfl (p_retZ rfl) ⟨rfl, rfl⟩
    · have c1 : ¬ (24 ≤ x3) := c1
      rw [if_neg c1] at H
      refine Ev.go 3 (s' := (h, 13, [(0, .ref 73), (1, .int x1), (2, .int x2), (3, .int x3)], [.int x1, .int x3, .int x2])) rfl ?_
      refine Ev.if2 rfl (fun c2 => ?_) (fun c2 => ?_)
      · have c2 : x3 = x1 := c2
        rw [if_pos c2] at H
        refine Ev.go 5 (s' := (h, 4, [(0, .ref 73), (1, .int x1), (2, .int (x2 ||| 0)), (3, .int (x3 + 1))], [])) rfl ?_
        refine Ev.live rfl (lv' := [(0, .ref 73), (1, .int x1), (2, .int (x2 ||| 0)), (3, .int (x3 + 1))]) rfl ?_
        exact llX10_belowSet_4 m h x1 (x2 ||| 0) (x3 + 1) _ H xM
      · have c2 : ¬ (x3 = x1) := c2
        rw [if_neg c2] at H
        refine Ev.go 1 (s' := (h, 17, [(0, .ref 73), (1, .int x1), (2, .int x2), (3, .int x3)], [.ref 73, .int x2])) rfl ?_
        refine Ev.get rfl (by decide) xM.1 rfl ?_
        refine Ev.go 1 (s' := (h, 21, [(0, .ref 73), (1, .int x1), (2, .int x2), (3, .int x3)], [.int x3, .int (M.1 0), .int x2])) rfl ?_
        refine Ev.callE rfl rfl rfl rfl rfl (Nat.le_of_ble_eq_true rfl) (spX10_has  (M.1 0) x3) ?_
        refine Ev.if1 rfl (fun c3 => ?_) (fun c3 => ?_)
        · have c3 : (fX10_has (M.1 0) x3) = 0 := c3
          rw [if_pos c3] at H
          refine Ev.go 5 (s' := (h, 4, [(0, .ref 73), (1, .int x1), (2, .int (x2 ||| 0)), (3, .int (x3 + 1))], [])) rfl ?_
          refine Ev.live rfl (lv' := [(0, .ref 73), (1, .int x1), (2, .int (x2 ||| 0)), (3, .int (x3 + 1))]) rfl ?_
          exact llX10_belowSet_4 m h x1 (x2 ||| 0) (x3 + 1) _ H xM
        · have c3 : ¬ ((fX10_has (M.1 0) x3) = 0) := c3
          rw [if_neg c3] at H
          refine Ev.go 3 (s' := (h, 30, [(0, .ref 73), (1, .int x1), (2, .int x2), (3, .int x3)], [.int x3, .int x1, .ref 73, .int x2])) rfl ?_
          obtain ⟨y5, e4, H⟩ := Option.bind_eq_some_iff.mp H
          refine Ev.callE rfl rfl rfl (p_argsV (by decide) xM.1 (Nat.le_of_ble_eq_true rfl)) rfl (Nat.le_of_ble_eq_true rfl) (spX10_isOver xM x1 x3 e4) ?_
          refine Ev.if1 rfl (fun c6 => ?_) (fun c6 => ?_)
          · have c6 : y5 = 0 := c6
            rw [if_pos c6] at H
            refine Ev.go 5 (s' := (h, 4, [(0, .ref 73), (1, .int x1), (2, .int (x2 ||| 0)), (3, .int (x3 + 1))], [])) rfl ?_
            refine Ev.live rfl (lv' := [(0, .ref 73), (1, .int x1), (2, .int (x2 ||| 0)), (3, .int (x3 + 1))]) rfl ?_
            exact llX10_belowSet_4 m h x1 (x2 ||| 0) (x3 + 1) _ H xM
          · have c6 : ¬ (y5 = 0) := c6
            rw [if_neg c6] at H
            refine Ev.go 8 (s' := (h, 4, [(0, .ref 73), (1, .int x1), (2, .int (x2 ||| (1 <<< (x3 &&& 31)))), (3, .int (x3 + 1))], [])) rfl ?_
            refine Ev.live rfl (lv' := [(0, .ref 73), (1, .int x1), (2, .int (x2 ||| (1 <<< (x3 &&& 31)))), (3, .int (x3 + 1))]) rfl ?_
            exact llX10_belowSet_4 m h x1 (x2 ||| (1 <<< (x3 &&& 31))) (x3 + 1) _ H xM
def fX10_belowSet (n : Nat) (M : tM) (v : Int32) : Option (Int32) := lX10_belowSet_4 n M n v 0 0
theorem spX10_belowSet {d n : Nat} {h : pH} {M : tM} (xM : isM h M) (v : Int32) {res : Int32} (H : fX10_belowSet n M v = some res) : Ev (d + 1) mX10_belowSet (h, 0, [(0, .ref 73), (1, .int v)], []) (fun r h1 => r = some (.int res) ∧ h1 = h) := by
  unfold fX10_belowSet at H
  refine Ev.go 4 (s' := (h, 4, [(0, .ref 73), (1, .int v), (2, .int 0), (3, .int 0)], [])) rfl ?_
  refine Ev.live rfl (lv' := [(0, .ref 73), (1, .int v), (2, .int 0), (3, .int 0)]) rfl ?_
  exact llX10_belowSet_4 n h v 0 0 _ H xM
def lX10_bits_4 (n : Nat) : Nat → Int32 → Int32 → Int32 → Option (Int32)
  | 0, _, _, _ => none
  | m + 1, x0, x1, x2 => (if 24 ≤ x2 then some x1 else lX10_bits_4 n m x0 (x1 + ((x0 >>> (x2 &&& 31)) &&& 1)) (x2 + 1))
theorem llX10_bits_4 {d n : Nat} : ∀ (m : Nat) (h : pH) (x0 : Int32) (x1 : Int32) (x2 : Int32) (res : Int32), lX10_bits_4 n m x0 x1 x2 = some res → True → Ev d mX10_bits (h, 4, [(0, .int x0), (1, .int x1), (2, .int x2)], []) (fun r h1 => r = some (.int res) ∧ h1 = h)
  | 0, h, x0, x1, x2, res, H, _ => by cases H
  | m + 1, h, x0, x1, x2, res, H, _ => by
    have H : (if 24 ≤ x2 then some x1 else lX10_bits_4 n m x0 (x1 + ((x0 >>> (x2 &&& 31)) &&& 1)) (x2 + 1)) = some res := H
    refine Ev.go 2 (s' := (h, 7, [(0, .int x0), (1, .int x1), (2, .int x2)], [.int 24, .int x2])) rfl ?_
    refine Ev.if2 rfl (fun c1 => ?_) (fun c1 => ?_)
    · have c1 : 24 ≤ x2 := c1
      rw [if_pos c1] at H
      refine Ev.go 1 (s' := (h, 25, [(0, .int x0), (1, .int x1), (2, .int x2)], [.int x1])) rfl ?_
      have H := Option.some.inj H
      subst H
      exact Ev.ret rfl rfl (p_retZ rfl) ⟨rfl, rfl⟩
    · have c1 : ¬ (24 ≤ x2) := c1
      rw [if_neg c1] at H
      refine Ev.go 10 (s' := (h, 4, [(0, .int x0), (1, .int (x1 + ((x0 >>> (x2 &&& 31)) &&& 1))), (2, .int (x2 + 1))], [])) rfl ?_
      refine Ev.live rfl (lv' := [(0, .int x0), (1, .int (x1 + ((x0 >>> (x2 &&& 31)) &&& 1))), (2, .int (x2 + 1))]) rfl ?_
      exact llX10_bits_4 m h x0 (x1 + ((x0 >>> (x2 &&& 31)) &&& 1)) (x2 + 1) _ H trivial
def fX10_bits (n : Nat) (set : Int32) : Option (Int32) := lX10_bits_4 n n set 0 0
theorem spX10_bits {d n : Nat} {h : pH}  (set : Int32) {res : Int32} (H : fX10_bits n set = some res) : Ev d mX10_bits (h, 0, [(0, .int set)], []) (fun r h1 => r = some (.int res) ∧ h1 = h) := by
  unfold fX10_bits at H
  refine Ev.go 4 (s' := (h, 4, [(0, .int set), (1, .int 0), (2, .int 0)], [])) rfl ?_
  refine Ev.live rfl (lv' := [(0, .int set), (1, .int 0), (2, .int 0)]) rfl ?_
  exact llX10_bits_4 n h set 0 0 _ H trivial
def lX10_deepOf_9 (n : Nat) (M : tM) : Nat → Int32 → Int32 → Option (Int32)
  | 0, _, _ => none
  | m + 1, x2, x3 => (if x3 = (-4) then some x2 else (if x3 < 0 ∨ 24 ≤ x3.toNatClampNeg then none else lX10_deepOf_9 n M m (x2 + 1) ((M.2.1 4) x3.toNatClampNeg)))
theorem llX10_deepOf_9 {d n : Nat} {M : tM} : ∀ (m : Nat) (h : pH) (x2 : Int32) (x3 : Int32) (res : Int32), lX10_deepOf_9 n M m x2 x3 = some res → isM h M → Ev d mX10_deepOf (h, 9, [(0, .ref 73), (2, .int x2), (3, .int x3)], []) (fun r h1 => r = some (.int res) ∧ h1 = h)
  | 0, h, x2, x3, res, H, _ => by cases H
  | m + 1, h, x2, x3, res, H, xM => by
    have H : (if x3 = (-4) then some x2 else (if x3 < 0 ∨ 24 ≤ x3.toNatClampNeg then none else lX10_deepOf_9 n M m (x2 + 1) ((M.2.1 4) x3.toNatClampNeg))) = some res := H
    refine Ev.go 2 (s' := (h, 12, [(0, .ref 73), (2, .int x2), (3, .int x3)], [.int ((-4)), .int x3])) rfl ?_
    refine Ev.if2 rfl (fun c2 => ?_) (fun c2 => ?_)
    · have c2 : x3 = (-4) := c2
      rw [if_pos c2] at H
      refine Ev.go 1 (s' := (h, 29, [(0, .ref 73), (2, .int x2), (3, .int x3)], [.int x2])) rfl ?_
      have H := Option.some.inj H
      subst H
      exact Ev.ret rfl rfl (p_retZ rfl) ⟨rfl, rfl⟩
    · have c2 : ¬ (x3 = (-4)) := c2
      rw [if_neg c2] at H
      refine Ev.go 2 (s' := (h, 19, [(0, .ref 73), (2, .int (x2 + 1)), (3, .int x3)], [.ref 73])) rfl ?_
      refine Ev.get rfl (by decide) xM.1 rfl ?_
      refine Ev.go 1 (s' := (h, 23, [(0, .ref 73), (2, .int (x2 + 1)), (3, .int x3)], [.int x3, .ref 75])) rfl ?_
      have v3 : vp_in x3 24 := fun q => by rw [if_pos q] at H; cases H
      rw [if_neg v3] at H
      refine Ev.iald rfl (by decide) xM.2.2.1 v3 ?_
      refine Ev.go 2 (s' := (h, 9, [(0, .ref 73), (2, .int (x2 + 1)), (3, .int ((M.2.1 4) x3.toNatClampNeg))], [])) rfl ?_
      refine Ev.live rfl (lv' := [(0, .ref 73), (2, .int (x2 + 1)), (3, .int ((M.2.1 4) x3.toNatClampNeg))]) rfl ?_
      exact llX10_deepOf_9 m h (x2 + 1) ((M.2.1 4) x3.toNatClampNeg) _ H xM
def fX10_deepOf (n : Nat) (M : tM) (v : Int32) : Option (Int32) := (if v < 0 ∨ 24 ≤ v.toNatClampNeg then none else lX10_deepOf_9 n M n 0 ((M.2.1 4) v.toNatClampNeg))
theorem spX10_deepOf {d n : Nat} {h : pH} {M : tM} (xM : isM h M) (v : Int32) {res : Int32} (H : fX10_deepOf n M v = some res) : Ev d mX10_deepOf (h, 0, [(0, .ref 73), (1, .int v)], []) (fun r h1 => r = some (.int res) ∧ h1 = h) := by
  unfold fX10_deepOf at H
  refine Ev.go 3 (s' := (h, 3, [(0, .ref 73), (1, .int v), (2, .int 0)], [.ref 73])) rfl ?_
  refine Ev.get rfl (by decide) xM.1 rfl ?_
  refine Ev.go 1 (s' := (h, 7, [(0, .ref 73), (1, .int v), (2, .int 0)], [.int v, .ref 75])) rfl ?_
  have v1 : vp_in v 24 := fun q => by rw [if_pos q] at H; cases H
  rw [if_neg v1] at H
  refine Ev.iald rfl (by decide) xM.2.2.1 v1 ?_
  refine Ev.go 1 (s' := (h, 9, [(0, .ref 73), (1, .int v), (2, .int 0), (3, .int ((M.2.1 4) v.toNatClampNeg))], [])) rfl ?_
  refine Ev.live rfl (lv' := [(0, .ref 73), (2, .int 0), (3, .int ((M.2.1 4) v.toNatClampNeg))]) rfl ?_
  exact llX10_deepOf_9 n h 0 ((M.2.1 4) v.toNatClampNeg) _ H xM
def lX10_behind_9 (n : Nat) (M : tM) : Nat → Int32 → Int32 → Option (Int32)
  | 0, _, _ => none
  | m + 1, x2, x3 => (if ¬ x2 = (-4) then some x2 else (if x3 < 0 ∨ 24 ≤ x3.toNatClampNeg then none else (if ((M.2.1 4) x3.toNatClampNeg) = (-4) then some x2 else ((fX10_childBehind n M ((M.2.1 4) x3.toNatClampNeg) ((M.2.1 5) x3.toNatClampNeg)).bind fun y7 => lX10_behind_9 n M m y7 ((M.2.1 4) x3.toNatClampNeg)))))
theorem llX10_behind_9 {d n : Nat} {M : tM} : ∀ (m : Nat) (h : pH) (x2 : Int32) (x3 : Int32) (res : Int32), lX10_behind_9 n M m x2 x3 = some res → isM h M → Ev (d + 2) mX10_behind (h, 9, [(0, .ref 73), (2, .int x2), (3, .int x3)], []) (fun r h1 => r = some (.int res) ∧ h1 = h)
  | 0, h, x2, x3, res, H, _ => by cases H
  | m + 1, h, x2, x3, res, H, xM => by
    have H : (if ¬ x2 = (-4) then some x2 else (if x3 < 0 ∨ 24 ≤ x3.toNatClampNeg then none else (if ((M.2.1 4) x3.toNatClampNeg) = (-4) then some x2 else ((fX10_childBehind n M ((M.2.1 4) x3.toNatClampNeg) ((M.2.1 5) x3.toNatClampNeg)).bind fun y7 => lX10_behind_9 n M m y7 ((M.2.1 4) x3.toNatClampNeg))))) = some res := H
    refine Ev.go 2 (s' := (h, 12, [(0, .ref 73), (2, .int x2), (3, .int x3)], [.int ((-4)), .int x2])) rfl ?_
    refine Ev.if2 rfl (fun c3 => ?_) (fun c3 => ?_)
    · have c3 : ¬ x2 = (-4) := c3
      rw [if_pos c3] at H
      refine Ev.go 1 (s' := (h, 54, [(0, .ref 73), (2, .int x2), (3, .int x3)], [.int x2])) rfl ?_
      have H := Option.some.inj H
      subst H
      exact Ev.ret rfl rfl (p_retZ rfl) ⟨rfl, rfl⟩
    · have c3 : ¬ (¬ x2 = (-4)) := c3
      rw [if_neg c3] at H
      refine Ev.go 1 (s' := (h, 16, [(0, .ref 73), (2, .int x2), (3, .int x3)], [.ref 73])) rfl ?_
      refine Ev.get rfl (by decide) xM.1 rfl ?_
      refine Ev.go 1 (s' := (h, 20, [(0, .ref 73), (2, .int x2), (3, .int x3)], [.int x3, .ref 75])) rfl ?_
      have v4 : vp_in x3 24 := fun q => by rw [if_pos q] at H; cases H
      rw [if_neg v4] at H
      refine Ev.iald rfl (by decide) xM.2.2.1 v4 ?_
      refine Ev.go 1 (s' := (h, 23, [(0, .ref 73), (2, .int x2), (3, .int x3)], [.int ((-4)), .int ((M.2.1 4) x3.toNatClampNeg)])) rfl ?_
      refine Ev.if2 rfl (fun c5 => ?_) (fun c5 => ?_)
      · have c5 : ((M.2.1 4) x3.toNatClampNeg) = (-4) := c5
        rw [if_pos c5] at H
        refine Ev.go 1 (s' := (h, 54, [(0, .ref 73), (2, .int x2), (3, .int x3)], [.int x2])) rfl ?_
        have H := Option.some.inj H
        subst H
        exact Ev.ret rfl rfl (p_retZ rfl) ⟨rfl, rfl⟩
      · have c5 : ¬ (((M.2.1 4) x3.toNatClampNeg) = (-4)) := c5
        rw [if_neg c5] at H
        refine Ev.go 2 (s' := (h, 28, [(0, .ref 73), (2, .int x2), (3, .int x3)], [.ref 73, .ref 73])) rfl ?_
        refine Ev.get rfl (by decide) xM.1 rfl ?_
        refine Ev.go 1 (s' := (h, 32, [(0, .ref 73), (2, .int x2), (3, .int x3)], [.int x3, .ref 75, .ref 73])) rfl ?_
        refine Ev.iald rfl (by decide) xM.2.2.1 v4 ?_
        refine Ev.go 1 (s' := (h, 34, [(0, .ref 73), (2, .int x2), (3, .int x3)], [.ref 73, .int ((M.2.1 4) x3.toNatClampNeg), .ref 73])) rfl ?_
        refine Ev.get rfl (by decide) xM.1 rfl ?_
        refine Ev.go 1 (s' := (h, 38, [(0, .ref 73), (2, .int x2), (3, .int x3)], [.int x3, .ref 76, .int ((M.2.1 4) x3.toNatClampNeg), .ref 73])) rfl ?_
        refine Ev.iald rfl (by decide) xM.2.2.2.1 v4 ?_
        obtain ⟨y7, e6, H⟩ := Option.bind_eq_some_iff.mp H
        refine Ev.callE rfl rfl rfl (p_argsV (by decide) xM.1 (Nat.le_of_ble_eq_true rfl)) rfl (Nat.le_of_ble_eq_true rfl) (spX10_childBehind xM ((M.2.1 4) x3.toNatClampNeg) ((M.2.1 5) x3.toNatClampNeg) e6) ?_
        refine Ev.go 2 (s' := (h, 44, [(0, .ref 73), (2, .int y7), (3, .int x3)], [.ref 73])) rfl ?_
        refine Ev.get rfl (by decide) xM.1 rfl ?_
        refine Ev.go 1 (s' := (h, 48, [(0, .ref 73), (2, .int y7), (3, .int x3)], [.int x3, .ref 75])) rfl ?_
        refine Ev.iald rfl (by decide) xM.2.2.1 v4 ?_
        refine Ev.go 2 (s' := (h, 9, [(0, .ref 73), (2, .int y7), (3, .int ((M.2.1 4) x3.toNatClampNeg))], [])) rfl ?_
        refine Ev.live rfl (lv' := [(0, .ref 73), (2, .int y7), (3, .int ((M.2.1 4) x3.toNatClampNeg))]) rfl ?_
        exact llX10_behind_9 m h y7 ((M.2.1 4) x3.toNatClampNeg) _ H xM
def fX10_behind (n : Nat) (M : tM) (v : Int32) : Option (Int32) := ((fX10_childBehind n M v 0).bind fun y2 => lX10_behind_9 n M n y2 v)
theorem spX10_behind {d n : Nat} {h : pH} {M : tM} (xM : isM h M) (v : Int32) {res : Int32} (H : fX10_behind n M v = some res) : Ev (d + 2) mX10_behind (h, 0, [(0, .ref 73), (1, .int v)], []) (fun r h1 => r = some (.int res) ∧ h1 = h) := by
  unfold fX10_behind at H
  refine Ev.go 3 (s' := (h, 3, [(0, .ref 73), (1, .int v)], [.int 0, .int v, .ref 73])) rfl ?_
  obtain ⟨y2, e1, H⟩ := Option.bind_eq_some_iff.mp H
  refine Ev.callE rfl rfl rfl (p_argsV (by decide) xM.1 (Nat.le_of_ble_eq_true rfl)) rfl (Nat.le_of_ble_eq_true rfl) (spX10_childBehind xM v 0 e1) ?_
  refine Ev.go 3 (s' := (h, 9, [(0, .ref 73), (1, .int v), (2, .int y2), (3, .int v)], [])) rfl ?_
  refine Ev.live rfl (lv' := [(0, .ref 73), (2, .int y2), (3, .int v)]) rfl ?_
  exact llX10_behind_9 n h y2 v _ H xM
def lX10_placeOf_4 (n : Nat) (M : tM) : Nat → Int32 → Int32 → Int32 → Option (Int32)
  | 0, _, _, _ => none
  | m + 1, x1, x2, x3 => (if x3 = x1 then some x2 else ((fX10_behind n M x3).bind fun y3 => lX10_placeOf_4 n M m x1 (x2 + 1) y3))
theorem llX10_placeOf_4 {d n : Nat} {M : tM} : ∀ (m : Nat) (h : pH) (x1 : Int32) (x2 : Int32) (x3 : Int32) (res : Int32), lX10_placeOf_4 n M m x1 x2 x3 = some res → isM h M → Ev (d + 3) mX10_placeOf (h, 4, [(0, .ref 73), (1, .int x1), (2, .int x2), (3, .int x3)], []) (fun r h1 => r = some (.int res) ∧ h1 = h)
  | 0, h, x1, x2, x3, res, H, _ => by cases H
  | m + 1, h, x1, x2, x3, res, H, xM => by
    have H : (if x3 = x1 then some x2 else ((fX10_behind n M x3).bind fun y3 => lX10_placeOf_4 n M m x1 (x2 + 1) y3)) = some res := H
    refine Ev.go 2 (s' := (h, 6, [(0, .ref 73), (1, .int x1), (2, .int x2), (3, .int x3)], [.int x1, .int x3])) rfl ?_
    refine Ev.if2 rfl (fun c1 => ?_) (fun c1 => ?_)
    · have c1 : x3 = x1 := c1
      rw [if_pos c1] at H
      refine Ev.go 1 (s' := (h, 22, [(0, .ref 73), (1, .int x1), (2, .int x2), (3, .int x3)], [.int x2])) rfl ?_
      have H := Option.some.inj H
      subst H
      exact Ev.ret rfl rfl (p_retZ rfl) ⟨rfl, rfl⟩
    · have c1 : ¬ (x3 = x1) := c1
      rw [if_neg c1] at H
      refine Ev.go 3 (s' := (h, 14, [(0, .ref 73), (1, .int x1), (2, .int (x2 + 1)), (3, .int x3)], [.int x3, .ref 73])) rfl ?_
      obtain ⟨y3, e2, H⟩ := Option.bind_eq_some_iff.mp H
      refine Ev.callE rfl rfl rfl (p_argsV (by decide) xM.1 (Nat.le_of_ble_eq_true rfl)) rfl (Nat.le_of_ble_eq_true rfl) (spX10_behind xM x3 e2) ?_
      refine Ev.go 2 (s' := (h, 4, [(0, .ref 73), (1, .int x1), (2, .int (x2 + 1)), (3, .int y3)], [])) rfl ?_
      refine Ev.live rfl (lv' := [(0, .ref 73), (1, .int x1), (2, .int (x2 + 1)), (3, .int y3)]) rfl ?_
      exact llX10_placeOf_4 m h x1 (x2 + 1) y3 _ H xM
def fX10_placeOf (n : Nat) (M : tM) (v : Int32) : Option (Int32) := lX10_placeOf_4 n M n v 0 0
theorem spX10_placeOf {d n : Nat} {h : pH} {M : tM} (xM : isM h M) (v : Int32) {res : Int32} (H : fX10_placeOf n M v = some res) : Ev (d + 3) mX10_placeOf (h, 0, [(0, .ref 73), (1, .int v)], []) (fun r h1 => r = some (.int res) ∧ h1 = h) := by
  unfold fX10_placeOf at H
  refine Ev.go 4 (s' := (h, 4, [(0, .ref 73), (1, .int v), (2, .int 0), (3, .int 0)], [])) rfl ?_
  refine Ev.live rfl (lv' := [(0, .ref 73), (1, .int v), (2, .int 0), (3, .int 0)]) rfl ?_
  exact llX10_placeOf_4 n h v 0 0 _ H xM
def fX10_node (n : Nat) (M : tM) (v : Int32) (what : Int32) : Option (Int32) := (if (fX10_isNode M v) = 0 then some (-1) else (if ¬ (fX10_in what 0 5) = 0 then (if what = 0 then (if v < 0 ∨ 24 ≤ v.toNatClampNeg then none else some ((M.2.1 3) v.toNatClampNeg)) else (if what = 1 then (if v < 0 ∨ 24 ≤ v.toNatClampNeg then none else some ((M.2.1 4) v.toNatClampNeg)) else (if what = 2 then ((fX10_childMany n M v).bind fun y9 => some y9) else (if what = 3 then ((fX10_deepOf n M v).bind fun y12 => some y12) else (if what = 4 then ((fX10_placeOf n M v).bind fun y15 => some y15) else ((fX10_belowSet n M v).bind fun y17 => ((fX10_bits n y17).bind fun y19 => some y19))))))) else some (-1)))
theorem spX10_node {d n : Nat} {h : pH} {M : tM} (xM : isM h M) (v : Int32) (what : Int32) {res : Int32} (H : fX10_node n M v what = some res) : Ev (d + 4) mX10_node (h, 0, [(0, .ref 73), (1, .int v), (2, .int what)], []) (fun r h1 => r = some (.int res) ∧ h1 = h) := by
  unfold fX10_node at H
  refine Ev.go 2 (s' := (h, 2, [(0, .ref 73), (1, .int v), (2, .int what)], [.int v, .ref 73])) rfl ?_
  refine Ev.callE rfl rfl rfl (p_argsV (by decide) xM.1 (Nat.le_of_ble_eq_true rfl)) rfl (Nat.le_of_ble_eq_true rfl) (spX10_isNode xM v) ?_
  refine Ev.if1 rfl (fun c1 => ?_) (fun c1 => ?_)
  · have c1 : (fX10_isNode M v) = 0 := c1
    rw [if_pos c1] at H
    refine Ev.go 1 (s' := (h, 18, [(0, .ref 73), (1, .int v), (2, .int what)], [.int ((-1))])) rfl ?_
    have H := Option.some.inj H
    subst H
    exact Ev.ret rfl rfl (p_retZ rfl) ⟨rfl, rfl⟩
  · have c1 : ¬ ((fX10_isNode M v) = 0) := c1
    rw [if_neg c1] at H
    refine Ev.go 3 (s' := (h, 11, [(0, .ref 73), (1, .int v), (2, .int what)], [.int 5, .int 0, .int what])) rfl ?_
    refine Ev.callE rfl rfl rfl rfl rfl (Nat.le_of_ble_eq_true rfl) (spX10_in  what 0 5) ?_
    refine Ev.if1 rfl (fun c2 => ?_) (fun c2 => ?_)
    · have c2 : ¬ (fX10_in what 0 5) = 0 := c2
      rw [if_pos c2] at H
      refine Ev.go 1 (s' := (h, 20, [(0, .ref 73), (1, .int v), (2, .int what)], [.int what])) rfl ?_
      rcases Classical.em (what = 0) with c3 | c3
      · rw [if_pos c3] at H
        refine Ev.one (s' := (h, 56, [(0, .ref 73), (1, .int v), (2, .int what)], [])) rfl rfl (by rw [c3]; rfl) ?_
        refine Ev.go 1 (s' := (h, 57, [(0, .ref 73), (1, .int v), (2, .int what)], [.ref 73])) rfl ?_
        refine Ev.get rfl (by decide) xM.1 rfl ?_
        refine Ev.go 1 (s' := (h, 61, [(0, .ref 73), (1, .int v), (2, .int what)], [.int v, .ref 74])) rfl ?_
        have v4 : vp_in v 24 := fun q => by rw [if_pos q] at H; cases H
        rw [if_neg v4] at H
        refine Ev.iald rfl (by decide) xM.2.1 v4 ?_
        have H := Option.some.inj H
        subst H
        exact Ev.ret rfl rfl (p_retZ rfl) ⟨rfl, rfl⟩
      · rw [if_neg c3] at H
        rcases Classical.em (what = 1) with c5 | c5
        · rw [if_pos c5] at H
          refine Ev.one (s' := (h, 63, [(0, .ref 73), (1, .int v), (2, .int what)], [])) rfl rfl (by rw [c5]; rfl) ?_
          refine Ev.go 1 (s' := (h, 64, [(0, .ref 73), (1, .int v), (2, .int what)], [.ref 73])) rfl ?_
          refine Ev.get rfl (by decide) xM.1 rfl ?_
          refine Ev.go 1 (s' := (h, 68, [(0, .ref 73), (1, .int v), (2, .int what)], [.int v, .ref 75])) rfl ?_
          have v6 : vp_in v 24 := fun q => by rw [if_pos q] at H; cases H
          rw [if_neg v6] at H
          refine Ev.iald rfl (by decide) xM.2.2.1 v6 ?_
          have H := Option.some.inj H
          subst H
          exact Ev.ret rfl rfl (p_retZ rfl) ⟨rfl, rfl⟩
        · rw [if_neg c5] at H
          rcases Classical.em (what = 2) with c7 | c7
          · rw [if_pos c7] at H
            refine Ev.one (s' := (h, 70, [(0, .ref 73), (1, .int v), (2, .int what)], [])) rfl rfl (by rw [c7]; rfl) ?_
            refine Ev.go 2 (s' := (h, 72, [(0, .ref 73), (1, .int v), (2, .int what)], [.int v, .ref 73])) rfl ?_
            obtain ⟨y9, e8, H⟩ := Option.bind_eq_some_iff.mp H
            refine Ev.callE rfl rfl rfl (p_argsV (by decide) xM.1 (Nat.le_of_ble_eq_true rfl)) rfl (Nat.le_of_ble_eq_true rfl) (spX10_childMany xM v e8) ?_
            have H := Option.some.inj H
            subst H
            exact Ev.ret rfl rfl (p_retZ rfl) ⟨rfl, rfl⟩
          · rw [if_neg c7] at H
            rcases Classical.em (what = 3) with c10 | c10
            · rw [if_pos c10] at H
              refine Ev.one (s' := (h, 76, [(0, .ref 73), (1, .int v), (2, .int what)], [])) rfl rfl (by rw [c10]; rfl) ?_
              refine Ev.go 2 (s' := (h, 78, [(0, .ref 73), (1, .int v), (2, .int what)], [.int v, .ref 73])) rfl ?_
              obtain ⟨y12, e11, H⟩ := Option.bind_eq_some_iff.mp H
              refine Ev.callE rfl rfl rfl (p_argsV (by decide) xM.1 (Nat.le_of_ble_eq_true rfl)) rfl (Nat.le_of_ble_eq_true rfl) (spX10_deepOf xM v e11) ?_
              have H := Option.some.inj H
              subst H
              exact Ev.ret rfl rfl (p_retZ rfl) ⟨rfl, rfl⟩
            · rw [if_neg c10] at H
              rcases Classical.em (what = 4) with c13 | c13
              · rw [if_pos c13] at H
                refine Ev.one (s' := (h, 82, [(0, .ref 73), (1, .int v), (2, .int what)], [])) rfl rfl (by rw [c13]; rfl) ?_
                refine Ev.go 2 (s' := (h, 84, [(0, .ref 73), (1, .int v), (2, .int what)], [.int v, .ref 73])) rfl ?_
                obtain ⟨y15, e14, H⟩ := Option.bind_eq_some_iff.mp H
                refine Ev.callE rfl rfl rfl (p_argsV (by decide) xM.1 (Nat.le_of_ble_eq_true rfl)) rfl (Nat.le_of_ble_eq_true rfl) (spX10_placeOf xM v e14) ?_
                have H := Option.some.inj H
                subst H
                exact Ev.ret rfl rfl (p_retZ rfl) ⟨rfl, rfl⟩
              · rw [if_neg c13] at H
                refine Ev.one (s' := (h, 88, [(0, .ref 73), (1, .int v), (2, .int what)], [])) rfl rfl (p_swt (p_sw_0_4 c3 c5 c7 c10 c13)) ?_
                refine Ev.go 2 (s' := (h, 90, [(0, .ref 73), (1, .int v), (2, .int what)], [.int v, .ref 73])) rfl ?_
                obtain ⟨y17, e16, H⟩ := Option.bind_eq_some_iff.mp H
                refine Ev.callE rfl rfl rfl (p_argsV (by decide) xM.1 (Nat.le_of_ble_eq_true rfl)) rfl (Nat.le_of_ble_eq_true rfl) (spX10_belowSet xM v e16) ?_
                obtain ⟨y19, e18, H⟩ := Option.bind_eq_some_iff.mp H
                refine Ev.callE rfl rfl rfl rfl rfl (Nat.le_of_ble_eq_true rfl) (spX10_bits  y17 e18) ?_
                have H := Option.some.inj H
                subst H
                exact Ev.ret rfl rfl (p_retZ rfl) ⟨rfl, rfl⟩
    · have c2 : ¬ (¬ (fX10_in what 0 5) = 0) := c2
      rw [if_neg c2] at H
      refine Ev.go 1 (s' := (h, 18, [(0, .ref 73), (1, .int v), (2, .int what)], [.int ((-1))])) rfl ?_
      have H := Option.some.inj H
      subst H
      exact Ev.ret rfl rfl (p_retZ rfl) ⟨rfl, rfl⟩
def fX10_child (n : Nat) (M : tM) (v : Int32) (i : Int32) : Option (Int32) := (if (fX10_isNode M v) = 0 then some (-1) else (if 0 ≤ i then (if 24 ≤ i then some (-4) else ((fX10_childAt n M v i).bind fun y5 => some y5)) else some (-1)))
theorem spX10_child {d n : Nat} {h : pH} {M : tM} (xM : isM h M) (v : Int32) (i : Int32) {res : Int32} (H : fX10_child n M v i = some res) : Ev (d + 3) mX10_child (h, 0, [(0, .ref 73), (1, .int v), (2, .int i)], []) (fun r h1 => r = some (.int res) ∧ h1 = h) := by
  unfold fX10_child at H
  refine Ev.go 2 (s' := (h, 2, [(0, .ref 73), (1, .int v), (2, .int i)], [.int v, .ref 73])) rfl ?_
  refine Ev.callE rfl rfl rfl (p_argsV (by decide) xM.1 (Nat.le_of_ble_eq_true rfl)) rfl (Nat.le_of_ble_eq_true rfl) (spX10_isNode xM v) ?_
  refine Ev.if1 rfl (fun c1 => ?_) (fun c1 => ?_)
  · have c1 : (fX10_isNode M v) = 0 := c1
    rw [if_pos c1] at H
    refine Ev.go 1 (s' := (h, 13, [(0, .ref 73), (1, .int v), (2, .int i)], [.int ((-1))])) rfl ?_
    have H := Option.some.inj H
    subst H
    exact Ev.ret rfl rfl (p_retZ rfl) ⟨rfl, rfl⟩
  · have c1 : ¬ ((fX10_isNode M v) = 0) := c1
    rw [if_neg c1] at H
    refine Ev.go 1 (s' := (h, 9, [(0, .ref 73), (1, .int v), (2, .int i)], [.int i])) rfl ?_
    refine Ev.if1 rfl (fun c2 => ?_) (fun c2 => ?_)
    · have c2 : 0 ≤ i := c2
      rw [if_pos c2] at H
      refine Ev.go 2 (s' := (h, 17, [(0, .ref 73), (1, .int v), (2, .int i)], [.int 24, .int i])) rfl ?_
      refine Ev.if2 rfl (fun c3 => ?_) (fun c3 => ?_)
      · have c3 : 24 ≤ i := c3
        rw [if_pos c3] at H
        refine Ev.go 1 (s' := (h, 31, [(0, .ref 73), (1, .int v), (2, .int i)], [.int ((-4))])) rfl ?_
        have H := Option.some.inj H
        subst H
        exact Ev.ret rfl rfl (p_retZ rfl) ⟨rfl, rfl⟩
      · have c3 : ¬ (24 ≤ i) := c3
        rw [if_neg c3] at H
        refine Ev.go 3 (s' := (h, 23, [(0, .ref 73), (1, .int v), (2, .int i)], [.int i, .int v, .ref 73])) rfl ?_
        obtain ⟨y5, e4, H⟩ := Option.bind_eq_some_iff.mp H
        refine Ev.callE rfl rfl rfl (p_argsV (by decide) xM.1 (Nat.le_of_ble_eq_true rfl)) rfl (Nat.le_of_ble_eq_true rfl) (spX10_childAt xM v i e4) ?_
        refine Ev.go 1 (s' := (h, 31, [(0, .ref 73), (1, .int v), (2, .int i)], [.int y5])) rfl ?_
        have H := Option.some.inj H
        subst H
        exact Ev.ret rfl rfl (p_retZ rfl) ⟨rfl, rfl⟩
    · have c2 : ¬ (0 ≤ i) := c2
      rw [if_neg c2] at H
      refine Ev.go 1 (s' := (h, 13, [(0, .ref 73), (1, .int v), (2, .int i)], [.int ((-1))])) rfl ?_
      have H := Option.some.inj H
      subst H
      exact Ev.ret rfl rfl (p_retZ rfl) ⟨rfl, rfl⟩
def lX10_key_48 (n : Nat) (M : tM) : Nat → Int32 → Int32 → Int32 → Int32 → Option (Int32)
  | 0, _, _, _, _ => none
  | m + 1, x2, x3, x5, x6 => (if x6 ≤ x2 then (if ¬ x3 = 0 then (if x5 < 0 ∨ 24 ≤ x5.toNatClampNeg then none else ((fX10_figuresOf n ((M.2.1 5) x5.toNatClampNeg)).bind fun y11 => some y11)) else (if x5 < 0 ∨ 24 ≤ x5.toNatClampNeg then none else ((fX10_numberOf n ((M.2.1 5) x5.toNatClampNeg)).bind fun y14 => some y14))) else (if x5 < 0 ∨ 24 ≤ x5.toNatClampNeg then none else lX10_key_48 n M m x2 x3 ((M.2.1 4) x5.toNatClampNeg) (x6 + (-1))))
theorem llX10_key_48 {d n : Nat} {M : tM} : ∀ (m : Nat) (h : pH) (x2 : Int32) (x3 : Int32) (x5 : Int32) (x6 : Int32) (res : Int32), lX10_key_48 n M m x2 x3 x5 x6 = some res → isM h M → Ev (d + 2) mX10_key (h, 48, [(0, .ref 73), (2, .int x2), (3, .int x3), (5, .int x5), (6, .int x6)], []) (fun r h1 => r = some (.int res) ∧ h1 = h)
  | 0, h, x2, x3, x5, x6, res, H, _ => by cases H
  | m + 1, h, x2, x3, x5, x6, res, H, xM => by
    have H : (if x6 ≤ x2 then (if ¬ x3 = 0 then (if x5 < 0 ∨ 24 ≤ x5.toNatClampNeg then none else ((fX10_figuresOf n ((M.2.1 5) x5.toNatClampNeg)).bind fun y11 => some y11)) else (if x5 < 0 ∨ 24 ≤ x5.toNatClampNeg then none else ((fX10_numberOf n ((M.2.1 5) x5.toNatClampNeg)).bind fun y14 => some y14))) else (if x5 < 0 ∨ 24 ≤ x5.toNatClampNeg then none else lX10_key_48 n M m x2 x3 ((M.2.1 4) x5.toNatClampNeg) (x6 + (-1)))) = some res := H
    refine Ev.go 2 (s' := (h, 51, [(0, .ref 73), (2, .int x2), (3, .int x3), (5, .int x5), (6, .int x6)], [.int x2, .int x6])) rfl ?_
    refine Ev.if2 rfl (fun c7 => ?_) (fun c7 => ?_)
    · have c7 : x6 ≤ x2 := c7
      rw [if_pos c7] at H
      refine Ev.go 1 (s' := (h, 70, [(0, .ref 73), (2, .int x2), (3, .int x3), (5, .int x5), (6, .int x6)], [.int x3])) rfl ?_
      refine Ev.if1 rfl (fun c8 => ?_) (fun c8 => ?_)
      · have c8 : ¬ x3 = 0 := c8
        rw [if_pos c8] at H
        refine Ev.go 1 (s' := (h, 87, [(0, .ref 73), (2, .int x2), (3, .int x3), (5, .int x5), (6, .int x6)], [.ref 73])) rfl ?_
        refine Ev.get rfl (by decide) xM.1 rfl ?_
        refine Ev.go 1 (s' := (h, 92, [(0, .ref 73), (2, .int x2), (3, .int x3), (5, .int x5), (6, .int x6)], [.int x5, .ref 76])) rfl ?_
        have v9 : vp_in x5 24 := fun q => by rw [if_pos q] at H; cases H
        rw [if_neg v9] at H
        refine Ev.iald rfl (by decide) xM.2.2.2.1 v9 ?_
        obtain ⟨y11, e10, H⟩ := Option.bind_eq_some_iff.mp H
        refine Ev.callE rfl rfl rfl rfl rfl (Nat.le_of_ble_eq_true rfl) (spX10_figuresOf  ((M.2.1 5) x5.toNatClampNeg) e10) ?_
        have H := Option.some.inj H
        subst H
        exact Ev.ret rfl rfl (p_retZ rfl) ⟨rfl, rfl⟩
      · have c8 : ¬ (¬ x3 = 0) := c8
        rw [if_neg c8] at H
        refine Ev.go 1 (s' := (h, 74, [(0, .ref 73), (2, .int x2), (3, .int x3), (5, .int x5), (6, .int x6)], [.ref 73])) rfl ?_
        refine Ev.get rfl (by decide) xM.1 rfl ?_
        refine Ev.go 1 (s' := (h, 79, [(0, .ref 73), (2, .int x2), (3, .int x3), (5, .int x5), (6, .int x6)], [.int x5, .ref 76])) rfl ?_
        have v12 : vp_in x5 24 := fun q => by rw [if_pos q] at H; cases H
        rw [if_neg v12] at H
        refine Ev.iald rfl (by decide) xM.2.2.2.1 v12 ?_
        obtain ⟨y14, e13, H⟩ := Option.bind_eq_some_iff.mp H
        refine Ev.callE rfl rfl rfl rfl rfl (Nat.le_of_ble_eq_true rfl) (spX10_numberOf  ((M.2.1 5) x5.toNatClampNeg) e13) ?_
        refine Ev.go 1 (s' := (h, 96, [(0, .ref 73), (2, .int x2), (3, .int x3), (5, .int x5), (6, .int x6)], [.int y14])) rfl ?_
        have H := Option.some.inj H
        subst H
        exact Ev.ret rfl rfl (p_retZ rfl) ⟨rfl, rfl⟩
    · have c7 : ¬ (x6 ≤ x2) := c7
      rw [if_neg c7] at H
      refine Ev.go 1 (s' := (h, 55, [(0, .ref 73), (2, .int x2), (3, .int x3), (5, .int x5), (6, .int x6)], [.ref 73])) rfl ?_
      refine Ev.get rfl (by decide) xM.1 rfl ?_
      refine Ev.go 1 (s' := (h, 60, [(0, .ref 73), (2, .int x2), (3, .int x3), (5, .int x5), (6, .int x6)], [.int x5, .ref 75])) rfl ?_
      have v15 : vp_in x5 24 := fun q => by rw [if_pos q] at H; cases H
      rw [if_neg v15] at H
      refine Ev.iald rfl (by decide) xM.2.2.1 v15 ?_
      refine Ev.go 3 (s' := (h, 48, [(0, .ref 73), (2, .int x2), (3, .int x3), (5, .int ((M.2.1 4) x5.toNatClampNeg)), (6, .int (x6 + (-1)))], [])) rfl ?_
      refine Ev.live rfl (lv' := [(0, .ref 73), (2, .int x2), (3, .int x3), (5, .int ((M.2.1 4) x5.toNatClampNeg)), (6, .int (x6 + (-1)))]) rfl ?_
      exact llX10_key_48 m h x2 x3 ((M.2.1 4) x5.toNatClampNeg) (x6 + (-1)) _ H xM
def fX10_key (n : Nat) (M : tM) (v : Int32) (i : Int32) (what : Int32) : Option (Int32) := (if (fX10_isNode M v) = 0 then some (-1) else (if i < 0 then some (-1) else (if ¬ (fX10_in what 0 1) = 0 then ((fX10_deepOf n M v).bind fun y5 => (if i < y5 then lX10_key_48 n M n i what v (y5 - 1) else some (-4))) else some (-1))))
theorem spX10_key {d n : Nat} {h : pH} {M : tM} (xM : isM h M) (v : Int32) (i : Int32) (what : Int32) {res : Int32} (H : fX10_key n M v i what = some res) : Ev (d + 2) mX10_key (h, 0, [(0, .ref 73), (1, .int v), (2, .int i), (3, .int what)], []) (fun r h1 => r = some (.int res) ∧ h1 = h) := by
  unfold fX10_key at H
  refine Ev.go 2 (s' := (h, 2, [(0, .ref 73), (1, .int v), (2, .int i), (3, .int what)], [.int v, .ref 73])) rfl ?_
  refine Ev.callE rfl rfl rfl (p_argsV (by decide) xM.1 (Nat.le_of_ble_eq_true rfl)) rfl (Nat.le_of_ble_eq_true rfl) (spX10_isNode xM v) ?_
  refine Ev.if1 rfl (fun c1 => ?_) (fun c1 => ?_)
  · have c1 : (fX10_isNode M v) = 0 := c1
    rw [if_pos c1] at H
    refine Ev.go 1 (s' := (h, 22, [(0, .ref 73), (1, .int v), (2, .int i), (3, .int what)], [.int ((-1))])) rfl ?_
    have H := Option.some.inj H
    subst H
    exact Ev.ret rfl rfl (p_retZ rfl) ⟨rfl, rfl⟩
  · have c1 : ¬ ((fX10_isNode M v) = 0) := c1
    rw [if_neg c1] at H
    refine Ev.go 1 (s' := (h, 9, [(0, .ref 73), (1, .int v), (2, .int i), (3, .int what)], [.int i])) rfl ?_
    refine Ev.if1 rfl (fun c2 => ?_) (fun c2 => ?_)
    · have c2 : i < 0 := c2
      rw [if_pos c2] at H
      refine Ev.go 1 (s' := (h, 22, [(0, .ref 73), (1, .int v), (2, .int i), (3, .int what)], [.int ((-1))])) rfl ?_
      have H := Option.some.inj H
      subst H
      exact Ev.ret rfl rfl (p_retZ rfl) ⟨rfl, rfl⟩
    · have c2 : ¬ (i < 0) := c2
      rw [if_neg c2] at H
      refine Ev.go 3 (s' := (h, 15, [(0, .ref 73), (1, .int v), (2, .int i), (3, .int what)], [.int 1, .int 0, .int what])) rfl ?_
      refine Ev.callE rfl rfl rfl rfl rfl (Nat.le_of_ble_eq_true rfl) (spX10_in  what 0 1) ?_
      refine Ev.if1 rfl (fun c3 => ?_) (fun c3 => ?_)
      · have c3 : ¬ (fX10_in what 0 1) = 0 := c3
        rw [if_pos c3] at H
        refine Ev.go 2 (s' := (h, 25, [(0, .ref 73), (1, .int v), (2, .int i), (3, .int what)], [.int v, .ref 73])) rfl ?_
        obtain ⟨y5, e4, H⟩ := Option.bind_eq_some_iff.mp H
        refine Ev.callE rfl rfl rfl (p_argsV (by decide) xM.1 (Nat.le_of_ble_eq_true rfl)) rfl (Nat.le_of_ble_eq_true rfl) (spX10_deepOf xM v e4) ?_
        refine Ev.go 3 (s' := (h, 33, [(0, .ref 73), (1, .int v), (2, .int i), (3, .int what), (4, .int y5)], [.int y5, .int i])) rfl ?_
        refine Ev.if2 rfl (fun c6 => ?_) (fun c6 => ?_)
        · have c6 : i < y5 := c6
          rw [if_pos c6] at H
          refine Ev.go 6 (s' := (h, 48, [(0, .ref 73), (1, .int v), (2, .int i), (3, .int what), (4, .int y5), (5, .int v), (6, .int (y5 - 1))], [])) rfl ?_
          refine Ev.live rfl (lv' := [(0, .ref 73), (2, .int i), (3, .int what), (5, .int v), (6, .int (y5 - 1))]) rfl ?_
          exact llX10_key_48 n h i what v (y5 - 1) _ H xM
        · have c6 : ¬ (i < y5) := c6
          rw [if_neg c6] at H
          refine Ev.go 1 (s' := (h, 38, [(0, .ref 73), (1, .int v), (2, .int i), (3, .int what), (4, .int y5)], [.int ((-4))])) rfl ?_
          have H := Option.some.inj H
          subst H
          exact Ev.ret rfl rfl (p_retZ rfl) ⟨rfl, rfl⟩
      · have c3 : ¬ (¬ (fX10_in what 0 1) = 0) := c3
        rw [if_neg c3] at H
        refine Ev.go 1 (s' := (h, 22, [(0, .ref 73), (1, .int v), (2, .int i), (3, .int what)], [.int ((-1))])) rfl ?_
        have H := Option.some.inj H
        subst H
        exact Ev.ret rfl rfl (p_retZ rfl) ⟨rfl, rfl⟩
def lX10_at_10 (n : Nat) (M : tM) : Nat → Int32 → Int32 → Int32 → Option (Int32)
  | 0, _, _, _ => none
  | m + 1, x1, x2, x3 => (if x1 ≤ x3 then some x2 else (if x2 = (-4) then some x2 else ((fX10_behind n M x2).bind fun y5 => lX10_at_10 n M m x1 y5 (x3 + 1))))
theorem llX10_at_10 {d n : Nat} {M : tM} : ∀ (m : Nat) (h : pH) (x1 : Int32) (x2 : Int32) (x3 : Int32) (res : Int32), lX10_at_10 n M m x1 x2 x3 = some res → isM h M → Ev (d + 3) mX10_at (h, 10, [(0, .ref 73), (1, .int x1), (2, .int x2), (3, .int x3)], []) (fun r h1 => r = some (.int res) ∧ h1 = h)
  | 0, h, x1, x2, x3, res, H, _ => by cases H
  | m + 1, h, x1, x2, x3, res, H, xM => by
    have H : (if x1 ≤ x3 then some x2 else (if x2 = (-4) then some x2 else ((fX10_behind n M x2).bind fun y5 => lX10_at_10 n M m x1 y5 (x3 + 1)))) = some res := H
    refine Ev.go 2 (s' := (h, 12, [(0, .ref 73), (1, .int x1), (2, .int x2), (3, .int x3)], [.int x1, .int x3])) rfl ?_
    refine Ev.if2 rfl (fun c2 => ?_) (fun c2 => ?_)
    · have c2 : x1 ≤ x3 := c2
      rw [if_pos c2] at H
      refine Ev.go 1 (s' := (h, 34, [(0, .ref 73), (1, .int x1), (2, .int x2), (3, .int x3)], [.int x2])) rfl ?_
      have H := Option.some.inj H
      subst H
      exact Ev.ret rfl rfl (p_retZ rfl) ⟨rfl, rfl⟩
    · have c2 : ¬ (x1 ≤ x3) := c2
      rw [if_neg c2] at H
      refine Ev.go 2 (s' := (h, 18, [(0, .ref 73), (1, .int x1), (2, .int x2), (3, .int x3)], [.int ((-4)), .int x2])) rfl ?_
      refine Ev.if2 rfl (fun c3 => ?_) (fun c3 => ?_)
      · have c3 : x2 = (-4) := c3
        rw [if_pos c3] at H
        refine Ev.go 1 (s' := (h, 34, [(0, .ref 73), (1, .int x1), (2, .int x2), (3, .int x3)], [.int x2])) rfl ?_
        have H := Option.some.inj H
        subst H
        exact Ev.ret rfl rfl (p_retZ rfl) ⟨rfl, rfl⟩
      · have c3 : ¬ (x2 = (-4)) := c3
        rw [if_neg c3] at H
        refine Ev.go 2 (s' := (h, 23, [(0, .ref 73), (1, .int x1), (2, .int x2), (3, .int x3)], [.int x2, .ref 73])) rfl ?_
        obtain ⟨y5, e4, H⟩ := Option.bind_eq_some_iff.mp H
        refine Ev.callE rfl rfl rfl (p_argsV (by decide) xM.1 (Nat.le_of_ble_eq_true rfl)) rfl (Nat.le_of_ble_eq_true rfl) (spX10_behind xM x2 e4) ?_
        refine Ev.go 3 (s' := (h, 10, [(0, .ref 73), (1, .int x1), (2, .int y5), (3, .int (x3 + 1))], [])) rfl ?_
        refine Ev.live rfl (lv' := [(0, .ref 73), (1, .int x1), (2, .int y5), (3, .int (x3 + 1))]) rfl ?_
        exact llX10_at_10 m h x1 y5 (x3 + 1) _ H xM
def fX10_at (n : Nat) (M : tM) (k : Int32) : Option (Int32) := (if 0 ≤ k then lX10_at_10 n M n k 0 0 else some (-1))
theorem spX10_at {d n : Nat} {h : pH} {M : tM} (xM : isM h M) (k : Int32) {res : Int32} (H : fX10_at n M k = some res) : Ev (d + 3) mX10_at (h, 0, [(0, .ref 73), (1, .int k)], []) (fun r h1 => r = some (.int res) ∧ h1 = h) := by
  unfold fX10_at at H
  refine Ev.go 1 (s' := (h, 1, [(0, .ref 73), (1, .int k)], [.int k])) rfl ?_
  refine Ev.if1 rfl (fun c1 => ?_) (fun c1 => ?_)
  · have c1 : 0 ≤ k := c1
    rw [if_pos c1] at H
    refine Ev.go 4 (s' := (h, 10, [(0, .ref 73), (1, .int k), (2, .int 0), (3, .int 0)], [])) rfl ?_
    refine Ev.live rfl (lv' := [(0, .ref 73), (1, .int k), (2, .int 0), (3, .int 0)]) rfl ?_
    exact llX10_at_10 n h k 0 0 _ H xM
  · have c1 : ¬ (0 ≤ k) := c1
    rw [if_neg c1] at H
    refine Ev.go 1 (s' := (h, 5, [(0, .ref 73), (1, .int k)], [.int ((-1))])) rfl ?_
    have H := Option.some.inj H
    subst H
    exact Ev.ret rfl rfl (p_retZ rfl) ⟨rfl, rfl⟩
def lX10_lays_77_27 (n : Nat) : Nat → Int32 → Int32 → tM → Option (tM)
  | 0, _, _, _ => none
  | m + 1, x2, x3, M => (if 24 ≤ x3 then some M else (if x3 < 0 ∨ 24 ≤ x3.toNatClampNeg then none else (if ((x2 + 3) + x3) < 0 ∨ 600 ≤ ((x2 + 3) + x3).toNatClampNeg then none else (if ((x2 + 27) + x3) < 0 ∨ 600 ≤ ((x2 + 27) + x3).toNatClampNeg then none else (if ((x2 + 51) + x3) < 0 ∨ 600 ≤ ((x2 + 51) + x3).toNatClampNeg then none else lX10_lays_77_27 n m x2 (x3 + 1) (M.1, va_up M.2.1 6 (upd (upd (upd (M.2.1 6) ((x2 + 3) + x3).toNatClampNeg ((M.2.1 3) x3.toNatClampNeg)) ((x2 + 27) + x3).toNatClampNeg ((M.2.1 4) x3.toNatClampNeg)) ((x2 + 51) + x3).toNatClampNeg ((M.2.1 5) x3.toNatClampNeg)), M.2.2))))))
theorem llX10_lays_77_27 {d n : Nat} : ∀ (m : Nat) (h : pH) (x2 : Int32) (x3 : Int32) (M : tM) (res : tM), lX10_lays_77_27 n m x2 x3 M = some res → isM h M → Ev d mX10_lays (h, 27, [(0, .ref 73), (1, .ref 77), (2, .int x2), (3, .int x3)], []) (fun r h1 => r = none ∧ isM h1 res ∧ fr [(73, 89)] h h1)
  | 0, h, x2, x3, M, res, H, _ => by cases H
  | m + 1, h, x2, x3, M, res, H, xM => by
    have H : (if 24 ≤ x3 then some M else (if x3 < 0 ∨ 24 ≤ x3.toNatClampNeg then none else (if ((x2 + 3) + x3) < 0 ∨ 600 ≤ ((x2 + 3) + x3).toNatClampNeg then none else (if ((x2 + 27) + x3) < 0 ∨ 600 ≤ ((x2 + 27) + x3).toNatClampNeg then none else (if ((x2 + 51) + x3) < 0 ∨ 600 ≤ ((x2 + 51) + x3).toNatClampNeg then none else lX10_lays_77_27 n m x2 (x3 + 1) (M.1, va_up M.2.1 6 (upd (upd (upd (M.2.1 6) ((x2 + 3) + x3).toNatClampNeg ((M.2.1 3) x3.toNatClampNeg)) ((x2 + 27) + x3).toNatClampNeg ((M.2.1 4) x3.toNatClampNeg)) ((x2 + 51) + x3).toNatClampNeg ((M.2.1 5) x3.toNatClampNeg)), M.2.2)))))) = some res := H
    refine Ev.go 2 (s' := (h, 30, [(0, .ref 73), (1, .ref 77), (2, .int x2), (3, .int x3)], [.int 24, .int x3])) rfl ?_
    refine Ev.if2 rfl (fun c4 => ?_) (fun c4 => ?_)
    · have c4 : 24 ≤ x3 := c4
      rw [if_pos c4] at H
      have H := Option.some.inj H
      subst H
      exact Ev.ret rfl rfl rfl ⟨rfl, xM, (fun k _ => rfl)⟩
    · have c4 : ¬ (24 ≤ x3) := c4
      rw [if_neg c4] at H
      refine Ev.go 7 (s' := (h, 40, [(0, .ref 73), (1, .ref 77), (2, .int x2), (3, .int x3)], [.ref 73, .int ((x2 + 3) + x3), .ref 77])) rfl ?_
      refine Ev.get rfl (by decide) xM.1 rfl ?_
      refine Ev.go 1 (s' := (h, 44, [(0, .ref 73), (1, .ref 77), (2, .int x2), (3, .int x3)], [.int x3, .ref 74, .int ((x2 + 3) + x3), .ref 77])) rfl ?_
      have v5 : vp_in x3 24 := fun q => by rw [if_pos q] at H; cases H
      rw [if_neg v5] at H
      refine Ev.iald rfl (by decide) xM.2.1 v5 ?_
      have v6 : vp_in ((x2 + 3) + x3) 600 := fun q => by rw [if_pos q] at H; cases H
      rw [if_neg v6] at H
      refine Ev.iast rfl (by decide) xM.2.2.2.2.1 v6 ?_
      refine Ev.go 7 (s' := ((pu h 77 (eI 600 (upd (M.2.1 6) ((x2 + 3) + x3).toNatClampNeg ((M.2.1 3) x3.toNatClampNeg)))), 54, [(0, .ref 73), (1, .ref 77), (2, .int x2), (3, .int x3)], [.ref 73, .int ((x2 + 27) + x3), .ref 77])) rfl ?_
      refine Ev.get rfl (by decide) (pu_n (by decide) xM.1) rfl ?_
      refine Ev.go 1 (s' := ((pu h 77 (eI 600 (upd (M.2.1 6) ((x2 + 3) + x3).toNatClampNeg ((M.2.1 3) x3.toNatClampNeg)))), 58, [(0, .ref 73), (1, .ref 77), (2, .int x2), (3, .int x3)], [.int x3, .ref 75, .int ((x2 + 27) + x3), .ref 77])) rfl ?_
      refine Ev.iald rfl (by decide) (pu_n (by decide) xM.2.2.1) v5 ?_
      have v7 : vp_in ((x2 + 27) + x3) 600 := fun q => by rw [if_pos q] at H; cases H
      rw [if_neg v7] at H
      refine Ev.iast rfl (by decide) pu_s v7 ?_
      refine Ev.go 7 (s' := ((pu (pu h 77 (eI 600 (upd (M.2.1 6) ((x2 + 3) + x3).toNatClampNeg ((M.2.1 3) x3.toNatClampNeg)))) 77 (eI 600 (upd (upd (M.2.1 6) ((x2 + 3) + x3).toNatClampNeg ((M.2.1 3) x3.toNatClampNeg)) ((x2 + 27) + x3).toNatClampNeg ((M.2.1 4) x3.toNatClampNeg)))), 68, [(0, .ref 73), (1, .ref 77), (2, .int x2), (3, .int x3)], [.ref 73, .int ((x2 + 51) + x3), .ref 77])) rfl ?_
      refine Ev.get rfl (by decide) (pu_n (by decide) (pu_n (by decide) xM.1)) rfl ?_
      refine Ev.go 1 (s' := ((pu (pu h 77 (eI 600 (upd (M.2.1 6) ((x2 + 3) + x3).toNatClampNeg ((M.2.1 3) x3.toNatClampNeg)))) 77 (eI 600 (upd (upd (M.2.1 6) ((x2 + 3) + x3).toNatClampNeg ((M.2.1 3) x3.toNatClampNeg)) ((x2 + 27) + x3).toNatClampNeg ((M.2.1 4) x3.toNatClampNeg)))), 72, [(0, .ref 73), (1, .ref 77), (2, .int x2), (3, .int x3)], [.int x3, .ref 76, .int ((x2 + 51) + x3), .ref 77])) rfl ?_
      refine Ev.iald rfl (by decide) (pu_n (by decide) (pu_n (by decide) xM.2.2.2.1)) v5 ?_
      have v8 : vp_in ((x2 + 51) + x3) 600 := fun q => by rw [if_pos q] at H; cases H
      rw [if_neg v8] at H
      refine Ev.iast rfl (by decide) pu_s v8 ?_
      refine Ev.go 2 (s' := ((pu (pu (pu h 77 (eI 600 (upd (M.2.1 6) ((x2 + 3) + x3).toNatClampNeg ((M.2.1 3) x3.toNatClampNeg)))) 77 (eI 600 (upd (upd (M.2.1 6) ((x2 + 3) + x3).toNatClampNeg ((M.2.1 3) x3.toNatClampNeg)) ((x2 + 27) + x3).toNatClampNeg ((M.2.1 4) x3.toNatClampNeg)))) 77 (eI 600 (upd (upd (upd (M.2.1 6) ((x2 + 3) + x3).toNatClampNeg ((M.2.1 3) x3.toNatClampNeg)) ((x2 + 27) + x3).toNatClampNeg ((M.2.1 4) x3.toNatClampNeg)) ((x2 + 51) + x3).toNatClampNeg ((M.2.1 5) x3.toNatClampNeg)))), 27, [(0, .ref 73), (1, .ref 77), (2, .int x2), (3, .int (x3 + 1))], [])) rfl ?_
      refine Ev.live rfl (lv' := [(0, .ref 73), (1, .ref 77), (2, .int x2), (3, .int (x3 + 1))]) rfl ?_
      refine (llX10_lays_77_27 m (pu (pu (pu h 77 (eI 600 (upd (M.2.1 6) ((x2 + 3) + x3).toNatClampNeg ((M.2.1 3) x3.toNatClampNeg)))) 77 (eI 600 (upd (upd (M.2.1 6) ((x2 + 3) + x3).toNatClampNeg ((M.2.1 3) x3.toNatClampNeg)) ((x2 + 27) + x3).toNatClampNeg ((M.2.1 4) x3.toNatClampNeg)))) 77 (eI 600 (upd (upd (upd (M.2.1 6) ((x2 + 3) + x3).toNatClampNeg ((M.2.1 3) x3.toNatClampNeg)) ((x2 + 27) + x3).toNatClampNeg ((M.2.1 4) x3.toNatClampNeg)) ((x2 + 51) + x3).toNatClampNeg ((M.2.1 5) x3.toNatClampNeg)))) x2 (x3 + 1) (M.1, va_up M.2.1 6 (upd (upd (upd (M.2.1 6) ((x2 + 3) + x3).toNatClampNeg ((M.2.1 3) x3.toNatClampNeg)) ((x2 + 27) + x3).toNatClampNeg ((M.2.1 4) x3.toNatClampNeg)) ((x2 + 51) + x3).toNatClampNeg ((M.2.1 5) x3.toNatClampNeg)), M.2.2) _ H ⟨(pu_n (by decide) (pu_n (by decide) (pu_n (by decide) xM.1))), (pu_n (by decide) (pu_n (by decide) (pu_n (by decide) xM.2.1))), (pu_n (by decide) (pu_n (by decide) (pu_n (by decide) xM.2.2.1))), (pu_n (by decide) (pu_n (by decide) (pu_n (by decide) xM.2.2.2.1))), pu_s, (pu_n (by decide) (pu_n (by decide) (pu_n (by decide) xM.2.2.2.2.2.1))), (pu_n (by decide) (pu_n (by decide) (pu_n (by decide) xM.2.2.2.2.2.2.1))), (pu_n (by decide) (pu_n (by decide) (pu_n (by decide) xM.2.2.2.2.2.2.2.1))), (pu_n (by decide) (pu_n (by decide) (pu_n (by decide) xM.2.2.2.2.2.2.2.2.1))), (pu_n (by decide) (pu_n (by decide) (pu_n (by decide) xM.2.2.2.2.2.2.2.2.2.1))), (pu_n (by decide) (pu_n (by decide) (pu_n (by decide) xM.2.2.2.2.2.2.2.2.2.2.1))), (pu_n (by decide) (pu_n (by decide) (pu_n (by decide) xM.2.2.2.2.2.2.2.2.2.2.2.1))), (pu_n (by decide) (pu_n (by decide) (pu_n (by decide) xM.2.2.2.2.2.2.2.2.2.2.2.2.1))), (pu_n (by decide) (pu_n (by decide) (pu_n (by decide) xM.2.2.2.2.2.2.2.2.2.2.2.2.2.1))), (pu_n (by decide) (pu_n (by decide) (pu_n (by decide) xM.2.2.2.2.2.2.2.2.2.2.2.2.2.2.1))), (pu_n (by decide) (pu_n (by decide) (pu_n (by decide) xM.2.2.2.2.2.2.2.2.2.2.2.2.2.2.2)))⟩).mono (fun r h9 q9 => ?_)
      obtain ⟨q9r, q9_0, q9f⟩ := q9
      exact ⟨q9r, q9_0, fun k hk => (q9f k hk).trans (by rw [pu_x (show k ≠ 77 from fun e => by have := hk; simp at this; omega)]; rw [pu_x (show k ≠ 77 from fun e => by have := hk; simp at this; omega)]; rw [pu_x (show k ≠ 77 from fun e => by have := hk; simp at this; omega)])⟩
def fX10_lays_77 (n : Nat) (M : tM) (at_ : Int32) : Option (tM) := (if at_ < 0 ∨ 600 ≤ at_.toNatClampNeg then none else (if (at_ + 1) < 0 ∨ 600 ≤ (at_ + 1).toNatClampNeg then none else (if (at_ + 2) < 0 ∨ 600 ≤ (at_ + 2).toNatClampNeg then none else lX10_lays_77_27 n n at_ 0 (M.1, va_up M.2.1 6 (upd (upd (upd (M.2.1 6) at_.toNatClampNeg (M.1 0)) (at_ + 1).toNatClampNeg (M.1 1)) (at_ + 2).toNatClampNeg (M.1 2)), M.2.2))))
theorem spX10_lays_77 {d n : Nat} {h : pH} {M : tM} (xM : isM h M) (at_ : Int32) {res : tM} (H : fX10_lays_77 n M at_ = some res) : Ev d mX10_lays (h, 0, [(0, .ref 73), (1, .ref 77), (2, .int at_)], []) (fun r h1 => r = none ∧ isM h1 res ∧ fr [(73, 89)] h h1) := by
  unfold fX10_lays_77 at H
  refine Ev.go 3 (s' := (h, 3, [(0, .ref 73), (1, .ref 77), (2, .int at_)], [.ref 73, .int at_, .ref 77])) rfl ?_
  refine Ev.get rfl (by decide) xM.1 rfl ?_
  have v1 : vp_in at_ 600 := fun q => by rw [if_pos q] at H; cases H
  rw [if_neg v1] at H
  refine Ev.iast rfl (by decide) xM.2.2.2.2.1 v1 ?_
  refine Ev.go 5 (s' := ((pu h 77 (eI 600 (upd (M.2.1 6) at_.toNatClampNeg (M.1 0)))), 12, [(0, .ref 73), (1, .ref 77), (2, .int at_)], [.ref 73, .int (at_ + 1), .ref 77])) rfl ?_
  refine Ev.get rfl (by decide) (pu_n (by decide) xM.1) rfl ?_
  have v2 : vp_in (at_ + 1) 600 := fun q => by rw [if_pos q] at H; cases H
  rw [if_neg v2] at H
  refine Ev.iast rfl (by decide) pu_s v2 ?_
  refine Ev.go 5 (s' := ((pu (pu h 77 (eI 600 (upd (M.2.1 6) at_.toNatClampNeg (M.1 0)))) 77 (eI 600 (upd (upd (M.2.1 6) at_.toNatClampNeg (M.1 0)) (at_ + 1).toNatClampNeg (M.1 1)))), 21, [(0, .ref 73), (1, .ref 77), (2, .int at_)], [.ref 73, .int (at_ + 2), .ref 77])) rfl ?_
  refine Ev.get rfl (by decide) (pu_n (by decide) (pu_n (by decide) xM.1)) rfl ?_
  have v3 : vp_in (at_ + 2) 600 := fun q => by rw [if_pos q] at H; cases H
  rw [if_neg v3] at H
  refine Ev.iast rfl (by decide) pu_s v3 ?_
  refine Ev.go 2 (s' := ((pu (pu (pu h 77 (eI 600 (upd (M.2.1 6) at_.toNatClampNeg (M.1 0)))) 77 (eI 600 (upd (upd (M.2.1 6) at_.toNatClampNeg (M.1 0)) (at_ + 1).toNatClampNeg (M.1 1)))) 77 (eI 600 (upd (upd (upd (M.2.1 6) at_.toNatClampNeg (M.1 0)) (at_ + 1).toNatClampNeg (M.1 1)) (at_ + 2).toNatClampNeg (M.1 2)))), 27, [(0, .ref 73), (1, .ref 77), (2, .int at_), (3, .int 0)], [])) rfl ?_
  refine Ev.live rfl (lv' := [(0, .ref 73), (1, .ref 77), (2, .int at_), (3, .int 0)]) rfl ?_
  refine (llX10_lays_77_27 n (pu (pu (pu h 77 (eI 600 (upd (M.2.1 6) at_.toNatClampNeg (M.1 0)))) 77 (eI 600 (upd (upd (M.2.1 6) at_.toNatClampNeg (M.1 0)) (at_ + 1).toNatClampNeg (M.1 1)))) 77 (eI 600 (upd (upd (upd (M.2.1 6) at_.toNatClampNeg (M.1 0)) (at_ + 1).toNatClampNeg (M.1 1)) (at_ + 2).toNatClampNeg (M.1 2)))) at_ 0 (M.1, va_up M.2.1 6 (upd (upd (upd (M.2.1 6) at_.toNatClampNeg (M.1 0)) (at_ + 1).toNatClampNeg (M.1 1)) (at_ + 2).toNatClampNeg (M.1 2)), M.2.2) _ H ⟨(pu_n (by decide) (pu_n (by decide) (pu_n (by decide) xM.1))), (pu_n (by decide) (pu_n (by decide) (pu_n (by decide) xM.2.1))), (pu_n (by decide) (pu_n (by decide) (pu_n (by decide) xM.2.2.1))), (pu_n (by decide) (pu_n (by decide) (pu_n (by decide) xM.2.2.2.1))), pu_s, (pu_n (by decide) (pu_n (by decide) (pu_n (by decide) xM.2.2.2.2.2.1))), (pu_n (by decide) (pu_n (by decide) (pu_n (by decide) xM.2.2.2.2.2.2.1))), (pu_n (by decide) (pu_n (by decide) (pu_n (by decide) xM.2.2.2.2.2.2.2.1))), (pu_n (by decide) (pu_n (by decide) (pu_n (by decide) xM.2.2.2.2.2.2.2.2.1))), (pu_n (by decide) (pu_n (by decide) (pu_n (by decide) xM.2.2.2.2.2.2.2.2.2.1))), (pu_n (by decide) (pu_n (by decide) (pu_n (by decide) xM.2.2.2.2.2.2.2.2.2.2.1))), (pu_n (by decide) (pu_n (by decide) (pu_n (by decide) xM.2.2.2.2.2.2.2.2.2.2.2.1))), (pu_n (by decide) (pu_n (by decide) (pu_n (by decide) xM.2.2.2.2.2.2.2.2.2.2.2.2.1))), (pu_n (by decide) (pu_n (by decide) (pu_n (by decide) xM.2.2.2.2.2.2.2.2.2.2.2.2.2.1))), (pu_n (by decide) (pu_n (by decide) (pu_n (by decide) xM.2.2.2.2.2.2.2.2.2.2.2.2.2.2.1))), (pu_n (by decide) (pu_n (by decide) (pu_n (by decide) xM.2.2.2.2.2.2.2.2.2.2.2.2.2.2.2)))⟩).mono (fun r h9 q9 => ?_)
  obtain ⟨q9r, q9_0, q9f⟩ := q9
  exact ⟨q9r, q9_0, fun k hk => (q9f k hk).trans (by rw [pu_x (show k ≠ 77 from fun e => by have := hk; simp at this; omega)]; rw [pu_x (show k ≠ 77 from fun e => by have := hk; simp at this; omega)]; rw [pu_x (show k ≠ 77 from fun e => by have := hk; simp at this; omega)])⟩
def lX10_takes_77_27 (n : Nat) : Nat → Int32 → Int32 → tM → Option (tM)
  | 0, _, _, _ => none
  | m + 1, x2, x3, M => (if 24 ≤ x3 then some M else (if ((x2 + 3) + x3) < 0 ∨ 600 ≤ ((x2 + 3) + x3).toNatClampNeg then none else (if x3 < 0 ∨ 24 ≤ x3.toNatClampNeg then none else (if ((x2 + 27) + x3) < 0 ∨ 600 ≤ ((x2 + 27) + x3).toNatClampNeg then none else (if ((x2 + 51) + x3) < 0 ∨ 600 ≤ ((x2 + 51) + x3).toNatClampNeg then none else lX10_takes_77_27 n m x2 (x3 + 1) (M.1, va_up (va_up (va_up M.2.1 3 (upd (M.2.1 3) x3.toNatClampNeg ((M.2.1 6) ((x2 + 3) + x3).toNatClampNeg))) 4 (upd (M.2.1 4) x3.toNatClampNeg ((M.2.1 6) ((x2 + 27) + x3).toNatClampNeg))) 5 (upd (M.2.1 5) x3.toNatClampNeg ((M.2.1 6) ((x2 + 51) + x3).toNatClampNeg)), M.2.2))))))
theorem llX10_takes_77_27 {d n : Nat} : ∀ (m : Nat) (h : pH) (x2 : Int32) (x3 : Int32) (M : tM) (res : tM), lX10_takes_77_27 n m x2 x3 M = some res → isM h M → Ev d mX10_takes (h, 27, [(0, .ref 73), (1, .ref 77), (2, .int x2), (3, .int x3)], []) (fun r h1 => r = none ∧ isM h1 res ∧ fr [(73, 89)] h h1)
  | 0, h, x2, x3, M, res, H, _ => by cases H
  | m + 1, h, x2, x3, M, res, H, xM => by
    have H : (if 24 ≤ x3 then some M else (if ((x2 + 3) + x3) < 0 ∨ 600 ≤ ((x2 + 3) + x3).toNatClampNeg then none else (if x3 < 0 ∨ 24 ≤ x3.toNatClampNeg then none else (if ((x2 + 27) + x3) < 0 ∨ 600 ≤ ((x2 + 27) + x3).toNatClampNeg then none else (if ((x2 + 51) + x3) < 0 ∨ 600 ≤ ((x2 + 51) + x3).toNatClampNeg then none else lX10_takes_77_27 n m x2 (x3 + 1) (M.1, va_up (va_up (va_up M.2.1 3 (upd (M.2.1 3) x3.toNatClampNeg ((M.2.1 6) ((x2 + 3) + x3).toNatClampNeg))) 4 (upd (M.2.1 4) x3.toNatClampNeg ((M.2.1 6) ((x2 + 27) + x3).toNatClampNeg))) 5 (upd (M.2.1 5) x3.toNatClampNeg ((M.2.1 6) ((x2 + 51) + x3).toNatClampNeg)), M.2.2)))))) = some res := H
    refine Ev.go 2 (s' := (h, 30, [(0, .ref 73), (1, .ref 77), (2, .int x2), (3, .int x3)], [.int 24, .int x3])) rfl ?_
    refine Ev.if2 rfl (fun c4 => ?_) (fun c4 => ?_)
    · have c4 : 24 ≤ x3 := c4
      rw [if_pos c4] at H
      have H := Option.some.inj H
      subst H
      exact Ev.ret rfl rfl rfl ⟨rfl, xM, (fun k _ => rfl)⟩
    · have c4 : ¬ (24 ≤ x3) := c4
      rw [if_neg c4] at H
      refine Ev.go 1 (s' := (h, 34, [(0, .ref 73), (1, .ref 77), (2, .int x2), (3, .int x3)], [.ref 73])) rfl ?_
      refine Ev.get rfl (by decide) xM.1 rfl ?_
      refine Ev.go 7 (s' := (h, 44, [(0, .ref 73), (1, .ref 77), (2, .int x2), (3, .int x3)], [.int ((x2 + 3) + x3), .ref 77, .int x3, .ref 74])) rfl ?_
      have v5 : vp_in ((x2 + 3) + x3) 600 := fun q => by rw [if_pos q] at H; cases H
      rw [if_neg v5] at H
      refine Ev.iald rfl (by decide) xM.2.2.2.2.1 v5 ?_
      have v6 : vp_in x3 24 := fun q => by rw [if_pos q] at H; cases H
      rw [if_neg v6] at H
      refine Ev.iast rfl (by decide) xM.2.1 v6 ?_
      refine Ev.go 1 (s' := ((pu h 74 (eI 24 (upd (M.2.1 3) x3.toNatClampNeg ((M.2.1 6) ((x2 + 3) + x3).toNatClampNeg)))), 47, [(0, .ref 73), (1, .ref 77), (2, .int x2), (3, .int x3)], [.ref 73])) rfl ?_
      refine Ev.get rfl (by decide) (pu_n (by decide) xM.1) rfl ?_
      refine Ev.go 7 (s' := ((pu h 74 (eI 24 (upd (M.2.1 3) x3.toNatClampNeg ((M.2.1 6) ((x2 + 3) + x3).toNatClampNeg)))), 58, [(0, .ref 73), (1, .ref 77), (2, .int x2), (3, .int x3)], [.int ((x2 + 27) + x3), .ref 77, .int x3, .ref 75])) rfl ?_
      have v7 : vp_in ((x2 + 27) + x3) 600 := fun q => by rw [if_pos q] at H; cases H
      rw [if_neg v7] at H
      refine Ev.iald rfl (by decide) (pu_n (by decide) xM.2.2.2.2.1) v7 ?_
      refine Ev.iast rfl (by decide) (pu_n (by decide) xM.2.2.1) v6 ?_
      refine Ev.go 1 (s' := ((pu (pu h 74 (eI 24 (upd (M.2.1 3) x3.toNatClampNeg ((M.2.1 6) ((x2 + 3) + x3).toNatClampNeg)))) 75 (eI 24 (upd (M.2.1 4) x3.toNatClampNeg ((M.2.1 6) ((x2 + 27) + x3).toNatClampNeg)))), 61, [(0, .ref 73), (1, .ref 77), (2, .int x2), (3, .int x3)], [.ref 73])) rfl ?_
      refine Ev.get rfl (by decide) (pu_n (by decide) (pu_n (by decide) xM.1)) rfl ?_
      refine Ev.go 7 (s' := ((pu (pu h 74 (eI 24 (upd (M.2.1 3) x3.toNatClampNeg ((M.2.1 6) ((x2 + 3) + x3).toNatClampNeg)))) 75 (eI 24 (upd (M.2.1 4) x3.toNatClampNeg ((M.2.1 6) ((x2 + 27) + x3).toNatClampNeg)))), 72, [(0, .ref 73), (1, .ref 77), (2, .int x2), (3, .int x3)], [.int ((x2 + 51) + x3), .ref 77, .int x3, .ref 76])) rfl ?_
      have v8 : vp_in ((x2 + 51) + x3) 600 := fun q => by rw [if_pos q] at H; cases H
      rw [if_neg v8] at H
      refine Ev.iald rfl (by decide) (pu_n (by decide) (pu_n (by decide) xM.2.2.2.2.1)) v8 ?_
      refine Ev.iast rfl (by decide) (pu_n (by decide) (pu_n (by decide) xM.2.2.2.1)) v6 ?_
      refine Ev.go 2 (s' := ((pu (pu (pu h 74 (eI 24 (upd (M.2.1 3) x3.toNatClampNeg ((M.2.1 6) ((x2 + 3) + x3).toNatClampNeg)))) 75 (eI 24 (upd (M.2.1 4) x3.toNatClampNeg ((M.2.1 6) ((x2 + 27) + x3).toNatClampNeg)))) 76 (eI 24 (upd (M.2.1 5) x3.toNatClampNeg ((M.2.1 6) ((x2 + 51) + x3).toNatClampNeg)))), 27, [(0, .ref 73), (1, .ref 77), (2, .int x2), (3, .int (x3 + 1))], [])) rfl ?_
      refine Ev.live rfl (lv' := [(0, .ref 73), (1, .ref 77), (2, .int x2), (3, .int (x3 + 1))]) rfl ?_
      refine (llX10_takes_77_27 m (pu (pu (pu h 74 (eI 24 (upd (M.2.1 3) x3.toNatClampNeg ((M.2.1 6) ((x2 + 3) + x3).toNatClampNeg)))) 75 (eI 24 (upd (M.2.1 4) x3.toNatClampNeg ((M.2.1 6) ((x2 + 27) + x3).toNatClampNeg)))) 76 (eI 24 (upd (M.2.1 5) x3.toNatClampNeg ((M.2.1 6) ((x2 + 51) + x3).toNatClampNeg)))) x2 (x3 + 1) (M.1, va_up (va_up (va_up M.2.1 3 (upd (M.2.1 3) x3.toNatClampNeg ((M.2.1 6) ((x2 + 3) + x3).toNatClampNeg))) 4 (upd (M.2.1 4) x3.toNatClampNeg ((M.2.1 6) ((x2 + 27) + x3).toNatClampNeg))) 5 (upd (M.2.1 5) x3.toNatClampNeg ((M.2.1 6) ((x2 + 51) + x3).toNatClampNeg)), M.2.2) _ H ⟨(pu_n (by decide) (pu_n (by decide) (pu_n (by decide) xM.1))), (pu_n (by decide) (pu_n (by decide) pu_s)), (pu_n (by decide) pu_s), pu_s, (pu_n (by decide) (pu_n (by decide) (pu_n (by decide) xM.2.2.2.2.1))), (pu_n (by decide) (pu_n (by decide) (pu_n (by decide) xM.2.2.2.2.2.1))), (pu_n (by decide) (pu_n (by decide) (pu_n (by decide) xM.2.2.2.2.2.2.1))), (pu_n (by decide) (pu_n (by decide) (pu_n (by decide) xM.2.2.2.2.2.2.2.1))), (pu_n (by decide) (pu_n (by decide) (pu_n (by decide) xM.2.2.2.2.2.2.2.2.1))), (pu_n (by decide) (pu_n (by decide) (pu_n (by decide) xM.2.2.2.2.2.2.2.2.2.1))), (pu_n (by decide) (pu_n (by decide) (pu_n (by decide) xM.2.2.2.2.2.2.2.2.2.2.1))), (pu_n (by decide) (pu_n (by decide) (pu_n (by decide) xM.2.2.2.2.2.2.2.2.2.2.2.1))), (pu_n (by decide) (pu_n (by decide) (pu_n (by decide) xM.2.2.2.2.2.2.2.2.2.2.2.2.1))), (pu_n (by decide) (pu_n (by decide) (pu_n (by decide) xM.2.2.2.2.2.2.2.2.2.2.2.2.2.1))), (pu_n (by decide) (pu_n (by decide) (pu_n (by decide) xM.2.2.2.2.2.2.2.2.2.2.2.2.2.2.1))), (pu_n (by decide) (pu_n (by decide) (pu_n (by decide) xM.2.2.2.2.2.2.2.2.2.2.2.2.2.2.2)))⟩).mono (fun r h9 q9 => ?_)
      obtain ⟨q9r, q9_0, q9f⟩ := q9
      exact ⟨q9r, q9_0, fun k hk => (q9f k hk).trans (by rw [pu_x (show k ≠ 76 from fun e => by have := hk; simp at this; omega)]; rw [pu_x (show k ≠ 75 from fun e => by have := hk; simp at this; omega)]; rw [pu_x (show k ≠ 74 from fun e => by have := hk; simp at this; omega)])⟩
def fX10_takes_77 (n : Nat) (M : tM) (at_ : Int32) : Option (tM) := (if at_ < 0 ∨ 600 ≤ at_.toNatClampNeg then none else (if (at_ + 1) < 0 ∨ 600 ≤ (at_ + 1).toNatClampNeg then none else (if (at_ + 2) < 0 ∨ 600 ≤ (at_ + 2).toNatClampNeg then none else lX10_takes_77_27 n n at_ 0 (va_up (va_up (va_up M.1 0 ((M.2.1 6) at_.toNatClampNeg)) 1 ((M.2.1 6) (at_ + 1).toNatClampNeg)) 2 ((M.2.1 6) (at_ + 2).toNatClampNeg), M.2.1, M.2.2))))
theorem spX10_takes_77 {d n : Nat} {h : pH} {M : tM} (xM : isM h M) (at_ : Int32) {res : tM} (H : fX10_takes_77 n M at_ = some res) : Ev d mX10_takes (h, 0, [(0, .ref 73), (1, .ref 77), (2, .int at_)], []) (fun r h1 => r = none ∧ isM h1 res ∧ fr [(73, 89)] h h1) := by
  unfold fX10_takes_77 at H
  refine Ev.go 3 (s' := (h, 3, [(0, .ref 73), (1, .ref 77), (2, .int at_)], [.int at_, .ref 77, .ref 73])) rfl ?_
  have v1 : vp_in at_ 600 := fun q => by rw [if_pos q] at H; cases H
  rw [if_neg v1] at H
  refine Ev.iald rfl (by decide) xM.2.2.2.2.1 v1 ?_
  refine Ev.put rfl rfl (by decide) xM.1 (Nat.le_of_ble_eq_true rfl) rfl rfl (fs' := [.int ((M.2.1 6) at_.toNatClampNeg), .int (M.1 1), .int (M.1 2), .ref 74, .ref 75, .ref 76, .ref 77, .int (M.1 7), .ref 78, .int (M.1 9), .ref 79, .int (M.1 11), .int (M.1 12), .int (M.1 13), .ref 80, .int (M.1 15), .int (M.1 16), .ref 81, .ref 82, .ref 83, .int (M.1 20), .int (M.1 21), .ref 84, .ref 85, .ref 86, .ref 87, .ref 88]) rfl ?_
  refine Ev.go 5 (s' := ((pu h 73 (eO 9 [.int ((M.2.1 6) at_.toNatClampNeg), .int (M.1 1), .int (M.1 2), .ref 74, .ref 75, .ref 76, .ref 77, .int (M.1 7), .ref 78, .int (M.1 9), .ref 79, .int (M.1 11), .int (M.1 12), .int (M.1 13), .ref 80, .int (M.1 15), .int (M.1 16), .ref 81, .ref 82, .ref 83, .int (M.1 20), .int (M.1 21), .ref 84, .ref 85, .ref 86, .ref 87, .ref 88])), 12, [(0, .ref 73), (1, .ref 77), (2, .int at_)], [.int (at_ + 1), .ref 77, .ref 73])) rfl ?_
  have v2 : vp_in (at_ + 1) 600 := fun q => by rw [if_pos q] at H; cases H
  rw [if_neg v2] at H
  refine Ev.iald rfl (by decide) (pu_n (by decide) xM.2.2.2.2.1) v2 ?_
  refine Ev.put rfl rfl (by decide) pu_s (Nat.le_of_ble_eq_true rfl) rfl rfl (fs' := [.int ((M.2.1 6) at_.toNatClampNeg), .int ((M.2.1 6) (at_ + 1).toNatClampNeg), .int (M.1 2), .ref 74, .ref 75, .ref 76, .ref 77, .int (M.1 7), .ref 78, .int (M.1 9), .ref 79, .int (M.1 11), .int (M.1 12), .int (M.1 13), .ref 80, .int (M.1 15), .int (M.1 16), .ref 81, .ref 82, .ref 83, .int (M.1 20), .int (M.1 21), .ref 84, .ref 85, .ref 86, .ref 87, .ref 88]) rfl ?_
  refine Ev.go 5 (s' := ((pu (pu h 73 (eO 9 [.int ((M.2.1 6) at_.toNatClampNeg), .int (M.1 1), .int (M.1 2), .ref 74, .ref 75, .ref 76, .ref 77, .int (M.1 7), .ref 78, .int (M.1 9), .ref 79, .int (M.1 11), .int (M.1 12), .int (M.1 13), .ref 80, .int (M.1 15), .int (M.1 16), .ref 81, .ref 82, .ref 83, .int (M.1 20), .int (M.1 21), .ref 84, .ref 85, .ref 86, .ref 87, .ref 88])) 73 (eO 9 [.int ((M.2.1 6) at_.toNatClampNeg), .int ((M.2.1 6) (at_ + 1).toNatClampNeg), .int (M.1 2), .ref 74, .ref 75, .ref 76, .ref 77, .int (M.1 7), .ref 78, .int (M.1 9), .ref 79, .int (M.1 11), .int (M.1 12), .int (M.1 13), .ref 80, .int (M.1 15), .int (M.1 16), .ref 81, .ref 82, .ref 83, .int (M.1 20), .int (M.1 21), .ref 84, .ref 85, .ref 86, .ref 87, .ref 88])), 21, [(0, .ref 73), (1, .ref 77), (2, .int at_)], [.int (at_ + 2), .ref 77, .ref 73])) rfl ?_
  have v3 : vp_in (at_ + 2) 600 := fun q => by rw [if_pos q] at H; cases H
  rw [if_neg v3] at H
  refine Ev.iald rfl (by decide) (pu_n (by decide) (pu_n (by decide) xM.2.2.2.2.1)) v3 ?_
  refine Ev.put rfl rfl (by decide) pu_s (Nat.le_of_ble_eq_true rfl) rfl rfl (fs' := [.int ((M.2.1 6) at_.toNatClampNeg), .int ((M.2.1 6) (at_ + 1).toNatClampNeg), .int ((M.2.1 6) (at_ + 2).toNatClampNeg), .ref 74, .ref 75, .ref 76, .ref 77, .int (M.1 7), .ref 78, .int (M.1 9), .ref 79, .int (M.1 11), .int (M.1 12), .int (M.1 13), .ref 80, .int (M.1 15), .int (M.1 16), .ref 81, .ref 82, .ref 83, .int (M.1 20), .int (M.1 21), .ref 84, .ref 85, .ref 86, .ref 87, .ref 88]) rfl ?_
  refine Ev.go 2 (s' := ((pu (pu (pu h 73 (eO 9 [.int ((M.2.1 6) at_.toNatClampNeg), .int (M.1 1), .int (M.1 2), .ref 74, .ref 75, .ref 76, .ref 77, .int (M.1 7), .ref 78, .int (M.1 9), .ref 79, .int (M.1 11), .int (M.1 12), .int (M.1 13), .ref 80, .int (M.1 15), .int (M.1 16), .ref 81, .ref 82, .ref 83, .int (M.1 20), .int (M.1 21), .ref 84, .ref 85, .ref 86, .ref 87, .ref 88])) 73 (eO 9 [.int ((M.2.1 6) at_.toNatClampNeg), .int ((M.2.1 6) (at_ + 1).toNatClampNeg), .int (M.1 2), .ref 74, .ref 75, .ref 76, .ref 77, .int (M.1 7), .ref 78, .int (M.1 9), .ref 79, .int (M.1 11), .int (M.1 12), .int (M.1 13), .ref 80, .int (M.1 15), .int (M.1 16), .ref 81, .ref 82, .ref 83, .int (M.1 20), .int (M.1 21), .ref 84, .ref 85, .ref 86, .ref 87, .ref 88])) 73 (eO 9 [.int ((M.2.1 6) at_.toNatClampNeg), .int ((M.2.1 6) (at_ + 1).toNatClampNeg), .int ((M.2.1 6) (at_ + 2).toNatClampNeg), .ref 74, .ref 75, .ref 76, .ref 77, .int (M.1 7), .ref 78, .int (M.1 9), .ref 79, .int (M.1 11), .int (M.1 12), .int (M.1 13), .ref 80, .int (M.1 15), .int (M.1 16), .ref 81, .ref 82, .ref 83, .int (M.1 20), .int (M.1 21), .ref 84, .ref 85, .ref 86, .ref 87, .ref 88])), 27, [(0, .ref 73), (1, .ref 77), (2, .int at_), (3, .int 0)], [])) rfl ?_
  refine Ev.live rfl (lv' := [(0, .ref 73), (1, .ref 77), (2, .int at_), (3, .int 0)]) rfl ?_
  refine (llX10_takes_77_27 n (pu (pu (pu h 73 (eO 9 [.int ((M.2.1 6) at_.toNatClampNeg), .int (M.1 1), .int (M.1 2), .ref 74, .ref 75, .ref 76, .ref 77, .int (M.1 7), .ref 78, .int (M.1 9), .ref 79, .int (M.1 11), .int (M.1 12), .int (M.1 13), .ref 80, .int (M.1 15), .int (M.1 16), .ref 81, .ref 82, .ref 83, .int (M.1 20), .int (M.1 21), .ref 84, .ref 85, .ref 86, .ref 87, .ref 88])) 73 (eO 9 [.int ((M.2.1 6) at_.toNatClampNeg), .int ((M.2.1 6) (at_ + 1).toNatClampNeg), .int (M.1 2), .ref 74, .ref 75, .ref 76, .ref 77, .int (M.1 7), .ref 78, .int (M.1 9), .ref 79, .int (M.1 11), .int (M.1 12), .int (M.1 13), .ref 80, .int (M.1 15), .int (M.1 16), .ref 81, .ref 82, .ref 83, .int (M.1 20), .int (M.1 21), .ref 84, .ref 85, .ref 86, .ref 87, .ref 88])) 73 (eO 9 [.int ((M.2.1 6) at_.toNatClampNeg), .int ((M.2.1 6) (at_ + 1).toNatClampNeg), .int ((M.2.1 6) (at_ + 2).toNatClampNeg), .ref 74, .ref 75, .ref 76, .ref 77, .int (M.1 7), .ref 78, .int (M.1 9), .ref 79, .int (M.1 11), .int (M.1 12), .int (M.1 13), .ref 80, .int (M.1 15), .int (M.1 16), .ref 81, .ref 82, .ref 83, .int (M.1 20), .int (M.1 21), .ref 84, .ref 85, .ref 86, .ref 87, .ref 88])) at_ 0 (va_up (va_up (va_up M.1 0 ((M.2.1 6) at_.toNatClampNeg)) 1 ((M.2.1 6) (at_ + 1).toNatClampNeg)) 2 ((M.2.1 6) (at_ + 2).toNatClampNeg), M.2.1, M.2.2) _ H ⟨pu_s, (pu_n (by decide) (pu_n (by decide) (pu_n (by decide) xM.2.1))), (pu_n (by decide) (pu_n (by decide) (pu_n (by decide) xM.2.2.1))), (pu_n (by decide) (pu_n (by decide) (pu_n (by decide) xM.2.2.2.1))), (pu_n (by decide) (pu_n (by decide) (pu_n (by decide) xM.2.2.2.2.1))), (pu_n (by decide) (pu_n (by decide) (pu_n (by decide) xM.2.2.2.2.2.1))), (pu_n (by decide) (pu_n (by decide) (pu_n (by decide) xM.2.2.2.2.2.2.1))), (pu_n (by decide) (pu_n (by decide) (pu_n (by decide) xM.2.2.2.2.2.2.2.1))), (pu_n (by decide) (pu_n (by decide) (pu_n (by decide) xM.2.2.2.2.2.2.2.2.1))), (pu_n (by decide) (pu_n (by decide) (pu_n (by decide) xM.2.2.2.2.2.2.2.2.2.1))), (pu_n (by decide) (pu_n (by decide) (pu_n (by decide) xM.2.2.2.2.2.2.2.2.2.2.1))), (pu_n (by decide) (pu_n (by decide) (pu_n (by decide) xM.2.2.2.2.2.2.2.2.2.2.2.1))), (pu_n (by decide) (pu_n (by decide) (pu_n (by decide) xM.2.2.2.2.2.2.2.2.2.2.2.2.1))), (pu_n (by decide) (pu_n (by decide) (pu_n (by decide) xM.2.2.2.2.2.2.2.2.2.2.2.2.2.1))), (pu_n (by decide) (pu_n (by decide) (pu_n (by decide) xM.2.2.2.2.2.2.2.2.2.2.2.2.2.2.1))), (pu_n (by decide) (pu_n (by decide) (pu_n (by decide) xM.2.2.2.2.2.2.2.2.2.2.2.2.2.2.2)))⟩).mono (fun r h9 q9 => ?_)
  obtain ⟨q9r, q9_0, q9f⟩ := q9
  exact ⟨q9r, q9_0, fun k hk => (q9f k hk).trans (by rw [pu_x (show k ≠ 73 from fun e => by have := hk; simp at this; omega)]; rw [pu_x (show k ≠ 73 from fun e => by have := hk; simp at this; omega)]; rw [pu_x (show k ≠ 73 from fun e => by have := hk; simp at this; omega)])⟩
def lX10_lays_78_27 (n : Nat) : Nat → Int32 → Int32 → tM → Option (tM)
  | 0, _, _, _ => none
  | m + 1, x2, x3, M => (if 24 ≤ x3 then some M else (if x3 < 0 ∨ 24 ≤ x3.toNatClampNeg then none else (if ((x2 + 3) + x3) < 0 ∨ 150 ≤ ((x2 + 3) + x3).toNatClampNeg then none else (if ((x2 + 27) + x3) < 0 ∨ 150 ≤ ((x2 + 27) + x3).toNatClampNeg then none else (if ((x2 + 51) + x3) < 0 ∨ 150 ≤ ((x2 + 51) + x3).toNatClampNeg then none else lX10_lays_78_27 n m x2 (x3 + 1) (M.1, va_up M.2.1 8 (upd (upd (upd (M.2.1 8) ((x2 + 3) + x3).toNatClampNeg ((M.2.1 3) x3.toNatClampNeg)) ((x2 + 27) + x3).toNatClampNeg ((M.2.1 4) x3.toNatClampNeg)) ((x2 + 51) + x3).toNatClampNeg ((M.2.1 5) x3.toNatClampNeg)), M.2.2))))))
theorem llX10_lays_78_27 {d n : Nat} : ∀ (m : Nat) (h : pH) (x2 : Int32) (x3 : Int32) (M : tM) (res : tM), lX10_lays_78_27 n m x2 x3 M = some res → isM h M → Ev d mX10_lays (h, 27, [(0, .ref 73), (1, .ref 78), (2, .int x2), (3, .int x3)], []) (fun r h1 => r = none ∧ isM h1 res ∧ fr [(73, 89)] h h1)
  | 0, h, x2, x3, M, res, H, _ => by cases H
  | m + 1, h, x2, x3, M, res, H, xM => by
    have H : (if 24 ≤ x3 then some M else (if x3 < 0 ∨ 24 ≤ x3.toNatClampNeg then none else (if ((x2 + 3) + x3) < 0 ∨ 150 ≤ ((x2 + 3) + x3).toNatClampNeg then none else (if ((x2 + 27) + x3) < 0 ∨ 150 ≤ ((x2 + 27) + x3).toNatClampNeg then none else (if ((x2 + 51) + x3) < 0 ∨ 150 ≤ ((x2 + 51) + x3).toNatClampNeg then none else lX10_lays_78_27 n m x2 (x3 + 1) (M.1, va_up M.2.1 8 (upd (upd (upd (M.2.1 8) ((x2 + 3) + x3).toNatClampNeg ((M.2.1 3) x3.toNatClampNeg)) ((x2 + 27) + x3).toNatClampNeg ((M.2.1 4) x3.toNatClampNeg)) ((x2 + 51) + x3).toNatClampNeg ((M.2.1 5) x3.toNatClampNeg)), M.2.2)))))) = some res := H
    refine Ev.go 2 (s' := (h, 30, [(0, .ref 73), (1, .ref 78), (2, .int x2), (3, .int x3)], [.int 24, .int x3])) rfl ?_
    refine Ev.if2 rfl (fun c4 => ?_) (fun c4 => ?_)
    · have c4 : 24 ≤ x3 := c4
      rw [if_pos c4] at H
      have H := Option.some.inj H
      subst H
      exact Ev.ret rfl rfl rfl ⟨rfl, xM, (fun k _ => rfl)⟩
    · have c4 : ¬ (24 ≤ x3) := c4
      rw [if_neg c4] at H
      refine Ev.go 7 (s' := (h, 40, [(0, .ref 73), (1, .ref 78), (2, .int x2), (3, .int x3)], [.ref 73, .int ((x2 + 3) + x3), .ref 78])) rfl ?_
      refine Ev.get rfl (by decide) xM.1 rfl ?_
      refine Ev.go 1 (s' := (h, 44, [(0, .ref 73), (1, .ref 78), (2, .int x2), (3, .int x3)], [.int x3, .ref 74, .int ((x2 + 3) + x3), .ref 78])) rfl ?_
      have v5 : vp_in x3 24 := fun q => by rw [if_pos q] at H; cases H
      rw [if_neg v5] at H
      refine Ev.iald rfl (by decide) xM.2.1 v5 ?_
      have v6 : vp_in ((x2 + 3) + x3) 150 := fun q => by rw [if_pos q] at H; cases H
      rw [if_neg v6] at H
      refine Ev.iast rfl (by decide) xM.2.2.2.2.2.1 v6 ?_
      refine Ev.go 7 (s' := ((pu h 78 (eI 150 (upd (M.2.1 8) ((x2 + 3) + x3).toNatClampNeg ((M.2.1 3) x3.toNatClampNeg)))), 54, [(0, .ref 73), (1, .ref 78), (2, .int x2), (3, .int x3)], [.ref 73, .int ((x2 + 27) + x3), .ref 78])) rfl ?_
      refine Ev.get rfl (by decide) (pu_n (by decide) xM.1) rfl ?_
      refine Ev.go 1 (s' := ((pu h 78 (eI 150 (upd (M.2.1 8) ((x2 + 3) + x3).toNatClampNeg ((M.2.1 3) x3.toNatClampNeg)))), 58, [(0, .ref 73), (1, .ref 78), (2, .int x2), (3, .int x3)], [.int x3, .ref 75, .int ((x2 + 27) + x3), .ref 78])) rfl ?_
      refine Ev.iald rfl (by decide) (pu_n (by decide) xM.2.2.1) v5 ?_
      have v7 : vp_in ((x2 + 27) + x3) 150 := fun q => by rw [if_pos q] at H; cases H
      rw [if_neg v7] at H
      refine Ev.iast rfl (by decide) pu_s v7 ?_
      refine Ev.go 7 (s' := ((pu (pu h 78 (eI 150 (upd (M.2.1 8) ((x2 + 3) + x3).toNatClampNeg ((M.2.1 3) x3.toNatClampNeg)))) 78 (eI 150 (upd (upd (M.2.1 8) ((x2 + 3) + x3).toNatClampNeg ((M.2.1 3) x3.toNatClampNeg)) ((x2 + 27) + x3).toNatClampNeg ((M.2.1 4) x3.toNatClampNeg)))), 68, [(0, .ref 73), (1, .ref 78), (2, .int x2), (3, .int x3)], [.ref 73, .int ((x2 + 51) + x3), .ref 78])) rfl ?_
      refine Ev.get rfl (by decide) (pu_n (by decide) (pu_n (by decide) xM.1)) rfl ?_
      refine Ev.go 1 (s' := ((pu (pu h 78 (eI 150 (upd (M.2.1 8) ((x2 + 3) + x3).toNatClampNeg ((M.2.1 3) x3.toNatClampNeg)))) 78 (eI 150 (upd (upd (M.2.1 8) ((x2 + 3) + x3).toNatClampNeg ((M.2.1 3) x3.toNatClampNeg)) ((x2 + 27) + x3).toNatClampNeg ((M.2.1 4) x3.toNatClampNeg)))), 72, [(0, .ref 73), (1, .ref 78), (2, .int x2), (3, .int x3)], [.int x3, .ref 76, .int ((x2 + 51) + x3), .ref 78])) rfl ?_
      refine Ev.iald rfl (by decide) (pu_n (by decide) (pu_n (by decide) xM.2.2.2.1)) v5 ?_
      have v8 : vp_in ((x2 + 51) + x3) 150 := fun q => by rw [if_pos q] at H; cases H
      rw [if_neg v8] at H
      refine Ev.iast rfl (by decide) pu_s v8 ?_
      refine Ev.go 2 (s' := ((pu (pu (pu h 78 (eI 150 (upd (M.2.1 8) ((x2 + 3) + x3).toNatClampNeg ((M.2.1 3) x3.toNatClampNeg)))) 78 (eI 150 (upd (upd (M.2.1 8) ((x2 + 3) + x3).toNatClampNeg ((M.2.1 3) x3.toNatClampNeg)) ((x2 + 27) + x3).toNatClampNeg ((M.2.1 4) x3.toNatClampNeg)))) 78 (eI 150 (upd (upd (upd (M.2.1 8) ((x2 + 3) + x3).toNatClampNeg ((M.2.1 3) x3.toNatClampNeg)) ((x2 + 27) + x3).toNatClampNeg ((M.2.1 4) x3.toNatClampNeg)) ((x2 + 51) + x3).toNatClampNeg ((M.2.1 5) x3.toNatClampNeg)))), 27, [(0, .ref 73), (1, .ref 78), (2, .int x2), (3, .int (x3 + 1))], [])) rfl ?_
      refine Ev.live rfl (lv' := [(0, .ref 73), (1, .ref 78), (2, .int x2), (3, .int (x3 + 1))]) rfl ?_
      refine (llX10_lays_78_27 m (pu (pu (pu h 78 (eI 150 (upd (M.2.1 8) ((x2 + 3) + x3).toNatClampNeg ((M.2.1 3) x3.toNatClampNeg)))) 78 (eI 150 (upd (upd (M.2.1 8) ((x2 + 3) + x3).toNatClampNeg ((M.2.1 3) x3.toNatClampNeg)) ((x2 + 27) + x3).toNatClampNeg ((M.2.1 4) x3.toNatClampNeg)))) 78 (eI 150 (upd (upd (upd (M.2.1 8) ((x2 + 3) + x3).toNatClampNeg ((M.2.1 3) x3.toNatClampNeg)) ((x2 + 27) + x3).toNatClampNeg ((M.2.1 4) x3.toNatClampNeg)) ((x2 + 51) + x3).toNatClampNeg ((M.2.1 5) x3.toNatClampNeg)))) x2 (x3 + 1) (M.1, va_up M.2.1 8 (upd (upd (upd (M.2.1 8) ((x2 + 3) + x3).toNatClampNeg ((M.2.1 3) x3.toNatClampNeg)) ((x2 + 27) + x3).toNatClampNeg ((M.2.1 4) x3.toNatClampNeg)) ((x2 + 51) + x3).toNatClampNeg ((M.2.1 5) x3.toNatClampNeg)), M.2.2) _ H ⟨(pu_n (by decide) (pu_n (by decide) (pu_n (by decide) xM.1))), (pu_n (by decide) (pu_n (by decide) (pu_n (by decide) xM.2.1))), (pu_n (by decide) (pu_n (by decide) (pu_n (by decide) xM.2.2.1))), (pu_n (by decide) (pu_n (by decide) (pu_n (by decide) xM.2.2.2.1))), (pu_n (by decide) (pu_n (by decide) (pu_n (by decide) xM.2.2.2.2.1))), pu_s, (pu_n (by decide) (pu_n (by decide) (pu_n (by decide) xM.2.2.2.2.2.2.1))), (pu_n (by decide) (pu_n (by decide) (pu_n (by decide) xM.2.2.2.2.2.2.2.1))), (pu_n (by decide) (pu_n (by decide) (pu_n (by decide) xM.2.2.2.2.2.2.2.2.1))), (pu_n (by decide) (pu_n (by decide) (pu_n (by decide) xM.2.2.2.2.2.2.2.2.2.1))), (pu_n (by decide) (pu_n (by decide) (pu_n (by decide) xM.2.2.2.2.2.2.2.2.2.2.1))), (pu_n (by decide) (pu_n (by decide) (pu_n (by decide) xM.2.2.2.2.2.2.2.2.2.2.2.1))), (pu_n (by decide) (pu_n (by decide) (pu_n (by decide) xM.2.2.2.2.2.2.2.2.2.2.2.2.1))), (pu_n (by decide) (pu_n (by decide) (pu_n (by decide) xM.2.2.2.2.2.2.2.2.2.2.2.2.2.1))), (pu_n (by decide) (pu_n (by decide) (pu_n (by decide) xM.2.2.2.2.2.2.2.2.2.2.2.2.2.2.1))), (pu_n (by decide) (pu_n (by decide) (pu_n (by decide) xM.2.2.2.2.2.2.2.2.2.2.2.2.2.2.2)))⟩).mono (fun r h9 q9 => ?_)
      obtain ⟨q9r, q9_0, q9f⟩ := q9
      exact ⟨q9r, q9_0, fun k hk => (q9f k hk).trans (by rw [pu_x (show k ≠ 78 from fun e => by have := hk; simp at this; omega)]; rw [pu_x (show k ≠ 78 from fun e => by have := hk; simp at this; omega)]; rw [pu_x (show k ≠ 78 from fun e => by have := hk; simp at this; omega)])⟩
def fX10_lays_78 (n : Nat) (M : tM) (at_ : Int32) : Option (tM) := (if at_ < 0 ∨ 150 ≤ at_.toNatClampNeg then none else (if (at_ + 1) < 0 ∨ 150 ≤ (at_ + 1).toNatClampNeg then none else (if (at_ + 2) < 0 ∨ 150 ≤ (at_ + 2).toNatClampNeg then none else lX10_lays_78_27 n n at_ 0 (M.1, va_up M.2.1 8 (upd (upd (upd (M.2.1 8) at_.toNatClampNeg (M.1 0)) (at_ + 1).toNatClampNeg (M.1 1)) (at_ + 2).toNatClampNeg (M.1 2)), M.2.2))))
theorem spX10_lays_78 {d n : Nat} {h : pH} {M : tM} (xM : isM h M) (at_ : Int32) {res : tM} (H : fX10_lays_78 n M at_ = some res) : Ev d mX10_lays (h, 0, [(0, .ref 73), (1, .ref 78), (2, .int at_)], []) (fun r h1 => r = none ∧ isM h1 res ∧ fr [(73, 89)] h h1) := by
  unfold fX10_lays_78 at H
  refine Ev.go 3 (s' := (h, 3, [(0, .ref 73), (1, .ref 78), (2, .int at_)], [.ref 73, .int at_, .ref 78])) rfl ?_
  refine Ev.get rfl (by decide) xM.1 rfl ?_
  have v1 : vp_in at_ 150 := fun q => by rw [if_pos q] at H; cases H
  rw [if_neg v1] at H
  refine Ev.iast rfl (by decide) xM.2.2.2.2.2.1 v1 ?_
  refine Ev.go 5 (s' := ((pu h 78 (eI 150 (upd (M.2.1 8) at_.toNatClampNeg (M.1 0)))), 12, [(0, .ref 73), (1, .ref 78), (2, .int at_)], [.ref 73, .int (at_ + 1), .ref 78])) rfl ?_
  refine Ev.get rfl (by decide) (pu_n (by decide) xM.1) rfl ?_
  have v2 : vp_in (at_ + 1) 150 := fun q => by rw [if_pos q] at H; cases H
  rw [if_neg v2] at H
  refine Ev.iast rfl (by decide) pu_s v2 ?_
  refine Ev.go 5 (s' := ((pu (pu h 78 (eI 150 (upd (M.2.1 8) at_.toNatClampNeg (M.1 0)))) 78 (eI 150 (upd (upd (M.2.1 8) at_.toNatClampNeg (M.1 0)) (at_ + 1).toNatClampNeg (M.1 1)))), 21, [(0, .ref 73), (1, .ref 78), (2, .int at_)], [.ref 73, .int (at_ + 2), .ref 78])) rfl ?_
  refine Ev.get rfl (by decide) (pu_n (by decide) (pu_n (by decide) xM.1)) rfl ?_
  have v3 : vp_in (at_ + 2) 150 := fun q => by rw [if_pos q] at H; cases H
  rw [if_neg v3] at H
  refine Ev.iast rfl (by decide) pu_s v3 ?_
  refine Ev.go 2 (s' := ((pu (pu (pu h 78 (eI 150 (upd (M.2.1 8) at_.toNatClampNeg (M.1 0)))) 78 (eI 150 (upd (upd (M.2.1 8) at_.toNatClampNeg (M.1 0)) (at_ + 1).toNatClampNeg (M.1 1)))) 78 (eI 150 (upd (upd (upd (M.2.1 8) at_.toNatClampNeg (M.1 0)) (at_ + 1).toNatClampNeg (M.1 1)) (at_ + 2).toNatClampNeg (M.1 2)))), 27, [(0, .ref 73), (1, .ref 78), (2, .int at_), (3, .int 0)], [])) rfl ?_
  refine Ev.live rfl (lv' := [(0, .ref 73), (1, .ref 78), (2, .int at_), (3, .int 0)]) rfl ?_
  refine (llX10_lays_78_27 n (pu (pu (pu h 78 (eI 150 (upd (M.2.1 8) at_.toNatClampNeg (M.1 0)))) 78 (eI 150 (upd (upd (M.2.1 8) at_.toNatClampNeg (M.1 0)) (at_ + 1).toNatClampNeg (M.1 1)))) 78 (eI 150 (upd (upd (upd (M.2.1 8) at_.toNatClampNeg (M.1 0)) (at_ + 1).toNatClampNeg (M.1 1)) (at_ + 2).toNatClampNeg (M.1 2)))) at_ 0 (M.1, va_up M.2.1 8 (upd (upd (upd (M.2.1 8) at_.toNatClampNeg (M.1 0)) (at_ + 1).toNatClampNeg (M.1 1)) (at_ + 2).toNatClampNeg (M.1 2)), M.2.2) _ H ⟨(pu_n (by decide) (pu_n (by decide) (pu_n (by decide) xM.1))), (pu_n (by decide) (pu_n (by decide) (pu_n (by decide) xM.2.1))), (pu_n (by decide) (pu_n (by decide) (pu_n (by decide) xM.2.2.1))), (pu_n (by decide) (pu_n (by decide) (pu_n (by decide) xM.2.2.2.1))), (pu_n (by decide) (pu_n (by decide) (pu_n (by decide) xM.2.2.2.2.1))), pu_s, (pu_n (by decide) (pu_n (by decide) (pu_n (by decide) xM.2.2.2.2.2.2.1))), (pu_n (by decide) (pu_n (by decide) (pu_n (by decide) xM.2.2.2.2.2.2.2.1))), (pu_n (by decide) (pu_n (by decide) (pu_n (by decide) xM.2.2.2.2.2.2.2.2.1))), (pu_n (by decide) (pu_n (by decide) (pu_n (by decide) xM.2.2.2.2.2.2.2.2.2.1))), (pu_n (by decide) (pu_n (by decide) (pu_n (by decide) xM.2.2.2.2.2.2.2.2.2.2.1))), (pu_n (by decide) (pu_n (by decide) (pu_n (by decide) xM.2.2.2.2.2.2.2.2.2.2.2.1))), (pu_n (by decide) (pu_n (by decide) (pu_n (by decide) xM.2.2.2.2.2.2.2.2.2.2.2.2.1))), (pu_n (by decide) (pu_n (by decide) (pu_n (by decide) xM.2.2.2.2.2.2.2.2.2.2.2.2.2.1))), (pu_n (by decide) (pu_n (by decide) (pu_n (by decide) xM.2.2.2.2.2.2.2.2.2.2.2.2.2.2.1))), (pu_n (by decide) (pu_n (by decide) (pu_n (by decide) xM.2.2.2.2.2.2.2.2.2.2.2.2.2.2.2)))⟩).mono (fun r h9 q9 => ?_)
  obtain ⟨q9r, q9_0, q9f⟩ := q9
  exact ⟨q9r, q9_0, fun k hk => (q9f k hk).trans (by rw [pu_x (show k ≠ 78 from fun e => by have := hk; simp at this; omega)]; rw [pu_x (show k ≠ 78 from fun e => by have := hk; simp at this; omega)]; rw [pu_x (show k ≠ 78 from fun e => by have := hk; simp at this; omega)])⟩
def lX10_takes_78_27 (n : Nat) : Nat → Int32 → Int32 → tM → Option (tM)
  | 0, _, _, _ => none
  | m + 1, x2, x3, M => (if 24 ≤ x3 then some M else (if ((x2 + 3) + x3) < 0 ∨ 150 ≤ ((x2 + 3) + x3).toNatClampNeg then none else (if x3 < 0 ∨ 24 ≤ x3.toNatClampNeg then none else (if ((x2 + 27) + x3) < 0 ∨ 150 ≤ ((x2 + 27) + x3).toNatClampNeg then none else (if ((x2 + 51) + x3) < 0 ∨ 150 ≤ ((x2 + 51) + x3).toNatClampNeg then none else lX10_takes_78_27 n m x2 (x3 + 1) (M.1, va_up (va_up (va_up M.2.1 3 (upd (M.2.1 3) x3.toNatClampNeg ((M.2.1 8) ((x2 + 3) + x3).toNatClampNeg))) 4 (upd (M.2.1 4) x3.toNatClampNeg ((M.2.1 8) ((x2 + 27) + x3).toNatClampNeg))) 5 (upd (M.2.1 5) x3.toNatClampNeg ((M.2.1 8) ((x2 + 51) + x3).toNatClampNeg)), M.2.2))))))
theorem llX10_takes_78_27 {d n : Nat} : ∀ (m : Nat) (h : pH) (x2 : Int32) (x3 : Int32) (M : tM) (res : tM), lX10_takes_78_27 n m x2 x3 M = some res → isM h M → Ev d mX10_takes (h, 27, [(0, .ref 73), (1, .ref 78), (2, .int x2), (3, .int x3)], []) (fun r h1 => r = none ∧ isM h1 res ∧ fr [(73, 89)] h h1)
  | 0, h, x2, x3, M, res, H, _ => by cases H
  | m + 1, h, x2, x3, M, res, H, xM => by
    have H : (if 24 ≤ x3 then some M else (if ((x2 + 3) + x3) < 0 ∨ 150 ≤ ((x2 + 3) + x3).toNatClampNeg then none else (if x3 < 0 ∨ 24 ≤ x3.toNatClampNeg then none else (if ((x2 + 27) + x3) < 0 ∨ 150 ≤ ((x2 + 27) + x3).toNatClampNeg then none else (if ((x2 + 51) + x3) < 0 ∨ 150 ≤ ((x2 + 51) + x3).toNatClampNeg then none else lX10_takes_78_27 n m x2 (x3 + 1) (M.1, va_up (va_up (va_up M.2.1 3 (upd (M.2.1 3) x3.toNatClampNeg ((M.2.1 8) ((x2 + 3) + x3).toNatClampNeg))) 4 (upd (M.2.1 4) x3.toNatClampNeg ((M.2.1 8) ((x2 + 27) + x3).toNatClampNeg))) 5 (upd (M.2.1 5) x3.toNatClampNeg ((M.2.1 8) ((x2 + 51) + x3).toNatClampNeg)), M.2.2)))))) = some res := H
    refine Ev.go 2 (s' := (h, 30, [(0, .ref 73), (1, .ref 78), (2, .int x2), (3, .int x3)], [.int 24, .int x3])) rfl ?_
    refine Ev.if2 rfl (fun c4 => ?_) (fun c4 => ?_)
    · have c4 : 24 ≤ x3 := c4
      rw [if_pos c4] at H
      have H := Option.some.inj H
      subst H
      exact Ev.ret rfl rfl rfl ⟨rfl, xM, (fun k _ => rfl)⟩
    · have c4 : ¬ (24 ≤ x3) := c4
      rw [if_neg c4] at H
      refine Ev.go 1 (s' := (h, 34, [(0, .ref 73), (1, .ref 78), (2, .int x2), (3, .int x3)], [.ref 73])) rfl ?_
      refine Ev.get rfl (by decide) xM.1 rfl ?_
      refine Ev.go 7 (s' := (h, 44, [(0, .ref 73), (1, .ref 78), (2, .int x2), (3, .int x3)], [.int ((x2 + 3) + x3), .ref 78, .int x3, .ref 74])) rfl ?_
      have v5 : vp_in ((x2 + 3) + x3) 150 := fun q => by rw [if_pos q] at H; cases H
      rw [if_neg v5] at H
      refine Ev.iald rfl (by decide) xM.2.2.2.2.2.1 v5 ?_
      have v6 : vp_in x3 24 := fun q => by rw [if_pos q] at H; cases H
      rw [if_neg v6] at H
      refine Ev.iast rfl (by decide) xM.2.1 v6 ?_
      refine Ev.go 1 (s' := ((pu h 74 (eI 24 (upd (M.2.1 3) x3.toNatClampNeg ((M.2.1 8) ((x2 + 3) + x3).toNatClampNeg)))), 47, [(0, .ref 73), (1, .ref 78), (2, .int x2), (3, .int x3)], [.ref 73])) rfl ?_
      refine Ev.get rfl (by decide) (pu_n (by decide) xM.1) rfl ?_
      refine Ev.go 7 (s' := ((pu h 74 (eI 24 (upd (M.2.1 3) x3.toNatClampNeg ((M.2.1 8) ((x2 + 3) + x3).toNatClampNeg)))), 58, [(0, .ref 73), (1, .ref 78), (2, .int x2), (3, .int x3)], [.int ((x2 + 27) + x3), .ref 78, .int x3, .ref 75])) rfl ?_
      have v7 : vp_in ((x2 + 27) + x3) 150 := fun q => by rw [if_pos q] at H; cases H
      rw [if_neg v7] at H
      refine Ev.iald rfl (by decide) (pu_n (by decide) xM.2.2.2.2.2.1) v7 ?_
      refine Ev.iast rfl (by decide) (pu_n (by decide) xM.2.2.1) v6 ?_
      refine Ev.go 1 (s' := ((pu (pu h 74 (eI 24 (upd (M.2.1 3) x3.toNatClampNeg ((M.2.1 8) ((x2 + 3) + x3).toNatClampNeg)))) 75 (eI 24 (upd (M.2.1 4) x3.toNatClampNeg ((M.2.1 8) ((x2 + 27) + x3).toNatClampNeg)))), 61, [(0, .ref 73), (1, .ref 78), (2, .int x2), (3, .int x3)], [.ref 73])) rfl ?_
      refine Ev.get rfl (by decide) (pu_n (by decide) (pu_n (by decide) xM.1)) rfl ?_
      refine Ev.go 7 (s' := ((pu (pu h 74 (eI 24 (upd (M.2.1 3) x3.toNatClampNeg ((M.2.1 8) ((x2 + 3) + x3).toNatClampNeg)))) 75 (eI 24 (upd (M.2.1 4) x3.toNatClampNeg ((M.2.1 8) ((x2 + 27) + x3).toNatClampNeg)))), 72, [(0, .ref 73), (1, .ref 78), (2, .int x2), (3, .int x3)], [.int ((x2 + 51) + x3), .ref 78, .int x3, .ref 76])) rfl ?_
      have v8 : vp_in ((x2 + 51) + x3) 150 := fun q => by rw [if_pos q] at H; cases H
      rw [if_neg v8] at H
      refine Ev.iald rfl (by decide) (pu_n (by decide) (pu_n (by decide) xM.2.2.2.2.2.1)) v8 ?_
      refine Ev.iast rfl (by decide) (pu_n (by decide) (pu_n (by decide) xM.2.2.2.1)) v6 ?_
      refine Ev.go 2 (s' := ((pu (pu (pu h 74 (eI 24 (upd (M.2.1 3) x3.toNatClampNeg ((M.2.1 8) ((x2 + 3) + x3).toNatClampNeg)))) 75 (eI 24 (upd (M.2.1 4) x3.toNatClampNeg ((M.2.1 8) ((x2 + 27) + x3).toNatClampNeg)))) 76 (eI 24 (upd (M.2.1 5) x3.toNatClampNeg ((M.2.1 8) ((x2 + 51) + x3).toNatClampNeg)))), 27, [(0, .ref 73), (1, .ref 78), (2, .int x2), (3, .int (x3 + 1))], [])) rfl ?_
      refine Ev.live rfl (lv' := [(0, .ref 73), (1, .ref 78), (2, .int x2), (3, .int (x3 + 1))]) rfl ?_
      refine (llX10_takes_78_27 m (pu (pu (pu h 74 (eI 24 (upd (M.2.1 3) x3.toNatClampNeg ((M.2.1 8) ((x2 + 3) + x3).toNatClampNeg)))) 75 (eI 24 (upd (M.2.1 4) x3.toNatClampNeg ((M.2.1 8) ((x2 + 27) + x3).toNatClampNeg)))) 76 (eI 24 (upd (M.2.1 5) x3.toNatClampNeg ((M.2.1 8) ((x2 + 51) + x3).toNatClampNeg)))) x2 (x3 + 1) (M.1, va_up (va_up (va_up M.2.1 3 (upd (M.2.1 3) x3.toNatClampNeg ((M.2.1 8) ((x2 + 3) + x3).toNatClampNeg))) 4 (upd (M.2.1 4) x3.toNatClampNeg ((M.2.1 8) ((x2 + 27) + x3).toNatClampNeg))) 5 (upd (M.2.1 5) x3.toNatClampNeg ((M.2.1 8) ((x2 + 51) + x3).toNatClampNeg)), M.2.2) _ H ⟨(pu_n (by decide) (pu_n (by decide) (pu_n (by decide) xM.1))), (pu_n (by decide) (pu_n (by decide) pu_s)), (pu_n (by decide) pu_s), pu_s, (pu_n (by decide) (pu_n (by decide) (pu_n (by decide) xM.2.2.2.2.1))), (pu_n (by decide) (pu_n (by decide) (pu_n (by decide) xM.2.2.2.2.2.1))), (pu_n (by decide) (pu_n (by decide) (pu_n (by decide) xM.2.2.2.2.2.2.1))), (pu_n (by decide) (pu_n (by decide) (pu_n (by decide) xM.2.2.2.2.2.2.2.1))), (pu_n (by decide) (pu_n (by decide) (pu_n (by decide) xM.2.2.2.2.2.2.2.2.1))), (pu_n (by decide) (pu_n (by decide) (pu_n (by decide) xM.2.2.2.2.2.2.2.2.2.1))), (pu_n (by decide) (pu_n (by decide) (pu_n (by decide) xM.2.2.2.2.2.2.2.2.2.2.1))), (pu_n (by decide) (pu_n (by decide) (pu_n (by decide) xM.2.2.2.2.2.2.2.2.2.2.2.1))), (pu_n (by decide) (pu_n (by decide) (pu_n (by decide) xM.2.2.2.2.2.2.2.2.2.2.2.2.1))), (pu_n (by decide) (pu_n (by decide) (pu_n (by decide) xM.2.2.2.2.2.2.2.2.2.2.2.2.2.1))), (pu_n (by decide) (pu_n (by decide) (pu_n (by decide) xM.2.2.2.2.2.2.2.2.2.2.2.2.2.2.1))), (pu_n (by decide) (pu_n (by decide) (pu_n (by decide) xM.2.2.2.2.2.2.2.2.2.2.2.2.2.2.2)))⟩).mono (fun r h9 q9 => ?_)
      obtain ⟨q9r, q9_0, q9f⟩ := q9
      exact ⟨q9r, q9_0, fun k hk => (q9f k hk).trans (by rw [pu_x (show k ≠ 76 from fun e => by have := hk; simp at this; omega)]; rw [pu_x (show k ≠ 75 from fun e => by have := hk; simp at this; omega)]; rw [pu_x (show k ≠ 74 from fun e => by have := hk; simp at this; omega)])⟩
def fX10_takes_78 (n : Nat) (M : tM) (at_ : Int32) : Option (tM) := (if at_ < 0 ∨ 150 ≤ at_.toNatClampNeg then none else (if (at_ + 1) < 0 ∨ 150 ≤ (at_ + 1).toNatClampNeg then none else (if (at_ + 2) < 0 ∨ 150 ≤ (at_ + 2).toNatClampNeg then none else lX10_takes_78_27 n n at_ 0 (va_up (va_up (va_up M.1 0 ((M.2.1 8) at_.toNatClampNeg)) 1 ((M.2.1 8) (at_ + 1).toNatClampNeg)) 2 ((M.2.1 8) (at_ + 2).toNatClampNeg), M.2.1, M.2.2))))
theorem spX10_takes_78 {d n : Nat} {h : pH} {M : tM} (xM : isM h M) (at_ : Int32) {res : tM} (H : fX10_takes_78 n M at_ = some res) : Ev d mX10_takes (h, 0, [(0, .ref 73), (1, .ref 78), (2, .int at_)], []) (fun r h1 => r = none ∧ isM h1 res ∧ fr [(73, 89)] h h1) := by
  unfold fX10_takes_78 at H
  refine Ev.go 3 (s' := (h, 3, [(0, .ref 73), (1, .ref 78), (2, .int at_)], [.int at_, .ref 78, .ref 73])) rfl ?_
  have v1 : vp_in at_ 150 := fun q => by rw [if_pos q] at H; cases H
  rw [if_neg v1] at H
  refine Ev.iald rfl (by decide) xM.2.2.2.2.2.1 v1 ?_
  refine Ev.put rfl rfl (by decide) xM.1 (Nat.le_of_ble_eq_true rfl) rfl rfl (fs' := [.int ((M.2.1 8) at_.toNatClampNeg), .int (M.1 1), .int (M.1 2), .ref 74, .ref 75, .ref 76, .ref 77, .int (M.1 7), .ref 78, .int (M.1 9), .ref 79, .int (M.1 11), .int (M.1 12), .int (M.1 13), .ref 80, .int (M.1 15), .int (M.1 16), .ref 81, .ref 82, .ref 83, .int (M.1 20), .int (M.1 21), .ref 84, .ref 85, .ref 86, .ref 87, .ref 88]) rfl ?_
  refine Ev.go 5 (s' := ((pu h 73 (eO 9 [.int ((M.2.1 8) at_.toNatClampNeg), .int (M.1 1), .int (M.1 2), .ref 74, .ref 75, .ref 76, .ref 77, .int (M.1 7), .ref 78, .int (M.1 9), .ref 79, .int (M.1 11), .int (M.1 12), .int (M.1 13), .ref 80, .int (M.1 15), .int (M.1 16), .ref 81, .ref 82, .ref 83, .int (M.1 20), .int (M.1 21), .ref 84, .ref 85, .ref 86, .ref 87, .ref 88])), 12, [(0, .ref 73), (1, .ref 78), (2, .int at_)], [.int (at_ + 1), .ref 78, .ref 73])) rfl ?_
  have v2 : vp_in (at_ + 1) 150 := fun q => by rw [if_pos q] at H; cases H
  rw [if_neg v2] at H
  refine Ev.iald rfl (by decide) (pu_n (by decide) xM.2.2.2.2.2.1) v2 ?_
  refine Ev.put rfl rfl (by decide) pu_s (Nat.le_of_ble_eq_true rfl) rfl rfl (fs' := [.int ((M.2.1 8) at_.toNatClampNeg), .int ((M.2.1 8) (at_ + 1).toNatClampNeg), .int (M.1 2), .ref 74, .ref 75, .ref 76, .ref 77, .int (M.1 7), .ref 78, .int (M.1 9), .ref 79, .int (M.1 11), .int (M.1 12), .int (M.1 13), .ref 80, .int (M.1 15), .int (M.1 16), .ref 81, .ref 82, .ref 83, .int (M.1 20), .int (M.1 21), .ref 84, .ref 85, .ref 86, .ref 87, .ref 88]) rfl ?_
  refine Ev.go 5 (s' := ((pu (pu h 73 (eO 9 [.int ((M.2.1 8) at_.toNatClampNeg), .int (M.1 1), .int (M.1 2), .ref 74, .ref 75, .ref 76, .ref 77, .int (M.1 7), .ref 78, .int (M.1 9), .ref 79, .int (M.1 11), .int (M.1 12), .int (M.1 13), .ref 80, .int (M.1 15), .int (M.1 16), .ref 81, .ref 82, .ref 83, .int (M.1 20), .int (M.1 21), .ref 84, .ref 85, .ref 86, .ref 87, .ref 88])) 73 (eO 9 [.int ((M.2.1 8) at_.toNatClampNeg), .int ((M.2.1 8) (at_ + 1).toNatClampNeg), .int (M.1 2), .ref 74, .ref 75, .ref 76, .ref 77, .int (M.1 7), .ref 78, .int (M.1 9), .ref 79, .int (M.1 11), .int (M.1 12), .int (M.1 13), .ref 80, .int (M.1 15), .int (M.1 16), .ref 81, .ref 82, .ref 83, .int (M.1 20), .int (M.1 21), .ref 84, .ref 85, .ref 86, .ref 87, .ref 88])), 21, [(0, .ref 73), (1, .ref 78), (2, .int at_)], [.int (at_ + 2), .ref 78, .ref 73])) rfl ?_
  have v3 : vp_in (at_ + 2) 150 := fun q => by rw [if_pos q] at H; cases H
  rw [if_neg v3] at H
  refine Ev.iald rfl (by decide) (pu_n (by decide) (pu_n (by decide) xM.2.2.2.2.2.1)) v3 ?_
  refine Ev.put rfl rfl (by decide) pu_s (Nat.le_of_ble_eq_true rfl) rfl rfl (fs' := [.int ((M.2.1 8) at_.toNatClampNeg), .int ((M.2.1 8) (at_ + 1).toNatClampNeg), .int ((M.2.1 8) (at_ + 2).toNatClampNeg), .ref 74, .ref 75, .ref 76, .ref 77, .int (M.1 7), .ref 78, .int (M.1 9), .ref 79, .int (M.1 11), .int (M.1 12), .int (M.1 13), .ref 80, .int (M.1 15), .int (M.1 16), .ref 81, .ref 82, .ref 83, .int (M.1 20), .int (M.1 21), .ref 84, .ref 85, .ref 86, .ref 87, .ref 88]) rfl ?_
  refine Ev.go 2 (s' := ((pu (pu (pu h 73 (eO 9 [.int ((M.2.1 8) at_.toNatClampNeg), .int (M.1 1), .int (M.1 2), .ref 74, .ref 75, .ref 76, .ref 77, .int (M.1 7), .ref 78, .int (M.1 9), .ref 79, .int (M.1 11), .int (M.1 12), .int (M.1 13), .ref 80, .int (M.1 15), .int (M.1 16), .ref 81, .ref 82, .ref 83, .int (M.1 20), .int (M.1 21), .ref 84, .ref 85, .ref 86, .ref 87, .ref 88])) 73 (eO 9 [.int ((M.2.1 8) at_.toNatClampNeg), .int ((M.2.1 8) (at_ + 1).toNatClampNeg), .int (M.1 2), .ref 74, .ref 75, .ref 76, .ref 77, .int (M.1 7), .ref 78, .int (M.1 9), .ref 79, .int (M.1 11), .int (M.1 12), .int (M.1 13), .ref 80, .int (M.1 15), .int (M.1 16), .ref 81, .ref 82, .ref 83, .int (M.1 20), .int (M.1 21), .ref 84, .ref 85, .ref 86, .ref 87, .ref 88])) 73 (eO 9 [.int ((M.2.1 8) at_.toNatClampNeg), .int ((M.2.1 8) (at_ + 1).toNatClampNeg), .int ((M.2.1 8) (at_ + 2).toNatClampNeg), .ref 74, .ref 75, .ref 76, .ref 77, .int (M.1 7), .ref 78, .int (M.1 9), .ref 79, .int (M.1 11), .int (M.1 12), .int (M.1 13), .ref 80, .int (M.1 15), .int (M.1 16), .ref 81, .ref 82, .ref 83, .int (M.1 20), .int (M.1 21), .ref 84, .ref 85, .ref 86, .ref 87, .ref 88])), 27, [(0, .ref 73), (1, .ref 78), (2, .int at_), (3, .int 0)], [])) rfl ?_
  refine Ev.live rfl (lv' := [(0, .ref 73), (1, .ref 78), (2, .int at_), (3, .int 0)]) rfl ?_
  refine (llX10_takes_78_27 n (pu (pu (pu h 73 (eO 9 [.int ((M.2.1 8) at_.toNatClampNeg), .int (M.1 1), .int (M.1 2), .ref 74, .ref 75, .ref 76, .ref 77, .int (M.1 7), .ref 78, .int (M.1 9), .ref 79, .int (M.1 11), .int (M.1 12), .int (M.1 13), .ref 80, .int (M.1 15), .int (M.1 16), .ref 81, .ref 82, .ref 83, .int (M.1 20), .int (M.1 21), .ref 84, .ref 85, .ref 86, .ref 87, .ref 88])) 73 (eO 9 [.int ((M.2.1 8) at_.toNatClampNeg), .int ((M.2.1 8) (at_ + 1).toNatClampNeg), .int (M.1 2), .ref 74, .ref 75, .ref 76, .ref 77, .int (M.1 7), .ref 78, .int (M.1 9), .ref 79, .int (M.1 11), .int (M.1 12), .int (M.1 13), .ref 80, .int (M.1 15), .int (M.1 16), .ref 81, .ref 82, .ref 83, .int (M.1 20), .int (M.1 21), .ref 84, .ref 85, .ref 86, .ref 87, .ref 88])) 73 (eO 9 [.int ((M.2.1 8) at_.toNatClampNeg), .int ((M.2.1 8) (at_ + 1).toNatClampNeg), .int ((M.2.1 8) (at_ + 2).toNatClampNeg), .ref 74, .ref 75, .ref 76, .ref 77, .int (M.1 7), .ref 78, .int (M.1 9), .ref 79, .int (M.1 11), .int (M.1 12), .int (M.1 13), .ref 80, .int (M.1 15), .int (M.1 16), .ref 81, .ref 82, .ref 83, .int (M.1 20), .int (M.1 21), .ref 84, .ref 85, .ref 86, .ref 87, .ref 88])) at_ 0 (va_up (va_up (va_up M.1 0 ((M.2.1 8) at_.toNatClampNeg)) 1 ((M.2.1 8) (at_ + 1).toNatClampNeg)) 2 ((M.2.1 8) (at_ + 2).toNatClampNeg), M.2.1, M.2.2) _ H ⟨pu_s, (pu_n (by decide) (pu_n (by decide) (pu_n (by decide) xM.2.1))), (pu_n (by decide) (pu_n (by decide) (pu_n (by decide) xM.2.2.1))), (pu_n (by decide) (pu_n (by decide) (pu_n (by decide) xM.2.2.2.1))), (pu_n (by decide) (pu_n (by decide) (pu_n (by decide) xM.2.2.2.2.1))), (pu_n (by decide) (pu_n (by decide) (pu_n (by decide) xM.2.2.2.2.2.1))), (pu_n (by decide) (pu_n (by decide) (pu_n (by decide) xM.2.2.2.2.2.2.1))), (pu_n (by decide) (pu_n (by decide) (pu_n (by decide) xM.2.2.2.2.2.2.2.1))), (pu_n (by decide) (pu_n (by decide) (pu_n (by decide) xM.2.2.2.2.2.2.2.2.1))), (pu_n (by decide) (pu_n (by decide) (pu_n (by decide) xM.2.2.2.2.2.2.2.2.2.1))), (pu_n (by decide) (pu_n (by decide) (pu_n (by decide) xM.2.2.2.2.2.2.2.2.2.2.1))), (pu_n (by decide) (pu_n (by decide) (pu_n (by decide) xM.2.2.2.2.2.2.2.2.2.2.2.1))), (pu_n (by decide) (pu_n (by decide) (pu_n (by decide) xM.2.2.2.2.2.2.2.2.2.2.2.2.1))), (pu_n (by decide) (pu_n (by decide) (pu_n (by decide) xM.2.2.2.2.2.2.2.2.2.2.2.2.2.1))), (pu_n (by decide) (pu_n (by decide) (pu_n (by decide) xM.2.2.2.2.2.2.2.2.2.2.2.2.2.2.1))), (pu_n (by decide) (pu_n (by decide) (pu_n (by decide) xM.2.2.2.2.2.2.2.2.2.2.2.2.2.2.2)))⟩).mono (fun r h9 q9 => ?_)
  obtain ⟨q9r, q9_0, q9f⟩ := q9
  exact ⟨q9r, q9_0, fun k hk => (q9f k hk).trans (by rw [pu_x (show k ≠ 73 from fun e => by have := hk; simp at this; omega)]; rw [pu_x (show k ≠ 73 from fun e => by have := hk; simp at this; omega)]; rw [pu_x (show k ≠ 73 from fun e => by have := hk; simp at this; omega)])⟩
def lX10_lays_80_27 (n : Nat) : Nat → Int32 → Int32 → tM → Option (tM)
  | 0, _, _, _ => none
  | m + 1, x2, x3, M => (if 24 ≤ x3 then some M else (if x3 < 0 ∨ 24 ≤ x3.toNatClampNeg then none else (if ((x2 + 3) + x3) < 0 ∨ 75 ≤ ((x2 + 3) + x3).toNatClampNeg then none else (if ((x2 + 27) + x3) < 0 ∨ 75 ≤ ((x2 + 27) + x3).toNatClampNeg then none else (if ((x2 + 51) + x3) < 0 ∨ 75 ≤ ((x2 + 51) + x3).toNatClampNeg then none else lX10_lays_80_27 n m x2 (x3 + 1) (M.1, va_up M.2.1 14 (upd (upd (upd (M.2.1 14) ((x2 + 3) + x3).toNatClampNeg ((M.2.1 3) x3.toNatClampNeg)) ((x2 + 27) + x3).toNatClampNeg ((M.2.1 4) x3.toNatClampNeg)) ((x2 + 51) + x3).toNatClampNeg ((M.2.1 5) x3.toNatClampNeg)), M.2.2))))))
theorem llX10_lays_80_27 {d n : Nat} : ∀ (m : Nat) (h : pH) (x2 : Int32) (x3 : Int32) (M : tM) (res : tM), lX10_lays_80_27 n m x2 x3 M = some res → isM h M → Ev d mX10_lays (h, 27, [(0, .ref 73), (1, .ref 80), (2, .int x2), (3, .int x3)], []) (fun r h1 => r = none ∧ isM h1 res ∧ fr [(73, 89)] h h1)
  | 0, h, x2, x3, M, res, H, _ => by cases H
  | m + 1, h, x2, x3, M, res, H, xM => by
    have H : (if 24 ≤ x3 then some M else (if x3 < 0 ∨ 24 ≤ x3.toNatClampNeg then none else (if ((x2 + 3) + x3) < 0 ∨ 75 ≤ ((x2 + 3) + x3).toNatClampNeg then none else (if ((x2 + 27) + x3) < 0 ∨ 75 ≤ ((x2 + 27) + x3).toNatClampNeg then none else (if ((x2 + 51) + x3) < 0 ∨ 75 ≤ ((x2 + 51) + x3).toNatClampNeg then none else lX10_lays_80_27 n m x2 (x3 + 1) (M.1, va_up M.2.1 14 (upd (upd (upd (M.2.1 14) ((x2 + 3) + x3).toNatClampNeg ((M.2.1 3) x3.toNatClampNeg)) ((x2 + 27) + x3).toNatClampNeg ((M.2.1 4) x3.toNatClampNeg)) ((x2 + 51) + x3).toNatClampNeg ((M.2.1 5) x3.toNatClampNeg)), M.2.2)))))) = some res := H
    refine Ev.go 2 (s' := (h, 30, [(0, .ref 73), (1, .ref 80), (2, .int x2), (3, .int x3)], [.int 24, .int x3])) rfl ?_
    refine Ev.if2 rfl (fun c4 => ?_) (fun c4 => ?_)
    · have c4 : 24 ≤ x3 := c4
      rw [if_pos c4] at H
      have H := Option.some.inj H
      subst H
      exact Ev.ret rfl rfl rfl ⟨rfl, xM, (fun k _ => rfl)⟩
    · have c4 : ¬ (24 ≤ x3) := c4
      rw [if_neg c4] at H
      refine Ev.go 7 (s' := (h, 40, [(0, .ref 73), (1, .ref 80), (2, .int x2), (3, .int x3)], [.ref 73, .int ((x2 + 3) + x3), .ref 80])) rfl ?_
      refine Ev.get rfl (by decide) xM.1 rfl ?_
      refine Ev.go 1 (s' := (h, 44, [(0, .ref 73), (1, .ref 80), (2, .int x2), (3, .int x3)], [.int x3, .ref 74, .int ((x2 + 3) + x3), .ref 80])) rfl ?_
      have v5 : vp_in x3 24 := fun q => by rw [if_pos q] at H; cases H
      rw [if_neg v5] at H
      refine Ev.iald rfl (by decide) xM.2.1 v5 ?_
      have v6 : vp_in ((x2 + 3) + x3) 75 := fun q => by rw [if_pos q] at H; cases H
      rw [if_neg v6] at H
      refine Ev.iast rfl (by decide) xM.2.2.2.2.2.2.2.1 v6 ?_
      refine Ev.go 7 (s' := ((pu h 80 (eI 75 (upd (M.2.1 14) ((x2 + 3) + x3).toNatClampNeg ((M.2.1 3) x3.toNatClampNeg)))), 54, [(0, .ref 73), (1, .ref 80), (2, .int x2), (3, .int x3)], [.ref 73, .int ((x2 + 27) + x3), .ref 80])) rfl ?_
      refine Ev.get rfl (by decide) (pu_n (by decide) xM.1) rfl ?_
      refine Ev.go 1 (s' := ((pu h 80 (eI 75 (upd (M.2.1 14) ((x2 + 3) + x3).toNatClampNeg ((M.2.1 3) x3.toNatClampNeg)))), 58, [(0, .ref 73), (1, .ref 80), (2, .int x2), (3, .int x3)], [.int x3, .ref 75, .int ((x2 + 27) + x3), .ref 80])) rfl ?_
      refine Ev.iald rfl (by decide) (pu_n (by decide) xM.2.2.1) v5 ?_
      have v7 : vp_in ((x2 + 27) + x3) 75 := fun q => by rw [if_pos q] at H; cases H
      rw [if_neg v7] at H
      refine Ev.iast rfl (by decide) pu_s v7 ?_
      refine Ev.go 7 (s' := ((pu (pu h 80 (eI 75 (upd (M.2.1 14) ((x2 + 3) + x3).toNatClampNeg ((M.2.1 3) x3.toNatClampNeg)))) 80 (eI 75 (upd (upd (M.2.1 14) ((x2 + 3) + x3).toNatClampNeg ((M.2.1 3) x3.toNatClampNeg)) ((x2 + 27) + x3).toNatClampNeg ((M.2.1 4) x3.toNatClampNeg)))), 68, [(0, .ref 73), (1, .ref 80), (2, .int x2), (3, .int x3)], [.ref 73, .int ((x2 + 51) + x3), .ref 80])) rfl ?_
      refine Ev.get rfl (by decide) (pu_n (by decide) (pu_n (by decide) xM.1)) rfl ?_
      refine Ev.go 1 (s' := ((pu (pu h 80 (eI 75 (upd (M.2.1 14) ((x2 + 3) + x3).toNatClampNeg ((M.2.1 3) x3.toNatClampNeg)))) 80 (eI 75 (upd (upd (M.2.1 14) ((x2 + 3) + x3).toNatClampNeg ((M.2.1 3) x3.toNatClampNeg)) ((x2 + 27) + x3).toNatClampNeg ((M.2.1 4) x3.toNatClampNeg)))), 72, [(0, .ref 73), (1, .ref 80), (2, .int x2), (3, .int x3)], [.int x3, .ref 76, .int ((x2 + 51) + x3), .ref 80])) rfl ?_
      refine Ev.iald rfl (by decide) (pu_n (by decide) (pu_n (by decide) xM.2.2.2.1)) v5 ?_
      have v8 : vp_in ((x2 + 51) + x3) 75 := fun q => by rw [if_pos q] at H; cases H
      rw [if_neg v8] at H
      refine Ev.iast rfl (by decide) pu_s v8 ?_
      refine Ev.go 2 (s' := ((pu (pu (pu h 80 (eI 75 (upd (M.2.1 14) ((x2 + 3) + x3).toNatClampNeg ((M.2.1 3) x3.toNatClampNeg)))) 80 (eI 75 (upd (upd (M.2.1 14) ((x2 + 3) + x3).toNatClampNeg ((M.2.1 3) x3.toNatClampNeg)) ((x2 + 27) + x3).toNatClampNeg ((M.2.1 4) x3.toNatClampNeg)))) 80 (eI 75 (upd (upd (upd (M.2.1 14) ((x2 + 3) + x3).toNatClampNeg ((M.2.1 3) x3.toNatClampNeg)) ((x2 + 27) + x3).toNatClampNeg ((M.2.1 4) x3.toNatClampNeg)) ((x2 + 51) + x3).toNatClampNeg ((M.2.1 5) x3.toNatClampNeg)))), 27, [(0, .ref 73), (1, .ref 80), (2, .int x2), (3, .int (x3 + 1))], [])) rfl ?_
      refine Ev.live rfl (lv' := [(0, .ref 73), (1, .ref 80), (2, .int x2), (3, .int (x3 + 1))]) rfl ?_
      refine (llX10_lays_80_27 m (pu (pu (pu h 80 (eI 75 (upd (M.2.1 14) ((x2 + 3) + x3).toNatClampNeg ((M.2.1 3) x3.toNatClampNeg)))) 80 (eI 75 (upd (upd (M.2.1 14) ((x2 + 3) + x3).toNatClampNeg ((M.2.1 3) x3.toNatClampNeg)) ((x2 + 27) + x3).toNatClampNeg ((M.2.1 4) x3.toNatClampNeg)))) 80 (eI 75 (upd (upd (upd (M.2.1 14) ((x2 + 3) + x3).toNatClampNeg ((M.2.1 3) x3.toNatClampNeg)) ((x2 + 27) + x3).toNatClampNeg ((M.2.1 4) x3.toNatClampNeg)) ((x2 + 51) + x3).toNatClampNeg ((M.2.1 5) x3.toNatClampNeg)))) x2 (x3 + 1) (M.1, va_up M.2.1 14 (upd (upd (upd (M.2.1 14) ((x2 + 3) + x3).toNatClampNeg ((M.2.1 3) x3.toNatClampNeg)) ((x2 + 27) + x3).toNatClampNeg ((M.2.1 4) x3.toNatClampNeg)) ((x2 + 51) + x3).toNatClampNeg ((M.2.1 5) x3.toNatClampNeg)), M.2.2) _ H ⟨(pu_n (by decide) (pu_n (by decide) (pu_n (by decide) xM.1))), (pu_n (by decide) (pu_n (by decide) (pu_n (by decide) xM.2.1))), (pu_n (by decide) (pu_n (by decide) (pu_n (by decide) xM.2.2.1))), (pu_n (by decide) (pu_n (by decide) (pu_n (by decide) xM.2.2.2.1))), (pu_n (by decide) (pu_n (by decide) (pu_n (by decide) xM.2.2.2.2.1))), (pu_n (by decide) (pu_n (by decide) (pu_n (by decide) xM.2.2.2.2.2.1))), (pu_n (by decide) (pu_n (by decide) (pu_n (by decide) xM.2.2.2.2.2.2.1))), pu_s, (pu_n (by decide) (pu_n (by decide) (pu_n (by decide) xM.2.2.2.2.2.2.2.2.1))), (pu_n (by decide) (pu_n (by decide) (pu_n (by decide) xM.2.2.2.2.2.2.2.2.2.1))), (pu_n (by decide) (pu_n (by decide) (pu_n (by decide) xM.2.2.2.2.2.2.2.2.2.2.1))), (pu_n (by decide) (pu_n (by decide) (pu_n (by decide) xM.2.2.2.2.2.2.2.2.2.2.2.1))), (pu_n (by decide) (pu_n (by decide) (pu_n (by decide) xM.2.2.2.2.2.2.2.2.2.2.2.2.1))), (pu_n (by decide) (pu_n (by decide) (pu_n (by decide) xM.2.2.2.2.2.2.2.2.2.2.2.2.2.1))), (pu_n (by decide) (pu_n (by decide) (pu_n (by decide) xM.2.2.2.2.2.2.2.2.2.2.2.2.2.2.1))), (pu_n (by decide) (pu_n (by decide) (pu_n (by decide) xM.2.2.2.2.2.2.2.2.2.2.2.2.2.2.2)))⟩).mono (fun r h9 q9 => ?_)
      obtain ⟨q9r, q9_0, q9f⟩ := q9
      exact ⟨q9r, q9_0, fun k hk => (q9f k hk).trans (by rw [pu_x (show k ≠ 80 from fun e => by have := hk; simp at this; omega)]; rw [pu_x (show k ≠ 80 from fun e => by have := hk; simp at this; omega)]; rw [pu_x (show k ≠ 80 from fun e => by have := hk; simp at this; omega)])⟩
def fX10_lays_80 (n : Nat) (M : tM) (at_ : Int32) : Option (tM) := (if at_ < 0 ∨ 75 ≤ at_.toNatClampNeg then none else (if (at_ + 1) < 0 ∨ 75 ≤ (at_ + 1).toNatClampNeg then none else (if (at_ + 2) < 0 ∨ 75 ≤ (at_ + 2).toNatClampNeg then none else lX10_lays_80_27 n n at_ 0 (M.1, va_up M.2.1 14 (upd (upd (upd (M.2.1 14) at_.toNatClampNeg (M.1 0)) (at_ + 1).toNatClampNeg (M.1 1)) (at_ + 2).toNatClampNeg (M.1 2)), M.2.2))))
theorem spX10_lays_80 {d n : Nat} {h : pH} {M : tM} (xM : isM h M) (at_ : Int32) {res : tM} (H : fX10_lays_80 n M at_ = some res) : Ev d mX10_lays (h, 0, [(0, .ref 73), (1, .ref 80), (2, .int at_)], []) (fun r h1 => r = none ∧ isM h1 res ∧ fr [(73, 89)] h h1) := by
  unfold fX10_lays_80 at H
  refine Ev.go 3 (s' := (h, 3, [(0, .ref 73), (1, .ref 80), (2, .int at_)], [.ref 73, .int at_, .ref 80])) rfl ?_
  refine Ev.get rfl (by decide) xM.1 rfl ?_
  have v1 : vp_in at_ 75 := fun q => by rw [if_pos q] at H; cases H
  rw [if_neg v1] at H
  refine Ev.iast rfl (by decide) xM.2.2.2.2.2.2.2.1 v1 ?_
  refine Ev.go 5 (s' := ((pu h 80 (eI 75 (upd (M.2.1 14) at_.toNatClampNeg (M.1 0)))), 12, [(0, .ref 73), (1, .ref 80), (2, .int at_)], [.ref 73, .int (at_ + 1), .ref 80])) rfl ?_
  refine Ev.get rfl (by decide) (pu_n (by decide) xM.1) rfl ?_
  have v2 : vp_in (at_ + 1) 75 := fun q => by rw [if_pos q] at H; cases H
  rw [if_neg v2] at H
  refine Ev.iast rfl (by decide) pu_s v2 ?_
  refine Ev.go 5 (s' := ((pu (pu h 80 (eI 75 (upd (M.2.1 14) at_.toNatClampNeg (M.1 0)))) 80 (eI 75 (upd (upd (M.2.1 14) at_.toNatClampNeg (M.1 0)) (at_ + 1).toNatClampNeg (M.1 1)))), 21, [(0, .ref 73), (1, .ref 80), (2, .int at_)], [.ref 73, .int (at_ + 2), .ref 80])) rfl ?_
  refine Ev.get rfl (by decide) (pu_n (by decide) (pu_n (by decide) xM.1)) rfl ?_
  have v3 : vp_in (at_ + 2) 75 := fun q => by rw [if_pos q] at H; cases H
  rw [if_neg v3] at H
  refine Ev.iast rfl (by decide) pu_s v3 ?_
  refine Ev.go 2 (s' := ((pu (pu (pu h 80 (eI 75 (upd (M.2.1 14) at_.toNatClampNeg (M.1 0)))) 80 (eI 75 (upd (upd (M.2.1 14) at_.toNatClampNeg (M.1 0)) (at_ + 1).toNatClampNeg (M.1 1)))) 80 (eI 75 (upd (upd (upd (M.2.1 14) at_.toNatClampNeg (M.1 0)) (at_ + 1).toNatClampNeg (M.1 1)) (at_ + 2).toNatClampNeg (M.1 2)))), 27, [(0, .ref 73), (1, .ref 80), (2, .int at_), (3, .int 0)], [])) rfl ?_
  refine Ev.live rfl (lv' := [(0, .ref 73), (1, .ref 80), (2, .int at_), (3, .int 0)]) rfl ?_
  refine (llX10_lays_80_27 n (pu (pu (pu h 80 (eI 75 (upd (M.2.1 14) at_.toNatClampNeg (M.1 0)))) 80 (eI 75 (upd (upd (M.2.1 14) at_.toNatClampNeg (M.1 0)) (at_ + 1).toNatClampNeg (M.1 1)))) 80 (eI 75 (upd (upd (upd (M.2.1 14) at_.toNatClampNeg (M.1 0)) (at_ + 1).toNatClampNeg (M.1 1)) (at_ + 2).toNatClampNeg (M.1 2)))) at_ 0 (M.1, va_up M.2.1 14 (upd (upd (upd (M.2.1 14) at_.toNatClampNeg (M.1 0)) (at_ + 1).toNatClampNeg (M.1 1)) (at_ + 2).toNatClampNeg (M.1 2)), M.2.2) _ H ⟨(pu_n (by decide) (pu_n (by decide) (pu_n (by decide) xM.1))), (pu_n (by decide) (pu_n (by decide) (pu_n (by decide) xM.2.1))), (pu_n (by decide) (pu_n (by decide) (pu_n (by decide) xM.2.2.1))), (pu_n (by decide) (pu_n (by decide) (pu_n (by decide) xM.2.2.2.1))), (pu_n (by decide) (pu_n (by decide) (pu_n (by decide) xM.2.2.2.2.1))), (pu_n (by decide) (pu_n (by decide) (pu_n (by decide) xM.2.2.2.2.2.1))), (pu_n (by decide) (pu_n (by decide) (pu_n (by decide) xM.2.2.2.2.2.2.1))), pu_s, (pu_n (by decide) (pu_n (by decide) (pu_n (by decide) xM.2.2.2.2.2.2.2.2.1))), (pu_n (by decide) (pu_n (by decide) (pu_n (by decide) xM.2.2.2.2.2.2.2.2.2.1))), (pu_n (by decide) (pu_n (by decide) (pu_n (by decide) xM.2.2.2.2.2.2.2.2.2.2.1))), (pu_n (by decide) (pu_n (by decide) (pu_n (by decide) xM.2.2.2.2.2.2.2.2.2.2.2.1))), (pu_n (by decide) (pu_n (by decide) (pu_n (by decide) xM.2.2.2.2.2.2.2.2.2.2.2.2.1))), (pu_n (by decide) (pu_n (by decide) (pu_n (by decide) xM.2.2.2.2.2.2.2.2.2.2.2.2.2.1))), (pu_n (by decide) (pu_n (by decide) (pu_n (by decide) xM.2.2.2.2.2.2.2.2.2.2.2.2.2.2.1))), (pu_n (by decide) (pu_n (by decide) (pu_n (by decide) xM.2.2.2.2.2.2.2.2.2.2.2.2.2.2.2)))⟩).mono (fun r h9 q9 => ?_)
  obtain ⟨q9r, q9_0, q9f⟩ := q9
  exact ⟨q9r, q9_0, fun k hk => (q9f k hk).trans (by rw [pu_x (show k ≠ 80 from fun e => by have := hk; simp at this; omega)]; rw [pu_x (show k ≠ 80 from fun e => by have := hk; simp at this; omega)]; rw [pu_x (show k ≠ 80 from fun e => by have := hk; simp at this; omega)])⟩
def lX10_takes_80_27 (n : Nat) : Nat → Int32 → Int32 → tM → Option (tM)
  | 0, _, _, _ => none
  | m + 1, x2, x3, M => (if 24 ≤ x3 then some M else (if ((x2 + 3) + x3) < 0 ∨ 75 ≤ ((x2 + 3) + x3).toNatClampNeg then none else (if x3 < 0 ∨ 24 ≤ x3.toNatClampNeg then none else (if ((x2 + 27) + x3) < 0 ∨ 75 ≤ ((x2 + 27) + x3).toNatClampNeg then none else (if ((x2 + 51) + x3) < 0 ∨ 75 ≤ ((x2 + 51) + x3).toNatClampNeg then none else lX10_takes_80_27 n m x2 (x3 + 1) (M.1, va_up (va_up (va_up M.2.1 3 (upd (M.2.1 3) x3.toNatClampNeg ((M.2.1 14) ((x2 + 3) + x3).toNatClampNeg))) 4 (upd (M.2.1 4) x3.toNatClampNeg ((M.2.1 14) ((x2 + 27) + x3).toNatClampNeg))) 5 (upd (M.2.1 5) x3.toNatClampNeg ((M.2.1 14) ((x2 + 51) + x3).toNatClampNeg)), M.2.2))))))
theorem llX10_takes_80_27 {d n : Nat} : ∀ (m : Nat) (h : pH) (x2 : Int32) (x3 : Int32) (M : tM) (res : tM), lX10_takes_80_27 n m x2 x3 M = some res → isM h M → Ev d mX10_takes (h, 27, [(0, .ref 73), (1, .ref 80), (2, .int x2), (3, .int x3)], []) (fun r h1 => r = none ∧ isM h1 res ∧ fr [(73, 89)] h h1)
  | 0, h, x2, x3, M, res, H, _ => by cases H
  | m + 1, h, x2, x3, M, res, H, xM => by
    have H : (if 24 ≤ x3 then some M else (if ((x2 + 3) + x3) < 0 ∨ 75 ≤ ((x2 + 3) + x3).toNatClampNeg then none else (if x3 < 0 ∨ 24 ≤ x3.toNatClampNeg then none else (if ((x2 + 27) + x3) < 0 ∨ 75 ≤ ((x2 + 27) + x3).toNatClampNeg then none else (if ((x2 + 51) + x3) < 0 ∨ 75 ≤ ((x2 + 51) + x3).toNatClampNeg then none else lX10_takes_80_27 n m x2 (x3 + 1) (M.1, va_up (va_up (va_up M.2.1 3 (upd (M.2.1 3) x3.toNatClampNeg ((M.2.1 14) ((x2 + 3) + x3).toNatClampNeg))) 4 (upd (M.2.1 4) x3.toNatClampNeg ((M.2.1 14) ((x2 + 27) + x3).toNatClampNeg))) 5 (upd (M.2.1 5) x3.toNatClampNeg ((M.2.1 14) ((x2 + 51) + x3).toNatClampNeg)), M.2.2)))))) = some res := H
    refine Ev.go 2 (s' := (h, 30, [(0, .ref 73), (1, .ref 80), (2, .int x2), (3, .int x3)], [.int 24, .int x3])) rfl ?_
    refine Ev.if2 rfl (fun c4 => ?_) (fun c4 => ?_)
    · have c4 : 24 ≤ x3 := c4
      rw [if_pos c4] at H
      have H := Option.some.inj H
      subst H
      exact Ev.ret rfl rfl rfl ⟨rfl, xM, (fun k _ => rfl)⟩
    · have c4 : ¬ (24 ≤ x3) := c4
      rw [if_neg c4] at H
      refine Ev.go 1 (s' := (h, 34, [(0, .ref 73), (1, .ref 80), (2, .int x2), (3, .int x3)], [.ref 73])) rfl ?_
      refine Ev.get rfl (by decide) xM.1 rfl ?_
      refine Ev.go 7 (s' := (h, 44, [(0, .ref 73), (1, .ref 80), (2, .int x2), (3, .int x3)], [.int ((x2 + 3) + x3), .ref 80, .int x3, .ref 74])) rfl ?_
      have v5 : vp_in ((x2 + 3) + x3) 75 := fun q => by rw [if_pos q] at H; cases H
      rw [if_neg v5] at H
      refine Ev.iald rfl (by decide) xM.2.2.2.2.2.2.2.1 v5 ?_
      have v6 : vp_in x3 24 := fun q => by rw [if_pos q] at H; cases H
      rw [if_neg v6] at H
      refine Ev.iast rfl (by decide) xM.2.1 v6 ?_
      refine Ev.go 1 (s' := ((pu h 74 (eI 24 (upd (M.2.1 3) x3.toNatClampNeg ((M.2.1 14) ((x2 + 3) + x3).toNatClampNeg)))), 47, [(0, .ref 73), (1, .ref 80), (2, .int x2), (3, .int x3)], [.ref 73])) rfl ?_
      refine Ev.get rfl (by decide) (pu_n (by decide) xM.1) rfl ?_
      refine Ev.go 7 (s' := ((pu h 74 (eI 24 (upd (M.2.1 3) x3.toNatClampNeg ((M.2.1 14) ((x2 + 3) + x3).toNatClampNeg)))), 58, [(0, .ref 73), (1, .ref 80), (2, .int x2), (3, .int x3)], [.int ((x2 + 27) + x3), .ref 80, .int x3, .ref 75])) rfl ?_
      have v7 : vp_in ((x2 + 27) + x3) 75 := fun q => by rw [if_pos q] at H; cases H
      rw [if_neg v7] at H
      refine Ev.iald rfl (by decide) (pu_n (by decide) xM.2.2.2.2.2.2.2.1) v7 ?_
      refine Ev.iast rfl (by decide) (pu_n (by decide) xM.2.2.1) v6 ?_
      refine Ev.go 1 (s' := ((pu (pu h 74 (eI 24 (upd (M.2.1 3) x3.toNatClampNeg ((M.2.1 14) ((x2 + 3) + x3).toNatClampNeg)))) 75 (eI 24 (upd (M.2.1 4) x3.toNatClampNeg ((M.2.1 14) ((x2 + 27) + x3).toNatClampNeg)))), 61, [(0, .ref 73), (1, .ref 80), (2, .int x2), (3, .int x3)], [.ref 73])) rfl ?_
      refine Ev.get rfl (by decide) (pu_n (by decide) (pu_n (by decide) xM.1)) rfl ?_
      refine Ev.go 7 (s' := ((pu (pu h 74 (eI 24 (upd (M.2.1 3) x3.toNatClampNeg ((M.2.1 14) ((x2 + 3) + x3).toNatClampNeg)))) 75 (eI 24 (upd (M.2.1 4) x3.toNatClampNeg ((M.2.1 14) ((x2 + 27) + x3).toNatClampNeg)))), 72, [(0, .ref 73), (1, .ref 80), (2, .int x2), (3, .int x3)], [.int ((x2 + 51) + x3), .ref 80, .int x3, .ref 76])) rfl ?_
      have v8 : vp_in ((x2 + 51) + x3) 75 := fun q => by rw [if_pos q] at H; cases H
      rw [if_neg v8] at H
      refine Ev.iald rfl (by decide) (pu_n (by decide) (pu_n (by decide) xM.2.2.2.2.2.2.2.1)) v8 ?_
      refine Ev.iast rfl (by decide) (pu_n (by decide) (pu_n (by decide) xM.2.2.2.1)) v6 ?_
      refine Ev.go 2 (s' := ((pu (pu (pu h 74 (eI 24 (upd (M.2.1 3) x3.toNatClampNeg ((M.2.1 14) ((x2 + 3) + x3).toNatClampNeg)))) 75 (eI 24 (upd (M.2.1 4) x3.toNatClampNeg ((M.2.1 14) ((x2 + 27) + x3).toNatClampNeg)))) 76 (eI 24 (upd (M.2.1 5) x3.toNatClampNeg ((M.2.1 14) ((x2 + 51) + x3).toNatClampNeg)))), 27, [(0, .ref 73), (1, .ref 80), (2, .int x2), (3, .int (x3 + 1))], [])) rfl ?_
      refine Ev.live rfl (lv' := [(0, .ref 73), (1, .ref 80), (2, .int x2), (3, .int (x3 + 1))]) rfl ?_
      refine (llX10_takes_80_27 m (pu (pu (pu h 74 (eI 24 (upd (M.2.1 3) x3.toNatClampNeg ((M.2.1 14) ((x2 + 3) + x3).toNatClampNeg)))) 75 (eI 24 (upd (M.2.1 4) x3.toNatClampNeg ((M.2.1 14) ((x2 + 27) + x3).toNatClampNeg)))) 76 (eI 24 (upd (M.2.1 5) x3.toNatClampNeg ((M.2.1 14) ((x2 + 51) + x3).toNatClampNeg)))) x2 (x3 + 1) (M.1, va_up (va_up (va_up M.2.1 3 (upd (M.2.1 3) x3.toNatClampNeg ((M.2.1 14) ((x2 + 3) + x3).toNatClampNeg))) 4 (upd (M.2.1 4) x3.toNatClampNeg ((M.2.1 14) ((x2 + 27) + x3).toNatClampNeg))) 5 (upd (M.2.1 5) x3.toNatClampNeg ((M.2.1 14) ((x2 + 51) + x3).toNatClampNeg)), M.2.2) _ H ⟨(pu_n (by decide) (pu_n (by decide) (pu_n (by decide) xM.1))), (pu_n (by decide) (pu_n (by decide) pu_s)), (pu_n (by decide) pu_s), pu_s, (pu_n (by decide) (pu_n (by decide) (pu_n (by decide) xM.2.2.2.2.1))), (pu_n (by decide) (pu_n (by decide) (pu_n (by decide) xM.2.2.2.2.2.1))), (pu_n (by decide) (pu_n (by decide) (pu_n (by decide) xM.2.2.2.2.2.2.1))), (pu_n (by decide) (pu_n (by decide) (pu_n (by decide) xM.2.2.2.2.2.2.2.1))), (pu_n (by decide) (pu_n (by decide) (pu_n (by decide) xM.2.2.2.2.2.2.2.2.1))), (pu_n (by decide) (pu_n (by decide) (pu_n (by decide) xM.2.2.2.2.2.2.2.2.2.1))), (pu_n (by decide) (pu_n (by decide) (pu_n (by decide) xM.2.2.2.2.2.2.2.2.2.2.1))), (pu_n (by decide) (pu_n (by decide) (pu_n (by decide) xM.2.2.2.2.2.2.2.2.2.2.2.1))), (pu_n (by decide) (pu_n (by decide) (pu_n (by decide) xM.2.2.2.2.2.2.2.2.2.2.2.2.1))), (pu_n (by decide) (pu_n (by decide) (pu_n (by decide) xM.2.2.2.2.2.2.2.2.2.2.2.2.2.1))), (pu_n (by decide) (pu_n (by decide) (pu_n (by decide) xM.2.2.2.2.2.2.2.2.2.2.2.2.2.2.1))), (pu_n (by decide) (pu_n (by decide) (pu_n (by decide) xM.2.2.2.2.2.2.2.2.2.2.2.2.2.2.2)))⟩).mono (fun r h9 q9 => ?_)
      obtain ⟨q9r, q9_0, q9f⟩ := q9
      exact ⟨q9r, q9_0, fun k hk => (q9f k hk).trans (by rw [pu_x (show k ≠ 76 from fun e => by have := hk; simp at this; omega)]; rw [pu_x (show k ≠ 75 from fun e => by have := hk; simp at this; omega)]; rw [pu_x (show k ≠ 74 from fun e => by have := hk; simp at this; omega)])⟩
def fX10_takes_80 (n : Nat) (M : tM) (at_ : Int32) : Option (tM) := (if at_ < 0 ∨ 75 ≤ at_.toNatClampNeg then none else (if (at_ + 1) < 0 ∨ 75 ≤ (at_ + 1).toNatClampNeg then none else (if (at_ + 2) < 0 ∨ 75 ≤ (at_ + 2).toNatClampNeg then none else lX10_takes_80_27 n n at_ 0 (va_up (va_up (va_up M.1 0 ((M.2.1 14) at_.toNatClampNeg)) 1 ((M.2.1 14) (at_ + 1).toNatClampNeg)) 2 ((M.2.1 14) (at_ + 2).toNatClampNeg), M.2.1, M.2.2))))
theorem spX10_takes_80 {d n : Nat} {h : pH} {M : tM} (xM : isM h M) (at_ : Int32) {res : tM} (H : fX10_takes_80 n M at_ = some res) : Ev d mX10_takes (h, 0, [(0, .ref 73), (1, .ref 80), (2, .int at_)], []) (fun r h1 => r = none ∧ isM h1 res ∧ fr [(73, 89)] h h1) := by
  unfold fX10_takes_80 at H
  refine Ev.go 3 (s' := (h, 3, [(0, .ref 73), (1, .ref 80), (2, .int at_)], [.int at_, .ref 80, .ref 73])) rfl ?_
  have v1 : vp_in at_ 75 := fun q => by rw [if_pos q] at H; cases H
  rw [if_neg v1] at H
  refine Ev.iald rfl (by decide) xM.2.2.2.2.2.2.2.1 v1 ?_
  refine Ev.put rfl rfl (by decide) xM.1 (Nat.le_of_ble_eq_true rfl) rfl rfl (fs' := [.int ((M.2.1 14) at_.toNatClampNeg), .int (M.1 1), .int (M.1 2), .ref 74, .ref 75, .ref 76, .ref 77, .int (M.1 7), .ref 78, .int (M.1 9), .ref 79, .int (M.1 11), .int (M.1 12), .int (M.1 13), .ref 80, .int (M.1 15), .int (M.1 16), .ref 81, .ref 82, .ref 83, .int (M.1 20), .int (M.1 21), .ref 84, .ref 85, .ref 86, .ref 87, .ref 88]) rfl ?_
  refine Ev.go 5 (s' := ((pu h 73 (eO 9 [.int ((M.2.1 14) at_.toNatClampNeg), .int (M.1 1), .int (M.1 2), .ref 74, .ref 75, .ref 76, .ref 77, .int (M.1 7), .ref 78, .int (M.1 9), .ref 79, .int (M.1 11), .int (M.1 12), .int (M.1 13), .ref 80, .int (M.1 15), .int (M.1 16), .ref 81, .ref 82, .ref 83, .int (M.1 20), .int (M.1 21), .ref 84, .ref 85, .ref 86, .ref 87, .ref 88])), 12, [(0, .ref 73), (1, .ref 80), (2, .int at_)], [.int (at_ + 1), .ref 80, .ref 73])) rfl ?_
  have v2 : vp_in (at_ + 1) 75 := fun q => by rw [if_pos q] at H; cases H
  rw [if_neg v2] at H
  refine Ev.iald rfl (by decide) (pu_n (by decide) xM.2.2.2.2.2.2.2.1) v2 ?_
  refine Ev.put rfl rfl (by decide) pu_s (Nat.le_of_ble_eq_true rfl) rfl rfl (fs' := [.int ((M.2.1 14) at_.toNatClampNeg), .int ((M.2.1 14) (at_ + 1).toNatClampNeg), .int (M.1 2), .ref 74, .ref 75, .ref 76, .ref 77, .int (M.1 7), .ref 78, .int (M.1 9), .ref 79, .int (M.1 11), .int (M.1 12), .int (M.1 13), .ref 80, .int (M.1 15), .int (M.1 16), .ref 81, .ref 82, .ref 83, .int (M.1 20), .int (M.1 21), .ref 84, .ref 85, .ref 86, .ref 87, .ref 88]) rfl ?_
  refine Ev.go 5 (s' := ((pu (pu h 73 (eO 9 [.int ((M.2.1 14) at_.toNatClampNeg), .int (M.1 1), .int (M.1 2), .ref 74, .ref 75, .ref 76, .ref 77, .int (M.1 7), .ref 78, .int (M.1 9), .ref 79, .int (M.1 11), .int (M.1 12), .int (M.1 13), .ref 80, .int (M.1 15), .int (M.1 16), .ref 81, .ref 82, .ref 83, .int (M.1 20), .int (M.1 21), .ref 84, .ref 85, .ref 86, .ref 87, .ref 88])) 73 (eO 9 [.int ((M.2.1 14) at_.toNatClampNeg), .int ((M.2.1 14) (at_ + 1).toNatClampNeg), .int (M.1 2), .ref 74, .ref 75, .ref 76, .ref 77, .int (M.1 7), .ref 78, .int (M.1 9), .ref 79, .int (M.1 11), .int (M.1 12), .int (M.1 13), .ref 80, .int (M.1 15), .int (M.1 16), .ref 81, .ref 82, .ref 83, .int (M.1 20), .int (M.1 21), .ref 84, .ref 85, .ref 86, .ref 87, .ref 88])), 21, [(0, .ref 73), (1, .ref 80), (2, .int at_)], [.int (at_ + 2), .ref 80, .ref 73])) rfl ?_
  have v3 : vp_in (at_ + 2) 75 := fun q => by rw [if_pos q] at H; cases H
  rw [if_neg v3] at H
  refine Ev.iald rfl (by decide) (pu_n (by decide) (pu_n (by decide) xM.2.2.2.2.2.2.2.1)) v3 ?_
  refine Ev.put rfl rfl (by decide) pu_s (Nat.le_of_ble_eq_true rfl) rfl rfl (fs' := [.int ((M.2.1 14) at_.toNatClampNeg), .int ((M.2.1 14) (at_ + 1).toNatClampNeg), .int ((M.2.1 14) (at_ + 2).toNatClampNeg), .ref 74, .ref 75, .ref 76, .ref 77, .int (M.1 7), .ref 78, .int (M.1 9), .ref 79, .int (M.1 11), .int (M.1 12), .int (M.1 13), .ref 80, .int (M.1 15), .int (M.1 16), .ref 81, .ref 82, .ref 83, .int (M.1 20), .int (M.1 21), .ref 84, .ref 85, .ref 86, .ref 87, .ref 88]) rfl ?_
  refine Ev.go 2 (s' := ((pu (pu (pu h 73 (eO 9 [.int ((M.2.1 14) at_.toNatClampNeg), .int (M.1 1), .int (M.1 2), .ref 74, .ref 75, .ref 76, .ref 77, .int (M.1 7), .ref 78, .int (M.1 9), .ref 79, .int (M.1 11), .int (M.1 12), .int (M.1 13), .ref 80, .int (M.1 15), .int (M.1 16), .ref 81, .ref 82, .ref 83, .int (M.1 20), .int (M.1 21), .ref 84, .ref 85, .ref 86, .ref 87, .ref 88])) 73 (eO 9 [.int ((M.2.1 14) at_.toNatClampNeg), .int ((M.2.1 14) (at_ + 1).toNatClampNeg), .int (M.1 2), .ref 74, .ref 75, .ref 76, .ref 77, .int (M.1 7), .ref 78, .int (M.1 9), .ref 79, .int (M.1 11), .int (M.1 12), .int (M.1 13), .ref 80, .int (M.1 15), .int (M.1 16), .ref 81, .ref 82, .ref 83, .int (M.1 20), .int (M.1 21), .ref 84, .ref 85, .ref 86, .ref 87, .ref 88])) 73 (eO 9 [.int ((M.2.1 14) at_.toNatClampNeg), .int ((M.2.1 14) (at_ + 1).toNatClampNeg), .int ((M.2.1 14) (at_ + 2).toNatClampNeg), .ref 74, .ref 75, .ref 76, .ref 77, .int (M.1 7), .ref 78, .int (M.1 9), .ref 79, .int (M.1 11), .int (M.1 12), .int (M.1 13), .ref 80, .int (M.1 15), .int (M.1 16), .ref 81, .ref 82, .ref 83, .int (M.1 20), .int (M.1 21), .ref 84, .ref 85, .ref 86, .ref 87, .ref 88])), 27, [(0, .ref 73), (1, .ref 80), (2, .int at_), (3, .int 0)], [])) rfl ?_
  refine Ev.live rfl (lv' := [(0, .ref 73), (1, .ref 80), (2, .int at_), (3, .int 0)]) rfl ?_
  refine (llX10_takes_80_27 n (pu (pu (pu h 73 (eO 9 [.int ((M.2.1 14) at_.toNatClampNeg), .int (M.1 1), .int (M.1 2), .ref 74, .ref 75, .ref 76, .ref 77, .int (M.1 7), .ref 78, .int (M.1 9), .ref 79, .int (M.1 11), .int (M.1 12), .int (M.1 13), .ref 80, .int (M.1 15), .int (M.1 16), .ref 81, .ref 82, .ref 83, .int (M.1 20), .int (M.1 21), .ref 84, .ref 85, .ref 86, .ref 87, .ref 88])) 73 (eO 9 [.int ((M.2.1 14) at_.toNatClampNeg), .int ((M.2.1 14) (at_ + 1).toNatClampNeg), .int (M.1 2), .ref 74, .ref 75, .ref 76, .ref 77, .int (M.1 7), .ref 78, .int (M.1 9), .ref 79, .int (M.1 11), .int (M.1 12), .int (M.1 13), .ref 80, .int (M.1 15), .int (M.1 16), .ref 81, .ref 82, .ref 83, .int (M.1 20), .int (M.1 21), .ref 84, .ref 85, .ref 86, .ref 87, .ref 88])) 73 (eO 9 [.int ((M.2.1 14) at_.toNatClampNeg), .int ((M.2.1 14) (at_ + 1).toNatClampNeg), .int ((M.2.1 14) (at_ + 2).toNatClampNeg), .ref 74, .ref 75, .ref 76, .ref 77, .int (M.1 7), .ref 78, .int (M.1 9), .ref 79, .int (M.1 11), .int (M.1 12), .int (M.1 13), .ref 80, .int (M.1 15), .int (M.1 16), .ref 81, .ref 82, .ref 83, .int (M.1 20), .int (M.1 21), .ref 84, .ref 85, .ref 86, .ref 87, .ref 88])) at_ 0 (va_up (va_up (va_up M.1 0 ((M.2.1 14) at_.toNatClampNeg)) 1 ((M.2.1 14) (at_ + 1).toNatClampNeg)) 2 ((M.2.1 14) (at_ + 2).toNatClampNeg), M.2.1, M.2.2) _ H ⟨pu_s, (pu_n (by decide) (pu_n (by decide) (pu_n (by decide) xM.2.1))), (pu_n (by decide) (pu_n (by decide) (pu_n (by decide) xM.2.2.1))), (pu_n (by decide) (pu_n (by decide) (pu_n (by decide) xM.2.2.2.1))), (pu_n (by decide) (pu_n (by decide) (pu_n (by decide) xM.2.2.2.2.1))), (pu_n (by decide) (pu_n (by decide) (pu_n (by decide) xM.2.2.2.2.2.1))), (pu_n (by decide) (pu_n (by decide) (pu_n (by decide) xM.2.2.2.2.2.2.1))), (pu_n (by decide) (pu_n (by decide) (pu_n (by decide) xM.2.2.2.2.2.2.2.1))), (pu_n (by decide) (pu_n (by decide) (pu_n (by decide) xM.2.2.2.2.2.2.2.2.1))), (pu_n (by decide) (pu_n (by decide) (pu_n (by decide) xM.2.2.2.2.2.2.2.2.2.1))), (pu_n (by decide) (pu_n (by decide) (pu_n (by decide) xM.2.2.2.2.2.2.2.2.2.2.1))), (pu_n (by decide) (pu_n (by decide) (pu_n (by decide) xM.2.2.2.2.2.2.2.2.2.2.2.1))), (pu_n (by decide) (pu_n (by decide) (pu_n (by decide) xM.2.2.2.2.2.2.2.2.2.2.2.2.1))), (pu_n (by decide) (pu_n (by decide) (pu_n (by decide) xM.2.2.2.2.2.2.2.2.2.2.2.2.2.1))), (pu_n (by decide) (pu_n (by decide) (pu_n (by decide) xM.2.2.2.2.2.2.2.2.2.2.2.2.2.2.1))), (pu_n (by decide) (pu_n (by decide) (pu_n (by decide) xM.2.2.2.2.2.2.2.2.2.2.2.2.2.2.2)))⟩).mono (fun r h9 q9 => ?_)
  obtain ⟨q9r, q9_0, q9f⟩ := q9
  exact ⟨q9r, q9_0, fun k hk => (q9f k hk).trans (by rw [pu_x (show k ≠ 73 from fun e => by have := hk; simp at this; omega)]; rw [pu_x (show k ≠ 73 from fun e => by have := hk; simp at this; omega)]; rw [pu_x (show k ≠ 73 from fun e => by have := hk; simp at this; omega)])⟩
def lX10_notes_11 (n : Nat) : Nat → Int32 → tM → Option (tM)
  | 0, _, _ => none
  | m + 1, x1, M => (if 525 ≤ x1 then ((fX10_lays_77 n (va_up M.1 7 ((M.1 7) - 1), M.2.1, M.2.2) (75 * ((M.1 7) - 1))).bind fun y8 => some (va_up y8.1 7 ((y8.1 7) + 1), y8.2.1, y8.2.2)) else (if (x1 + 75) < 0 ∨ 600 ≤ (x1 + 75).toNatClampNeg then none else (if x1 < 0 ∨ 600 ≤ x1.toNatClampNeg then none else lX10_notes_11 n m (x1 + 1) (M.1, va_up M.2.1 6 (upd (M.2.1 6) x1.toNatClampNeg ((M.2.1 6) (x1 + 75).toNatClampNeg)), M.2.2))))
theorem llX10_notes_11 {d n : Nat} : ∀ (m : Nat) (h : pH) (x1 : Int32) (M : tM) (res : tM), lX10_notes_11 n m x1 M = some res → isM h M → Ev (d + 1) mX10_notes (h, 11, [(0, .ref 73), (1, .int x1)], []) (fun r h1 => r = none ∧ isM h1 res ∧ fr [(73, 89)] h h1)
  | 0, h, x1, M, res, H, _ => by cases H
  | m + 1, h, x1, M, res, H, xM => by
    have H : (if 525 ≤ x1 then ((fX10_lays_77 n (va_up M.1 7 ((M.1 7) - 1), M.2.1, M.2.2) (75 * ((M.1 7) - 1))).bind fun y8 => some (va_up y8.1 7 ((y8.1 7) + 1), y8.2.1, y8.2.2)) else (if (x1 + 75) < 0 ∨ 600 ≤ (x1 + 75).toNatClampNeg then none else (if x1 < 0 ∨ 600 ≤ x1.toNatClampNeg then none else lX10_notes_11 n m (x1 + 1) (M.1, va_up M.2.1 6 (upd (M.2.1 6) x1.toNatClampNeg ((M.2.1 6) (x1 + 75).toNatClampNeg)), M.2.2)))) = some res := H
    refine Ev.go 2 (s' := (h, 15, [(0, .ref 73), (1, .int x1)], [.int 525, .int x1])) rfl ?_
    refine Ev.if2 rfl (fun c6 => ?_) (fun c6 => ?_)
    · have c6 : 525 ≤ x1 := c6
      rw [if_pos c6] at H
      refine Ev.go 2 (s' := (h, 41, [(0, .ref 73), (1, .int x1)], [.ref 73, .ref 73])) rfl ?_
      refine Ev.get rfl (by decide) xM.1 rfl ?_
      refine Ev.go 2 (s' := (h, 46, [(0, .ref 73), (1, .int x1)], [.int ((M.1 7) - 1), .ref 73])) rfl ?_
      refine Ev.put rfl rfl (by decide) xM.1 (Nat.le_of_ble_eq_true rfl) rfl rfl (fs' := [.int (M.1 0), .int (M.1 1), .int (M.1 2), .ref 74, .ref 75, .ref 76, .ref 77, .int ((M.1 7) - 1), .ref 78, .int (M.1 9), .ref 79, .int (M.1 11), .int (M.1 12), .int (M.1 13), .ref 80, .int (M.1 15), .int (M.1 16), .ref 81, .ref 82, .ref 83, .int (M.1 20), .int (M.1 21), .ref 84, .ref 85, .ref 86, .ref 87, .ref 88]) rfl ?_
      refine Ev.go 2 (s' := ((pu h 73 (eO 9 [.int (M.1 0), .int (M.1 1), .int (M.1 2), .ref 74, .ref 75, .ref 76, .ref 77, .int ((M.1 7) - 1), .ref 78, .int (M.1 9), .ref 79, .int (M.1 11), .int (M.1 12), .int (M.1 13), .ref 80, .int (M.1 15), .int (M.1 16), .ref 81, .ref 82, .ref 83, .int (M.1 20), .int (M.1 21), .ref 84, .ref 85, .ref 86, .ref 87, .ref 88])), 51, [(0, .ref 73), (1, .int x1)], [.ref 73, .ref 73])) rfl ?_
      refine Ev.get rfl (by decide) pu_s rfl ?_
      refine Ev.go 2 (s' := ((pu h 73 (eO 9 [.int (M.1 0), .int (M.1 1), .int (M.1 2), .ref 74, .ref 75, .ref 76, .ref 77, .int ((M.1 7) - 1), .ref 78, .int (M.1 9), .ref 79, .int (M.1 11), .int (M.1 12), .int (M.1 13), .ref 80, .int (M.1 15), .int (M.1 16), .ref 81, .ref 82, .ref 83, .int (M.1 20), .int (M.1 21), .ref 84, .ref 85, .ref 86, .ref 87, .ref 88])), 57, [(0, .ref 73), (1, .int x1)], [.ref 73, .int 75, .ref 77, .ref 73])) rfl ?_
      refine Ev.get rfl (by decide) pu_s rfl ?_
      refine Ev.go 1 (s' := ((pu h 73 (eO 9 [.int (M.1 0), .int (M.1 1), .int (M.1 2), .ref 74, .ref 75, .ref 76, .ref 77, .int ((M.1 7) - 1), .ref 78, .int (M.1 9), .ref 79, .int (M.1 11), .int (M.1 12), .int (M.1 13), .ref 80, .int (M.1 15), .int (M.1 16), .ref 81, .ref 82, .ref 83, .int (M.1 20), .int (M.1 21), .ref 84, .ref 85, .ref 86, .ref 87, .ref 88])), 61, [(0, .ref 73), (1, .int x1)], [.int (75 * ((M.1 7) - 1)), .ref 77, .ref 73])) rfl ?_
      obtain ⟨y8, e7, H⟩ := Option.bind_eq_some_iff.mp H
      refine Ev.call rfl rfl rfl (p_argsV (by decide) pu_s (Nat.le_of_ble_eq_true rfl)) rfl (Nat.le_of_ble_eq_true rfl) ((spX10_lays_77 (h := (pu h 73 (eO 9 [.int (M.1 0), .int (M.1 1), .int (M.1 2), .ref 74, .ref 75, .ref 76, .ref 77, .int ((M.1 7) - 1), .ref 78, .int (M.1 9), .ref 79, .int (M.1 11), .int (M.1 12), .int (M.1 13), .ref 80, .int (M.1 15), .int (M.1 16), .ref 81, .ref 82, .ref 83, .int (M.1 20), .int (M.1 21), .ref 84, .ref 85, .ref 86, .ref 87, .ref 88]))) (M := (va_up M.1 7 ((M.1 7) - 1), M.2.1, M.2.2)) ⟨pu_s, (pu_n (by decide) xM.2.1), (pu_n (by decide) xM.2.2.1), (pu_n (by decide) xM.2.2.2.1), (pu_n (by decide) xM.2.2.2.2.1), (pu_n (by decide) xM.2.2.2.2.2.1), (pu_n (by decide) xM.2.2.2.2.2.2.1), (pu_n (by decide) xM.2.2.2.2.2.2.2.1), (pu_n (by decide) xM.2.2.2.2.2.2.2.2.1), (pu_n (by decide) xM.2.2.2.2.2.2.2.2.2.1), (pu_n (by decide) xM.2.2.2.2.2.2.2.2.2.2.1), (pu_n (by decide) xM.2.2.2.2.2.2.2.2.2.2.2.1), (pu_n (by decide) xM.2.2.2.2.2.2.2.2.2.2.2.2.1), (pu_n (by decide) xM.2.2.2.2.2.2.2.2.2.2.2.2.2.1), (pu_n (by decide) xM.2.2.2.2.2.2.2.2.2.2.2.2.2.2.1), (pu_n (by decide) xM.2.2.2.2.2.2.2.2.2.2.2.2.2.2.2)⟩ (75 * ((M.1 7) - 1)) e7).mono (fun r h9 q10 => ?_))
      obtain ⟨rfl, q10_M, q10_f⟩ := q10
      refine Ev.go 2 (s' := (h9, 66, [(0, .ref 73), (1, .int x1)], [.ref 73, .ref 73])) rfl ?_
      refine Ev.get rfl (by decide) q10_M.1 rfl ?_
      refine Ev.go 2 (s' := (h9, 71, [(0, .ref 73), (1, .int x1)], [.int ((y8.1 7) + 1), .ref 73])) rfl ?_
      refine Ev.put rfl rfl (by decide) q10_M.1 (Nat.le_of_ble_eq_true rfl) rfl rfl (fs' := [.int (y8.1 0), .int (y8.1 1), .int (y8.1 2), .ref 74, .ref 75, .ref 76, .ref 77, .int ((y8.1 7) + 1), .ref 78, .int (y8.1 9), .ref 79, .int (y8.1 11), .int (y8.1 12), .int (y8.1 13), .ref 80, .int (y8.1 15), .int (y8.1 16), .ref 81, .ref 82, .ref 83, .int (y8.1 20), .int (y8.1 21), .ref 84, .ref 85, .ref 86, .ref 87, .ref 88]) rfl ?_
      have H := Option.some.inj H
      subst H
      exact Ev.ret rfl rfl rfl ⟨rfl, ⟨pu_s, (pu_n (by decide) q10_M.2.1), (pu_n (by decide) q10_M.2.2.1), (pu_n (by decide) q10_M.2.2.2.1), (pu_n (by decide) q10_M.2.2.2.2.1), (pu_n (by decide) q10_M.2.2.2.2.2.1), (pu_n (by decide) q10_M.2.2.2.2.2.2.1), (pu_n (by decide) q10_M.2.2.2.2.2.2.2.1), (pu_n (by decide) q10_M.2.2.2.2.2.2.2.2.1), (pu_n (by decide) q10_M.2.2.2.2.2.2.2.2.2.1), (pu_n (by decide) q10_M.2.2.2.2.2.2.2.2.2.2.1), (pu_n (by decide) q10_M.2.2.2.2.2.2.2.2.2.2.2.1), (pu_n (by decide) q10_M.2.2.2.2.2.2.2.2.2.2.2.2.1), (pu_n (by decide) q10_M.2.2.2.2.2.2.2.2.2.2.2.2.2.1), (pu_n (by decide) q10_M.2.2.2.2.2.2.2.2.2.2.2.2.2.2.1), (pu_n (by decide) q10_M.2.2.2.2.2.2.2.2.2.2.2.2.2.2.2)⟩, (fun k hk => by rw [pu_x (show k ≠ 73 from fun e => by have := hk; simp at this; omega)]; rw [q10_f k (by have := hk; simp at this ⊢; omega)]; rw [pu_x (show k ≠ 73 from fun e => by have := hk; simp at this; omega)])⟩
    · have c6 : ¬ (525 ≤ x1) := c6
      rw [if_neg c6] at H
      refine Ev.go 1 (s' := (h, 19, [(0, .ref 73), (1, .int x1)], [.ref 73])) rfl ?_
      refine Ev.get rfl (by decide) xM.1 rfl ?_
      refine Ev.go 2 (s' := (h, 24, [(0, .ref 73), (1, .int x1)], [.ref 73, .int x1, .ref 77])) rfl ?_
      refine Ev.get rfl (by decide) xM.1 rfl ?_
      refine Ev.go 3 (s' := (h, 31, [(0, .ref 73), (1, .int x1)], [.int (x1 + 75), .ref 77, .int x1, .ref 77])) rfl ?_
      have v11 : vp_in (x1 + 75) 600 := fun q => by rw [if_pos q] at H; cases H
      rw [if_neg v11] at H
      refine Ev.iald rfl (by decide) xM.2.2.2.2.1 v11 ?_
      have v12 : vp_in x1 600 := fun q => by rw [if_pos q] at H; cases H
      rw [if_neg v12] at H
      refine Ev.iast rfl (by decide) xM.2.2.2.2.1 v12 ?_
      refine Ev.go 2 (s' := ((pu h 77 (eI 600 (upd (M.2.1 6) x1.toNatClampNeg ((M.2.1 6) (x1 + 75).toNatClampNeg)))), 11, [(0, .ref 73), (1, .int (x1 + 1))], [])) rfl ?_
      refine Ev.live rfl (lv' := [(0, .ref 73), (1, .int (x1 + 1))]) rfl ?_
      refine (llX10_notes_11 m (pu h 77 (eI 600 (upd (M.2.1 6) x1.toNatClampNeg ((M.2.1 6) (x1 + 75).toNatClampNeg)))) (x1 + 1) (M.1, va_up M.2.1 6 (upd (M.2.1 6) x1.toNatClampNeg ((M.2.1 6) (x1 + 75).toNatClampNeg)), M.2.2) _ H ⟨(pu_n (by decide) xM.1), (pu_n (by decide) xM.2.1), (pu_n (by decide) xM.2.2.1), (pu_n (by decide) xM.2.2.2.1), pu_s, (pu_n (by decide) xM.2.2.2.2.2.1), (pu_n (by decide) xM.2.2.2.2.2.2.1), (pu_n (by decide) xM.2.2.2.2.2.2.2.1), (pu_n (by decide) xM.2.2.2.2.2.2.2.2.1), (pu_n (by decide) xM.2.2.2.2.2.2.2.2.2.1), (pu_n (by decide) xM.2.2.2.2.2.2.2.2.2.2.1), (pu_n (by decide) xM.2.2.2.2.2.2.2.2.2.2.2.1), (pu_n (by decide) xM.2.2.2.2.2.2.2.2.2.2.2.2.1), (pu_n (by decide) xM.2.2.2.2.2.2.2.2.2.2.2.2.2.1), (pu_n (by decide) xM.2.2.2.2.2.2.2.2.2.2.2.2.2.2.1), (pu_n (by decide) xM.2.2.2.2.2.2.2.2.2.2.2.2.2.2.2)⟩).mono (fun r h9 q9 => ?_)
      obtain ⟨q9r, q9_0, q9f⟩ := q9
      exact ⟨q9r, q9_0, fun k hk => (q9f k hk).trans (by rw [pu_x (show k ≠ 77 from fun e => by have := hk; simp at this; omega)])⟩
def fX10_notes (n : Nat) (M : tM) : Option (tM) := (if ¬ (M.1 7) = 8 then ((fX10_lays_77 n M (75 * (M.1 7))).bind fun y3 => some (va_up y3.1 7 ((y3.1 7) + 1), y3.2.1, y3.2.2)) else lX10_notes_11 n n 0 M)
theorem spX10_notes {d n : Nat} {h : pH} {M : tM} (xM : isM h M) {res : tM} (H : fX10_notes n M = some res) : Ev (d + 1) mX10_notes (h, 0, [(0, .ref 73)], []) (fun r h1 => r = none ∧ isM h1 res ∧ fr [(73, 89)] h h1) := by
  unfold fX10_notes at H
  refine Ev.go 1 (s' := (h, 1, [(0, .ref 73)], [.ref 73])) rfl ?_
  refine Ev.get rfl (by decide) xM.1 rfl ?_
  refine Ev.go 1 (s' := (h, 6, [(0, .ref 73)], [.int 8, .int (M.1 7)])) rfl ?_
  refine Ev.if2 rfl (fun c1 => ?_) (fun c1 => ?_)
  · have c1 : ¬ (M.1 7) = 8 := c1
    rw [if_pos c1] at H
    refine Ev.go 2 (s' := (h, 51, [(0, .ref 73)], [.ref 73, .ref 73])) rfl ?_
    refine Ev.get rfl (by decide) xM.1 rfl ?_
    refine Ev.go 2 (s' := (h, 57, [(0, .ref 73)], [.ref 73, .int 75, .ref 77, .ref 73])) rfl ?_
    refine Ev.get rfl (by decide) xM.1 rfl ?_
    refine Ev.go 1 (s' := (h, 61, [(0, .ref 73)], [.int (75 * (M.1 7)), .ref 77, .ref 73])) rfl ?_
    obtain ⟨y3, e2, H⟩ := Option.bind_eq_some_iff.mp H
    refine Ev.call rfl rfl rfl (p_argsV (by decide) xM.1 (Nat.le_of_ble_eq_true rfl)) rfl (Nat.le_of_ble_eq_true rfl) ((spX10_lays_77 xM (75 * (M.1 7)) e2).mono (fun r h4 q5 => ?_))
    obtain ⟨rfl, q5_M, q5_f⟩ := q5
    refine Ev.go 2 (s' := (h4, 66, [(0, .ref 73)], [.ref 73, .ref 73])) rfl ?_
    refine Ev.get rfl (by decide) q5_M.1 rfl ?_
    refine Ev.go 2 (s' := (h4, 71, [(0, .ref 73)], [.int ((y3.1 7) + 1), .ref 73])) rfl ?_
    refine Ev.put rfl rfl (by decide) q5_M.1 (Nat.le_of_ble_eq_true rfl) rfl rfl (fs' := [.int (y3.1 0), .int (y3.1 1), .int (y3.1 2), .ref 74, .ref 75, .ref 76, .ref 77, .int ((y3.1 7) + 1), .ref 78, .int (y3.1 9), .ref 79, .int (y3.1 11), .int (y3.1 12), .int (y3.1 13), .ref 80, .int (y3.1 15), .int (y3.1 16), .ref 81, .ref 82, .ref 83, .int (y3.1 20), .int (y3.1 21), .ref 84, .ref 85, .ref 86, .ref 87, .ref 88]) rfl ?_
    have H := Option.some.inj H
    subst H
    exact Ev.ret rfl rfl rfl ⟨rfl, ⟨pu_s, (pu_n (by decide) q5_M.2.1), (pu_n (by decide) q5_M.2.2.1), (pu_n (by decide) q5_M.2.2.2.1), (pu_n (by decide) q5_M.2.2.2.2.1), (pu_n (by decide) q5_M.2.2.2.2.2.1), (pu_n (by decide) q5_M.2.2.2.2.2.2.1), (pu_n (by decide) q5_M.2.2.2.2.2.2.2.1), (pu_n (by decide) q5_M.2.2.2.2.2.2.2.2.1), (pu_n (by decide) q5_M.2.2.2.2.2.2.2.2.2.1), (pu_n (by decide) q5_M.2.2.2.2.2.2.2.2.2.2.1), (pu_n (by decide) q5_M.2.2.2.2.2.2.2.2.2.2.2.1), (pu_n (by decide) q5_M.2.2.2.2.2.2.2.2.2.2.2.2.1), (pu_n (by decide) q5_M.2.2.2.2.2.2.2.2.2.2.2.2.2.1), (pu_n (by decide) q5_M.2.2.2.2.2.2.2.2.2.2.2.2.2.2.1), (pu_n (by decide) q5_M.2.2.2.2.2.2.2.2.2.2.2.2.2.2.2)⟩, (fun k hk => by rw [pu_x (show k ≠ 73 from fun e => by have := hk; simp at this; omega)]; rw [q5_f k (by have := hk; simp at this ⊢; omega)])⟩
  · have c1 : ¬ (¬ (M.1 7) = 8) := c1
    rw [if_neg c1] at H
    refine Ev.go 2 (s' := (h, 11, [(0, .ref 73), (1, .int 0)], [])) rfl ?_
    refine Ev.live rfl (lv' := [(0, .ref 73), (1, .int 0)]) rfl ?_
    exact llX10_notes_11 n h 0 M _ H xM
def fX10_grow (n : Nat) (M : tM) (p : Int32) (place : Int32) (tag : Int32) : Option (Int32 × tM) := (if (fX10_isNode M p) = 0 then some ((-1), M) else ((fX10_childMany n M p).bind fun y3 => (if (fX10_in place 0 y3) = 0 then some ((-1), M) else ((fX10_isTag tag).bind fun y6 => (if ¬ y6 = 0 then (if ¬ (M.1 1) = 24 then ((fX10_keyFor n M p place).bind fun y10 => (if ¬ y10 = 0 then ((fX10_notes n M).bind fun y13 => ((fX10_comes n y13 p place tag).bind fun y17 => some (y17.1, y17.2))) else some ((-2), M))) else some ((-3), M)) else some ((-1), M))))))
theorem spX10_grow {d n : Nat} {h : pH} {M : tM} (xM : isM h M) (p : Int32) (place : Int32) (tag : Int32) {res : Int32 × tM} (H : fX10_grow n M p place tag = some res) : Ev (d + 5) mX10_grow (h, 0, [(0, .ref 73), (1, .int p), (2, .int place), (3, .int tag)], []) (fun r h1 => r = some (.int res.1) ∧ isM h1 res.2 ∧ fr [(73, 89)] h h1) := by
  unfold fX10_grow at H
  refine Ev.go 2 (s' := (h, 2, [(0, .ref 73), (1, .int p), (2, .int place), (3, .int tag)], [.int p, .ref 73])) rfl ?_
  refine Ev.callE rfl rfl rfl (p_argsV (by decide) xM.1 (Nat.le_of_ble_eq_true rfl)) rfl (Nat.le_of_ble_eq_true rfl) (spX10_isNode xM p) ?_
  refine Ev.if1 rfl (fun c1 => ?_) (fun c1 => ?_)
  · have c1 : (fX10_isNode M p) = 0 := c1
    rw [if_pos c1] at H
    refine Ev.go 1 (s' := (h, 29, [(0, .ref 73), (1, .int p), (2, .int place), (3, .int tag)], [.int ((-1))])) rfl ?_
    have H := Option.some.inj H
    subst H
    exact Ev.ret rfl rfl (p_retZ rfl) ⟨rfl, xM, (fun k _ => rfl)⟩
  · have c1 : ¬ ((fX10_isNode M p) = 0) := c1
    rw [if_neg c1] at H
    refine Ev.go 4 (s' := (h, 12, [(0, .ref 73), (1, .int p), (2, .int place), (3, .int tag)], [.int p, .ref 73, .int 0, .int place])) rfl ?_
    obtain ⟨y3, e2, H⟩ := Option.bind_eq_some_iff.mp H
    refine Ev.callE rfl rfl rfl (p_argsV (by decide) xM.1 (Nat.le_of_ble_eq_true rfl)) rfl (Nat.le_of_ble_eq_true rfl) (spX10_childMany xM p e2) ?_
    refine Ev.callE rfl rfl rfl rfl rfl (Nat.le_of_ble_eq_true rfl) (spX10_in  place 0 y3) ?_
    refine Ev.if1 rfl (fun c4 => ?_) (fun c4 => ?_)
    · have c4 : (fX10_in place 0 y3) = 0 := c4
      rw [if_pos c4] at H
      refine Ev.go 1 (s' := (h, 29, [(0, .ref 73), (1, .int p), (2, .int place), (3, .int tag)], [.int ((-1))])) rfl ?_
      have H := Option.some.inj H
      subst H
      exact Ev.ret rfl rfl (p_retZ rfl) ⟨rfl, xM, (fun k _ => rfl)⟩
    · have c4 : ¬ ((fX10_in place 0 y3) = 0) := c4
      rw [if_neg c4] at H
      refine Ev.go 1 (s' := (h, 22, [(0, .ref 73), (1, .int p), (2, .int place), (3, .int tag)], [.int tag])) rfl ?_
      obtain ⟨y6, e5, H⟩ := Option.bind_eq_some_iff.mp H
      refine Ev.callE rfl rfl rfl rfl rfl (Nat.le_of_ble_eq_true rfl) (spX10_isTag  tag e5) ?_
      refine Ev.if1 rfl (fun c7 => ?_) (fun c7 => ?_)
      · have c7 : ¬ y6 = 0 := c7
        rw [if_pos c7] at H
        refine Ev.go 1 (s' := (h, 31, [(0, .ref 73), (1, .int p), (2, .int place), (3, .int tag)], [.ref 73])) rfl ?_
        refine Ev.get rfl (by decide) xM.1 rfl ?_
        refine Ev.go 1 (s' := (h, 36, [(0, .ref 73), (1, .int p), (2, .int place), (3, .int tag)], [.int 24, .int (M.1 1)])) rfl ?_
        refine Ev.if2 rfl (fun c8 => ?_) (fun c8 => ?_)
        · have c8 : ¬ (M.1 1) = 24 := c8
          rw [if_pos c8] at H
          refine Ev.go 3 (s' := (h, 45, [(0, .ref 73), (1, .int p), (2, .int place), (3, .int tag)], [.int place, .int p, .ref 73])) rfl ?_
          obtain ⟨y10, e9, H⟩ := Option.bind_eq_some_iff.mp H
          refine Ev.callE rfl rfl rfl (p_argsV (by decide) xM.1 (Nat.le_of_ble_eq_true rfl)) rfl (Nat.le_of_ble_eq_true rfl) (spX10_keyFor xM p place e9) ?_
          refine Ev.if1 rfl (fun c11 => ?_) (fun c11 => ?_)
          · have c11 : ¬ y10 = 0 := c11
            rw [if_pos c11] at H
            refine Ev.go 1 (s' := (h, 55, [(0, .ref 73), (1, .int p), (2, .int place), (3, .int tag)], [.ref 73])) rfl ?_
            obtain ⟨y13, e12, H⟩ := Option.bind_eq_some_iff.mp H
            refine Ev.call rfl rfl rfl (p_argsV (by decide) xM.1 (Nat.le_of_ble_eq_true rfl)) rfl (Nat.le_of_ble_eq_true rfl) ((spX10_notes xM  e12).mono (fun r h14 q15 => ?_))
            obtain ⟨rfl, q15_M, q15_f⟩ := q15
            refine Ev.go 4 (s' := (h14, 62, [(0, .ref 73), (1, .int p), (2, .int place), (3, .int tag)], [.int tag, .int place, .int p, .ref 73])) rfl ?_
            obtain ⟨y17, e16, H⟩ := Option.bind_eq_some_iff.mp H
            refine Ev.call rfl rfl rfl (p_argsV (by decide) q15_M.1 (Nat.le_of_ble_eq_true rfl)) rfl (Nat.le_of_ble_eq_true rfl) ((spX10_comes q15_M p place tag e16).mono (fun r h18 q19 => ?_))
            obtain ⟨rfl, q19_M, q19_f⟩ := q19
            have H := Option.some.inj H
            subst H
            exact Ev.ret rfl rfl (p_retZ rfl) ⟨rfl, q19_M, (fun k hk => by rw [q19_f k (by have := hk; simp at this ⊢; omega)]; rw [q15_f k (by have := hk; simp at this ⊢; omega)])⟩
          · have c11 : ¬ (¬ y10 = 0) := c11
            rw [if_neg c11] at H
            refine Ev.go 1 (s' := (h, 53, [(0, .ref 73), (1, .int p), (2, .int place), (3, .int tag)], [.int ((-2))])) rfl ?_
            have H := Option.some.inj H
            subst H
            exact Ev.ret rfl rfl (p_retZ rfl) ⟨rfl, xM, (fun k _ => rfl)⟩
        · have c8 : ¬ (¬ (M.1 1) = 24) := c8
          rw [if_neg c8] at H
          refine Ev.go 1 (s' := (h, 41, [(0, .ref 73), (1, .int p), (2, .int place), (3, .int tag)], [.int ((-3))])) rfl ?_
          have H := Option.some.inj H
          subst H
          exact Ev.ret rfl rfl (p_retZ rfl) ⟨rfl, xM, (fun k _ => rfl)⟩
      · have c7 : ¬ (¬ y6 = 0) := c7
        rw [if_neg c7] at H
        refine Ev.go 1 (s' := (h, 29, [(0, .ref 73), (1, .int p), (2, .int place), (3, .int tag)], [.int ((-1))])) rfl ?_
        have H := Option.some.inj H
        subst H
        exact Ev.ret rfl rfl (p_retZ rfl) ⟨rfl, xM, (fun k _ => rfl)⟩
def fX10_cut (n : Nat) (M : tM) (v : Int32) : Option (Int32 × tM) := (if ¬ (fX10_isNode M v) = 0 then (if ¬ v = 0 then ((fX10_notes n M).bind fun y4 => ((fX10_belowSet n y4 v).bind fun y8 => ((fX10_bits n (y8 ||| (1 <<< (v &&& 31)))).bind fun y10 => some (y10, (va_up y4.1 0 ((y4.1 0) &&& ((y8 ||| (1 <<< (v &&& 31))) ^^^ (-1))), y4.2.1, y4.2.2))))) else some ((-2), M)) else some ((-1), M))
theorem spX10_cut {d n : Nat} {h : pH} {M : tM} (xM : isM h M) (v : Int32) {res : Int32 × tM} (H : fX10_cut n M v = some res) : Ev (d + 2) mX10_cut (h, 0, [(0, .ref 73), (1, .int v)], []) (fun r h1 => r = some (.int res.1) ∧ isM h1 res.2 ∧ fr [(73, 89)] h h1) := by
  unfold fX10_cut at H
  refine Ev.go 2 (s' := (h, 2, [(0, .ref 73), (1, .int v)], [.int v, .ref 73])) rfl ?_
  refine Ev.callE rfl rfl rfl (p_argsV (by decide) xM.1 (Nat.le_of_ble_eq_true rfl)) rfl (Nat.le_of_ble_eq_true rfl) (spX10_isNode xM v) ?_
  refine Ev.if1 rfl (fun c1 => ?_) (fun c1 => ?_)
  · have c1 : ¬ (fX10_isNode M v) = 0 := c1
    rw [if_pos c1] at H
    refine Ev.go 1 (s' := (h, 11, [(0, .ref 73), (1, .int v)], [.int v])) rfl ?_
    refine Ev.if1 rfl (fun c2 => ?_) (fun c2 => ?_)
    · have c2 : ¬ v = 0 := c2
      rw [if_pos c2] at H
      refine Ev.go 1 (s' := (h, 18, [(0, .ref 73), (1, .int v)], [.ref 73])) rfl ?_
      obtain ⟨y4, e3, H⟩ := Option.bind_eq_some_iff.mp H
      refine Ev.call rfl rfl rfl (p_argsV (by decide) xM.1 (Nat.le_of_ble_eq_true rfl)) rfl (Nat.le_of_ble_eq_true rfl) ((spX10_notes xM  e3).mono (fun r h5 q6 => ?_))
      obtain ⟨rfl, q6_M, q6_f⟩ := q6
      refine Ev.go 2 (s' := (h5, 23, [(0, .ref 73), (1, .int v)], [.int v, .ref 73])) rfl ?_
      obtain ⟨y8, e7, H⟩ := Option.bind_eq_some_iff.mp H
      refine Ev.callE rfl rfl rfl (p_argsV (by decide) q6_M.1 (Nat.le_of_ble_eq_true rfl)) rfl (Nat.le_of_ble_eq_true rfl) (spX10_belowSet q6_M v e7) ?_
      refine Ev.go 7 (s' := (h5, 33, [(0, .ref 73), (1, .int v), (2, .int (y8 ||| (1 <<< (v &&& 31))))], [.ref 73, .ref 73])) rfl ?_
      refine Ev.get rfl (by decide) q6_M.1 rfl ?_
      refine Ev.go 4 (s' := (h5, 40, [(0, .ref 73), (1, .int v), (2, .int (y8 ||| (1 <<< (v &&& 31))))], [.int ((y4.1 0) &&& ((y8 ||| (1 <<< (v &&& 31))) ^^^ (-1))), .ref 73])) rfl ?_
      refine Ev.put rfl rfl (by decide) q6_M.1 (Nat.le_of_ble_eq_true rfl) rfl rfl (fs' := [.int ((y4.1 0) &&& ((y8 ||| (1 <<< (v &&& 31))) ^^^ (-1))), .int (y4.1 1), .int (y4.1 2), .ref 74, .ref 75, .ref 76, .ref 77, .int (y4.1 7), .ref 78, .int (y4.1 9), .ref 79, .int (y4.1 11), .int (y4.1 12), .int (y4.1 13), .ref 80, .int (y4.1 15), .int (y4.1 16), .ref 81, .ref 82, .ref 83, .int (y4.1 20), .int (y4.1 21), .ref 84, .ref 85, .ref 86, .ref 87, .ref 88]) rfl ?_
      refine Ev.go 1 (s' := ((pu h5 73 (eO 9 [.int ((y4.1 0) &&& ((y8 ||| (1 <<< (v &&& 31))) ^^^ (-1))), .int (y4.1 1), .int (y4.1 2), .ref 74, .ref 75, .ref 76, .ref 77, .int (y4.1 7), .ref 78, .int (y4.1 9), .ref 79, .int (y4.1 11), .int (y4.1 12), .int (y4.1 13), .ref 80, .int (y4.1 15), .int (y4.1 16), .ref 81, .ref 82, .ref 83, .int (y4.1 20), .int (y4.1 21), .ref 84, .ref 85, .ref 86, .ref 87, .ref 88])), 44, [(0, .ref 73), (1, .int v), (2, .int (y8 ||| (1 <<< (v &&& 31))))], [.int (y8 ||| (1 <<< (v &&& 31)))])) rfl ?_
      obtain ⟨y10, e9, H⟩ := Option.bind_eq_some_iff.mp H
      refine Ev.callE rfl rfl rfl rfl rfl (Nat.le_of_ble_eq_true rfl) (spX10_bits  (y8 ||| (1 <<< (v &&& 31))) e9) ?_
      have H := Option.some.inj H
      subst H
      exact Ev.ret rfl rfl (p_retZ rfl) ⟨rfl, ⟨pu_s, (pu_n (by decide) q6_M.2.1), (pu_n (by decide) q6_M.2.2.1), (pu_n (by decide) q6_M.2.2.2.1), (pu_n (by decide) q6_M.2.2.2.2.1), (pu_n (by decide) q6_M.2.2.2.2.2.1), (pu_n (by decide) q6_M.2.2.2.2.2.2.1), (pu_n (by decide) q6_M.2.2.2.2.2.2.2.1), (pu_n (by decide) q6_M.2.2.2.2.2.2.2.2.1), (pu_n (by decide) q6_M.2.2.2.2.2.2.2.2.2.1), (pu_n (by decide) q6_M.2.2.2.2.2.2.2.2.2.2.1), (pu_n (by decide) q6_M.2.2.2.2.2.2.2.2.2.2.2.1), (pu_n (by decide) q6_M.2.2.2.2.2.2.2.2.2.2.2.2.1), (pu_n (by decide) q6_M.2.2.2.2.2.2.2.2.2.2.2.2.2.1), (pu_n (by decide) q6_M.2.2.2.2.2.2.2.2.2.2.2.2.2.2.1), (pu_n (by decide) q6_M.2.2.2.2.2.2.2.2.2.2.2.2.2.2.2)⟩, (fun k hk => by rw [pu_x (show k ≠ 73 from fun e => by have := hk; simp at this; omega)]; rw [q6_f k (by have := hk; simp at this ⊢; omega)])⟩
    · have c2 : ¬ (¬ v = 0) := c2
      rw [if_neg c2] at H
      refine Ev.go 1 (s' := (h, 16, [(0, .ref 73), (1, .int v)], [.int ((-2))])) rfl ?_
      have H := Option.some.inj H
      subst H
      exact Ev.ret rfl rfl (p_retZ rfl) ⟨rfl, xM, (fun k _ => rfl)⟩
  · have c1 : ¬ (¬ (fX10_isNode M v) = 0) := c1
    rw [if_neg c1] at H
    refine Ev.go 1 (s' := (h, 9, [(0, .ref 73), (1, .int v)], [.int ((-1))])) rfl ?_
    have H := Option.some.inj H
    subst H
    exact Ev.ret rfl rfl (p_retZ rfl) ⟨rfl, xM, (fun k _ => rfl)⟩
def fX10_tag (n : Nat) (M : tM) (v : Int32) (tag : Int32) : Option (Int32 × tM) := (if (fX10_isNode M v) = 0 then some ((-1), M) else ((fX10_isTag tag).bind fun y3 => (if ¬ y3 = 0 then (if v < 0 ∨ 24 ≤ v.toNatClampNeg then none else (if ¬ ((M.2.1 3) v.toNatClampNeg) = tag then ((fX10_notes n M).bind fun y8 => some ((M.2.1 3) v.toNatClampNeg, (y8.1, va_up y8.2.1 3 (upd (y8.2.1 3) v.toNatClampNeg tag), y8.2.2))) else some ((-2), M))) else some ((-1), M))))
theorem spX10_tag {d n : Nat} {h : pH} {M : tM} (xM : isM h M) (v : Int32) (tag : Int32) {res : Int32 × tM} (H : fX10_tag n M v tag = some res) : Ev (d + 2) mX10_tag (h, 0, [(0, .ref 73), (1, .int v), (2, .int tag)], []) (fun r h1 => r = some (.int res.1) ∧ isM h1 res.2 ∧ fr [(73, 89)] h h1) := by
  unfold fX10_tag at H
  refine Ev.go 2 (s' := (h, 2, [(0, .ref 73), (1, .int v), (2, .int tag)], [.int v, .ref 73])) rfl ?_
  refine Ev.callE rfl rfl rfl (p_argsV (by decide) xM.1 (Nat.le_of_ble_eq_true rfl)) rfl (Nat.le_of_ble_eq_true rfl) (spX10_isNode xM v) ?_
  refine Ev.if1 rfl (fun c1 => ?_) (fun c1 => ?_)
  · have c1 : (fX10_isNode M v) = 0 := c1
    rw [if_pos c1] at H
    refine Ev.go 1 (s' := (h, 16, [(0, .ref 73), (1, .int v), (2, .int tag)], [.int ((-1))])) rfl ?_
    have H := Option.some.inj H
    subst H
    exact Ev.ret rfl rfl (p_retZ rfl) ⟨rfl, xM, (fun k _ => rfl)⟩
  · have c1 : ¬ ((fX10_isNode M v) = 0) := c1
    rw [if_neg c1] at H
    refine Ev.go 1 (s' := (h, 9, [(0, .ref 73), (1, .int v), (2, .int tag)], [.int tag])) rfl ?_
    obtain ⟨y3, e2, H⟩ := Option.bind_eq_some_iff.mp H
    refine Ev.callE rfl rfl rfl rfl rfl (Nat.le_of_ble_eq_true rfl) (spX10_isTag  tag e2) ?_
    refine Ev.if1 rfl (fun c4 => ?_) (fun c4 => ?_)
    · have c4 : ¬ y3 = 0 := c4
      rw [if_pos c4] at H
      refine Ev.go 1 (s' := (h, 18, [(0, .ref 73), (1, .int v), (2, .int tag)], [.ref 73])) rfl ?_
      refine Ev.get rfl (by decide) xM.1 rfl ?_
      refine Ev.go 1 (s' := (h, 22, [(0, .ref 73), (1, .int v), (2, .int tag)], [.int v, .ref 74])) rfl ?_
      have v5 : vp_in v 24 := fun q => by rw [if_pos q] at H; cases H
      rw [if_neg v5] at H
      refine Ev.iald rfl (by decide) xM.2.1 v5 ?_
      refine Ev.go 3 (s' := (h, 26, [(0, .ref 73), (1, .int v), (2, .int tag), (3, .int ((M.2.1 3) v.toNatClampNeg))], [.int tag, .int ((M.2.1 3) v.toNatClampNeg)])) rfl ?_
      refine Ev.if2 rfl (fun c6 => ?_) (fun c6 => ?_)
      · have c6 : ¬ ((M.2.1 3) v.toNatClampNeg) = tag := c6
        rw [if_pos c6] at H
        refine Ev.go 1 (s' := (h, 33, [(0, .ref 73), (1, .int v), (2, .int tag), (3, .int ((M.2.1 3) v.toNatClampNeg))], [.ref 73])) rfl ?_
        obtain ⟨y8, e7, H⟩ := Option.bind_eq_some_iff.mp H
        refine Ev.call rfl rfl rfl (p_argsV (by decide) xM.1 (Nat.le_of_ble_eq_true rfl)) rfl (Nat.le_of_ble_eq_true rfl) ((spX10_notes xM  e7).mono (fun r h9 q10 => ?_))
        obtain ⟨rfl, q10_M, q10_f⟩ := q10
        refine Ev.go 1 (s' := (h9, 37, [(0, .ref 73), (1, .int v), (2, .int tag), (3, .int ((M.2.1 3) v.toNatClampNeg))], [.ref 73])) rfl ?_
        refine Ev.get rfl (by decide) q10_M.1 rfl ?_
        refine Ev.go 2 (s' := (h9, 42, [(0, .ref 73), (1, .int v), (2, .int tag), (3, .int ((M.2.1 3) v.toNatClampNeg))], [.int tag, .int v, .ref 74])) rfl ?_
        refine Ev.iast rfl (by decide) q10_M.2.1 v5 ?_
        refine Ev.go 1 (s' := ((pu h9 74 (eI 24 (upd (y8.2.1 3) v.toNatClampNeg tag))), 44, [(0, .ref 73), (1, .int v), (2, .int tag), (3, .int ((M.2.1 3) v.toNatClampNeg))], [.int ((M.2.1 3) v.toNatClampNeg)])) rfl ?_
        have H := Option.some.inj H
        subst H
        exact Ev.ret rfl rfl (p_retZ rfl) ⟨rfl, ⟨(pu_n (by decide) q10_M.1), pu_s, (pu_n (by decide) q10_M.2.2.1), (pu_n (by decide) q10_M.2.2.2.1), (pu_n (by decide) q10_M.2.2.2.2.1), (pu_n (by decide) q10_M.2.2.2.2.2.1), (pu_n (by decide) q10_M.2.2.2.2.2.2.1), (pu_n (by decide) q10_M.2.2.2.2.2.2.2.1), (pu_n (by decide) q10_M.2.2.2.2.2.2.2.2.1), (pu_n (by decide) q10_M.2.2.2.2.2.2.2.2.2.1), (pu_n (by decide) q10_M.2.2.2.2.2.2.2.2.2.2.1), (pu_n (by decide) q10_M.2.2.2.2.2.2.2.2.2.2.2.1), (pu_n (by decide) q10_M.2.2.2.2.2.2.2.2.2.2.2.2.1), (pu_n (by decide) q10_M.2.2.2.2.2.2.2.2.2.2.2.2.2.1), (pu_n (by decide) q10_M.2.2.2.2.2.2.2.2.2.2.2.2.2.2.1), (pu_n (by decide) q10_M.2.2.2.2.2.2.2.2.2.2.2.2.2.2.2)⟩, (fun k hk => by rw [pu_x (show k ≠ 74 from fun e => by have := hk; simp at this; omega)]; rw [q10_f k (by have := hk; simp at this ⊢; omega)])⟩
      · have c6 : ¬ (¬ ((M.2.1 3) v.toNatClampNeg) = tag) := c6
        rw [if_neg c6] at H
        refine Ev.go 1 (s' := (h, 31, [(0, .ref 73), (1, .int v), (2, .int tag), (3, .int ((M.2.1 3) v.toNatClampNeg))], [.int ((-2))])) rfl ?_
        have H := Option.some.inj H
        subst H
        exact Ev.ret rfl rfl (p_retZ rfl) ⟨rfl, xM, (fun k _ => rfl)⟩
    · have c4 : ¬ (¬ y3 = 0) := c4
      rw [if_neg c4] at H
      refine Ev.go 1 (s' := (h, 16, [(0, .ref 73), (1, .int v), (2, .int tag)], [.int ((-1))])) rfl ?_
      have H := Option.some.inj H
      subst H
      exact Ev.ret rfl rfl (p_retZ rfl) ⟨rfl, xM, (fun k _ => rfl)⟩
def fX10_undo (n : Nat) (M : tM) : Option (Int32 × tM) := (if ¬ (M.1 7) = 0 then ((fX10_takes_77 n (va_up M.1 7 ((M.1 7) - 1), M.2.1, M.2.2) (75 * ((M.1 7) - 1))).bind fun y3 => some (y3.1 7, y3)) else some ((-2), M))
theorem spX10_undo {d n : Nat} {h : pH} {M : tM} (xM : isM h M) {res : Int32 × tM} (H : fX10_undo n M = some res) : Ev (d + 1) mX10_undo (h, 0, [(0, .ref 73)], []) (fun r h1 => r = some (.int res.1) ∧ isM h1 res.2 ∧ fr [(73, 89)] h h1) := by
  unfold fX10_undo at H
  refine Ev.go 1 (s' := (h, 1, [(0, .ref 73)], [.ref 73])) rfl ?_
  refine Ev.get rfl (by decide) xM.1 rfl ?_
  refine Ev.if1 rfl (fun c1 => ?_) (fun c1 => ?_)
  · have c1 : ¬ (M.1 7) = 0 := c1
    rw [if_pos c1] at H
    refine Ev.go 2 (s' := (h, 12, [(0, .ref 73)], [.ref 73, .ref 73])) rfl ?_
    refine Ev.get rfl (by decide) xM.1 rfl ?_
    refine Ev.go 2 (s' := (h, 17, [(0, .ref 73)], [.int ((M.1 7) - 1), .ref 73])) rfl ?_
    refine Ev.put rfl rfl (by decide) xM.1 (Nat.le_of_ble_eq_true rfl) rfl rfl (fs' := [.int (M.1 0), .int (M.1 1), .int (M.1 2), .ref 74, .ref 75, .ref 76, .ref 77, .int ((M.1 7) - 1), .ref 78, .int (M.1 9), .ref 79, .int (M.1 11), .int (M.1 12), .int (M.1 13), .ref 80, .int (M.1 15), .int (M.1 16), .ref 81, .ref 82, .ref 83, .int (M.1 20), .int (M.1 21), .ref 84, .ref 85, .ref 86, .ref 87, .ref 88]) rfl ?_
    refine Ev.go 2 (s' := ((pu h 73 (eO 9 [.int (M.1 0), .int (M.1 1), .int (M.1 2), .ref 74, .ref 75, .ref 76, .ref 77, .int ((M.1 7) - 1), .ref 78, .int (M.1 9), .ref 79, .int (M.1 11), .int (M.1 12), .int (M.1 13), .ref 80, .int (M.1 15), .int (M.1 16), .ref 81, .ref 82, .ref 83, .int (M.1 20), .int (M.1 21), .ref 84, .ref 85, .ref 86, .ref 87, .ref 88])), 22, [(0, .ref 73)], [.ref 73, .ref 73])) rfl ?_
    refine Ev.get rfl (by decide) pu_s rfl ?_
    refine Ev.go 2 (s' := ((pu h 73 (eO 9 [.int (M.1 0), .int (M.1 1), .int (M.1 2), .ref 74, .ref 75, .ref 76, .ref 77, .int ((M.1 7) - 1), .ref 78, .int (M.1 9), .ref 79, .int (M.1 11), .int (M.1 12), .int (M.1 13), .ref 80, .int (M.1 15), .int (M.1 16), .ref 81, .ref 82, .ref 83, .int (M.1 20), .int (M.1 21), .ref 84, .ref 85, .ref 86, .ref 87, .ref 88])), 28, [(0, .ref 73)], [.ref 73, .int 75, .ref 77, .ref 73])) rfl ?_
    refine Ev.get rfl (by decide) pu_s rfl ?_
    refine Ev.go 1 (s' := ((pu h 73 (eO 9 [.int (M.1 0), .int (M.1 1), .int (M.1 2), .ref 74, .ref 75, .ref 76, .ref 77, .int ((M.1 7) - 1), .ref 78, .int (M.1 9), .ref 79, .int (M.1 11), .int (M.1 12), .int (M.1 13), .ref 80, .int (M.1 15), .int (M.1 16), .ref 81, .ref 82, .ref 83, .int (M.1 20), .int (M.1 21), .ref 84, .ref 85, .ref 86, .ref 87, .ref 88])), 32, [(0, .ref 73)], [.int (75 * ((M.1 7) - 1)), .ref 77, .ref 73])) rfl ?_
    obtain ⟨y3, e2, H⟩ := Option.bind_eq_some_iff.mp H
    refine Ev.call rfl rfl rfl (p_argsV (by decide) pu_s (Nat.le_of_ble_eq_true rfl)) rfl (Nat.le_of_ble_eq_true rfl) ((spX10_takes_77 (h := (pu h 73 (eO 9 [.int (M.1 0), .int (M.1 1), .int (M.1 2), .ref 74, .ref 75, .ref 76, .ref 77, .int ((M.1 7) - 1), .ref 78, .int (M.1 9), .ref 79, .int (M.1 11), .int (M.1 12), .int (M.1 13), .ref 80, .int (M.1 15), .int (M.1 16), .ref 81, .ref 82, .ref 83, .int (M.1 20), .int (M.1 21), .ref 84, .ref 85, .ref 86, .ref 87, .ref 88]))) (M := (va_up M.1 7 ((M.1 7) - 1), M.2.1, M.2.2)) ⟨pu_s, (pu_n (by decide) xM.2.1), (pu_n (by decide) xM.2.2.1), (pu_n (by decide) xM.2.2.2.1), (pu_n (by decide) xM.2.2.2.2.1), (pu_n (by decide) xM.2.2.2.2.2.1), (pu_n (by decide) xM.2.2.2.2.2.2.1), (pu_n (by decide) xM.2.2.2.2.2.2.2.1), (pu_n (by decide) xM.2.2.2.2.2.2.2.2.1), (pu_n (by decide) xM.2.2.2.2.2.2.2.2.2.1), (pu_n (by decide) xM.2.2.2.2.2.2.2.2.2.2.1), (pu_n (by decide) xM.2.2.2.2.2.2.2.2.2.2.2.1), (pu_n (by decide) xM.2.2.2.2.2.2.2.2.2.2.2.2.1), (pu_n (by decide) xM.2.2.2.2.2.2.2.2.2.2.2.2.2.1), (pu_n (by decide) xM.2.2.2.2.2.2.2.2.2.2.2.2.2.2.1), (pu_n (by decide) xM.2.2.2.2.2.2.2.2.2.2.2.2.2.2.2)⟩ (75 * ((M.1 7) - 1)) e2).mono (fun r h4 q5 => ?_))
    obtain ⟨rfl, q5_M, q5_f⟩ := q5
    refine Ev.go 1 (s' := (h4, 36, [(0, .ref 73)], [.ref 73])) rfl ?_
    refine Ev.get rfl (by decide) q5_M.1 rfl ?_
    have H := Option.some.inj H
    subst H
    exact Ev.ret rfl rfl (p_retZ rfl) ⟨rfl, q5_M, (fun k hk => by rw [q5_f k (by have := hk; simp at this ⊢; omega)]; rw [pu_x (show k ≠ 73 from fun e => by have := hk; simp at this; omega)])⟩
  · have c1 : ¬ (¬ (M.1 7) = 0) := c1
    rw [if_neg c1] at H
    refine Ev.go 1 (s' := (h, 9, [(0, .ref 73)], [.int ((-2))])) rfl ?_
    have H := Option.some.inj H
    subst H
    exact Ev.ret rfl rfl (p_retZ rfl) ⟨rfl, xM, (fun k _ => rfl)⟩
def fX10_keep (n : Nat) (M : tM) : Option (Int32 × tM) := (if ¬ (M.1 9) = 2 then ((fX10_lays_78 n M (75 * (M.1 9))).bind fun y3 => some ((y3.1 9) + 1, (va_up y3.1 9 ((y3.1 9) + 1), y3.2.1, y3.2.2))) else some ((-3), M))
theorem spX10_keep {d n : Nat} {h : pH} {M : tM} (xM : isM h M) {res : Int32 × tM} (H : fX10_keep n M = some res) : Ev (d + 1) mX10_keep (h, 0, [(0, .ref 73)], []) (fun r h1 => r = some (.int res.1) ∧ isM h1 res.2 ∧ fr [(73, 89)] h h1) := by
  unfold fX10_keep at H
  refine Ev.go 1 (s' := (h, 1, [(0, .ref 73)], [.ref 73])) rfl ?_
  refine Ev.get rfl (by decide) xM.1 rfl ?_
  refine Ev.go 1 (s' := (h, 5, [(0, .ref 73)], [.int 2, .int (M.1 9)])) rfl ?_
  refine Ev.if2 rfl (fun c1 => ?_) (fun c1 => ?_)
  · have c1 : ¬ (M.1 9) = 2 := c1
    rw [if_pos c1] at H
    refine Ev.go 2 (s' := (h, 13, [(0, .ref 73)], [.ref 73, .ref 73])) rfl ?_
    refine Ev.get rfl (by decide) xM.1 rfl ?_
    refine Ev.go 2 (s' := (h, 19, [(0, .ref 73)], [.ref 73, .int 75, .ref 78, .ref 73])) rfl ?_
    refine Ev.get rfl (by decide) xM.1 rfl ?_
    refine Ev.go 1 (s' := (h, 23, [(0, .ref 73)], [.int (75 * (M.1 9)), .ref 78, .ref 73])) rfl ?_
    obtain ⟨y3, e2, H⟩ := Option.bind_eq_some_iff.mp H
    refine Ev.call rfl rfl rfl (p_argsV (by decide) xM.1 (Nat.le_of_ble_eq_true rfl)) rfl (Nat.le_of_ble_eq_true rfl) ((spX10_lays_78 xM (75 * (M.1 9)) e2).mono (fun r h4 q5 => ?_))
    obtain ⟨rfl, q5_M, q5_f⟩ := q5
    refine Ev.go 2 (s' := (h4, 28, [(0, .ref 73)], [.ref 73, .ref 73])) rfl ?_
    refine Ev.get rfl (by decide) q5_M.1 rfl ?_
    refine Ev.go 2 (s' := (h4, 33, [(0, .ref 73)], [.int ((y3.1 9) + 1), .ref 73])) rfl ?_
    refine Ev.put rfl rfl (by decide) q5_M.1 (Nat.le_of_ble_eq_true rfl) rfl rfl (fs' := [.int (y3.1 0), .int (y3.1 1), .int (y3.1 2), .ref 74, .ref 75, .ref 76, .ref 77, .int (y3.1 7), .ref 78, .int ((y3.1 9) + 1), .ref 79, .int (y3.1 11), .int (y3.1 12), .int (y3.1 13), .ref 80, .int (y3.1 15), .int (y3.1 16), .ref 81, .ref 82, .ref 83, .int (y3.1 20), .int (y3.1 21), .ref 84, .ref 85, .ref 86, .ref 87, .ref 88]) rfl ?_
    refine Ev.go 1 (s' := ((pu h4 73 (eO 9 [.int (y3.1 0), .int (y3.1 1), .int (y3.1 2), .ref 74, .ref 75, .ref 76, .ref 77, .int (y3.1 7), .ref 78, .int ((y3.1 9) + 1), .ref 79, .int (y3.1 11), .int (y3.1 12), .int (y3.1 13), .ref 80, .int (y3.1 15), .int (y3.1 16), .ref 81, .ref 82, .ref 83, .int (y3.1 20), .int (y3.1 21), .ref 84, .ref 85, .ref 86, .ref 87, .ref 88])), 37, [(0, .ref 73)], [.ref 73])) rfl ?_
    refine Ev.get rfl (by decide) pu_s rfl ?_
    have H := Option.some.inj H
    subst H
    exact Ev.ret rfl rfl (p_retZ rfl) ⟨rfl, ⟨pu_s, (pu_n (by decide) q5_M.2.1), (pu_n (by decide) q5_M.2.2.1), (pu_n (by decide) q5_M.2.2.2.1), (pu_n (by decide) q5_M.2.2.2.2.1), (pu_n (by decide) q5_M.2.2.2.2.2.1), (pu_n (by decide) q5_M.2.2.2.2.2.2.1), (pu_n (by decide) q5_M.2.2.2.2.2.2.2.1), (pu_n (by decide) q5_M.2.2.2.2.2.2.2.2.1), (pu_n (by decide) q5_M.2.2.2.2.2.2.2.2.2.1), (pu_n (by decide) q5_M.2.2.2.2.2.2.2.2.2.2.1), (pu_n (by decide) q5_M.2.2.2.2.2.2.2.2.2.2.2.1), (pu_n (by decide) q5_M.2.2.2.2.2.2.2.2.2.2.2.2.1), (pu_n (by decide) q5_M.2.2.2.2.2.2.2.2.2.2.2.2.2.1), (pu_n (by decide) q5_M.2.2.2.2.2.2.2.2.2.2.2.2.2.2.1), (pu_n (by decide) q5_M.2.2.2.2.2.2.2.2.2.2.2.2.2.2.2)⟩, (fun k hk => by rw [pu_x (show k ≠ 73 from fun e => by have := hk; simp at this; omega)]; rw [q5_f k (by have := hk; simp at this ⊢; omega)])⟩
  · have c1 : ¬ (¬ (M.1 9) = 2) := c1
    rw [if_neg c1] at H
    refine Ev.go 1 (s' := (h, 10, [(0, .ref 73)], [.int ((-3))])) rfl ?_
    have H := Option.some.inj H
    subst H
    exact Ev.ret rfl rfl (p_retZ rfl) ⟨rfl, xM, (fun k _ => rfl)⟩
def fX10_back (n : Nat) (M : tM) : Option (Int32 × tM) := (if ¬ (M.1 9) = 0 then ((fX10_takes_78 n (va_up M.1 9 ((M.1 9) - 1), M.2.1, M.2.2) (75 * ((M.1 9) - 1))).bind fun y3 => some (y3.1 9, (va_up y3.1 7 0, y3.2.1, y3.2.2))) else some ((-2), M))
theorem spX10_back {d n : Nat} {h : pH} {M : tM} (xM : isM h M) {res : Int32 × tM} (H : fX10_back n M = some res) : Ev (d + 1) mX10_back (h, 0, [(0, .ref 73)], []) (fun r h1 => r = some (.int res.1) ∧ isM h1 res.2 ∧ fr [(73, 89)] h h1) := by
  unfold fX10_back at H
  refine Ev.go 1 (s' := (h, 1, [(0, .ref 73)], [.ref 73])) rfl ?_
  refine Ev.get rfl (by decide) xM.1 rfl ?_
  refine Ev.if1 rfl (fun c1 => ?_) (fun c1 => ?_)
  · have c1 : ¬ (M.1 9) = 0 := c1
    rw [if_pos c1] at H
    refine Ev.go 2 (s' := (h, 12, [(0, .ref 73)], [.ref 73, .ref 73])) rfl ?_
    refine Ev.get rfl (by decide) xM.1 rfl ?_
    refine Ev.go 2 (s' := (h, 17, [(0, .ref 73)], [.int ((M.1 9) - 1), .ref 73])) rfl ?_
    refine Ev.put rfl rfl (by decide) xM.1 (Nat.le_of_ble_eq_true rfl) rfl rfl (fs' := [.int (M.1 0), .int (M.1 1), .int (M.1 2), .ref 74, .ref 75, .ref 76, .ref 77, .int (M.1 7), .ref 78, .int ((M.1 9) - 1), .ref 79, .int (M.1 11), .int (M.1 12), .int (M.1 13), .ref 80, .int (M.1 15), .int (M.1 16), .ref 81, .ref 82, .ref 83, .int (M.1 20), .int (M.1 21), .ref 84, .ref 85, .ref 86, .ref 87, .ref 88]) rfl ?_
    refine Ev.go 2 (s' := ((pu h 73 (eO 9 [.int (M.1 0), .int (M.1 1), .int (M.1 2), .ref 74, .ref 75, .ref 76, .ref 77, .int (M.1 7), .ref 78, .int ((M.1 9) - 1), .ref 79, .int (M.1 11), .int (M.1 12), .int (M.1 13), .ref 80, .int (M.1 15), .int (M.1 16), .ref 81, .ref 82, .ref 83, .int (M.1 20), .int (M.1 21), .ref 84, .ref 85, .ref 86, .ref 87, .ref 88])), 22, [(0, .ref 73)], [.ref 73, .ref 73])) rfl ?_
    refine Ev.get rfl (by decide) pu_s rfl ?_
    refine Ev.go 2 (s' := ((pu h 73 (eO 9 [.int (M.1 0), .int (M.1 1), .int (M.1 2), .ref 74, .ref 75, .ref 76, .ref 77, .int (M.1 7), .ref 78, .int ((M.1 9) - 1), .ref 79, .int (M.1 11), .int (M.1 12), .int (M.1 13), .ref 80, .int (M.1 15), .int (M.1 16), .ref 81, .ref 82, .ref 83, .int (M.1 20), .int (M.1 21), .ref 84, .ref 85, .ref 86, .ref 87, .ref 88])), 28, [(0, .ref 73)], [.ref 73, .int 75, .ref 78, .ref 73])) rfl ?_
    refine Ev.get rfl (by decide) pu_s rfl ?_
    refine Ev.go 1 (s' := ((pu h 73 (eO 9 [.int (M.1 0), .int (M.1 1), .int (M.1 2), .ref 74, .ref 75, .ref 76, .ref 77, .int (M.1 7), .ref 78, .int ((M.1 9) - 1), .ref 79, .int (M.1 11), .int (M.1 12), .int (M.1 13), .ref 80, .int (M.1 15), .int (M.1 16), .ref 81, .ref 82, .ref 83, .int (M.1 20), .int (M.1 21), .ref 84, .ref 85, .ref 86, .ref 87, .ref 88])), 32, [(0, .ref 73)], [.int (75 * ((M.1 9) - 1)), .ref 78, .ref 73])) rfl ?_
    obtain ⟨y3, e2, H⟩ := Option.bind_eq_some_iff.mp H
    refine Ev.call rfl rfl rfl (p_argsV (by decide) pu_s (Nat.le_of_ble_eq_true rfl)) rfl (Nat.le_of_ble_eq_true rfl) ((spX10_takes_78 (h := (pu h 73 (eO 9 [.int (M.1 0), .int (M.1 1), .int (M.1 2), .ref 74, .ref 75, .ref 76, .ref 77, .int (M.1 7), .ref 78, .int ((M.1 9) - 1), .ref 79, .int (M.1 11), .int (M.1 12), .int (M.1 13), .ref 80, .int (M.1 15), .int (M.1 16), .ref 81, .ref 82, .ref 83, .int (M.1 20), .int (M.1 21), .ref 84, .ref 85, .ref 86, .ref 87, .ref 88]))) (M := (va_up M.1 9 ((M.1 9) - 1), M.2.1, M.2.2)) ⟨pu_s, (pu_n (by decide) xM.2.1), (pu_n (by decide) xM.2.2.1), (pu_n (by decide) xM.2.2.2.1), (pu_n (by decide) xM.2.2.2.2.1), (pu_n (by decide) xM.2.2.2.2.2.1), (pu_n (by decide) xM.2.2.2.2.2.2.1), (pu_n (by decide) xM.2.2.2.2.2.2.2.1), (pu_n (by decide) xM.2.2.2.2.2.2.2.2.1), (pu_n (by decide) xM.2.2.2.2.2.2.2.2.2.1), (pu_n (by decide) xM.2.2.2.2.2.2.2.2.2.2.1), (pu_n (by decide) xM.2.2.2.2.2.2.2.2.2.2.2.1), (pu_n (by decide) xM.2.2.2.2.2.2.2.2.2.2.2.2.1), (pu_n (by decide) xM.2.2.2.2.2.2.2.2.2.2.2.2.2.1), (pu_n (by decide) xM.2.2.2.2.2.2.2.2.2.2.2.2.2.2.1), (pu_n (by decide) xM.2.2.2.2.2.2.2.2.2.2.2.2.2.2.2)⟩ (75 * ((M.1 9) - 1)) e2).mono (fun r h4 q5 => ?_))
    obtain ⟨rfl, q5_M, q5_f⟩ := q5
    refine Ev.go 2 (s' := (h4, 37, [(0, .ref 73)], [.int 0, .ref 73])) rfl ?_
    refine Ev.put rfl rfl (by decide) q5_M.1 (Nat.le_of_ble_eq_true rfl) rfl rfl (fs' := [.int (y3.1 0), .int (y3.1 1), .int (y3.1 2), .ref 74, .ref 75, .ref 76, .ref 77, .int 0, .ref 78, .int (y3.1 9), .ref 79, .int (y3.1 11), .int (y3.1 12), .int (y3.1 13), .ref 80, .int (y3.1 15), .int (y3.1 16), .ref 81, .ref 82, .ref 83, .int (y3.1 20), .int (y3.1 21), .ref 84, .ref 85, .ref 86, .ref 87, .ref 88]) rfl ?_
    refine Ev.go 1 (s' := ((pu h4 73 (eO 9 [.int (y3.1 0), .int (y3.1 1), .int (y3.1 2), .ref 74, .ref 75, .ref 76, .ref 77, .int 0, .ref 78, .int (y3.1 9), .ref 79, .int (y3.1 11), .int (y3.1 12), .int (y3.1 13), .ref 80, .int (y3.1 15), .int (y3.1 16), .ref 81, .ref 82, .ref 83, .int (y3.1 20), .int (y3.1 21), .ref 84, .ref 85, .ref 86, .ref 87, .ref 88])), 41, [(0, .ref 73)], [.ref 73])) rfl ?_
    refine Ev.get rfl (by decide) pu_s rfl ?_
    have H := Option.some.inj H
    subst H
    exact Ev.ret rfl rfl (p_retZ rfl) ⟨rfl, ⟨pu_s, (pu_n (by decide) q5_M.2.1), (pu_n (by decide) q5_M.2.2.1), (pu_n (by decide) q5_M.2.2.2.1), (pu_n (by decide) q5_M.2.2.2.2.1), (pu_n (by decide) q5_M.2.2.2.2.2.1), (pu_n (by decide) q5_M.2.2.2.2.2.2.1), (pu_n (by decide) q5_M.2.2.2.2.2.2.2.1), (pu_n (by decide) q5_M.2.2.2.2.2.2.2.2.1), (pu_n (by decide) q5_M.2.2.2.2.2.2.2.2.2.1), (pu_n (by decide) q5_M.2.2.2.2.2.2.2.2.2.2.1), (pu_n (by decide) q5_M.2.2.2.2.2.2.2.2.2.2.2.1), (pu_n (by decide) q5_M.2.2.2.2.2.2.2.2.2.2.2.2.1), (pu_n (by decide) q5_M.2.2.2.2.2.2.2.2.2.2.2.2.2.1), (pu_n (by decide) q5_M.2.2.2.2.2.2.2.2.2.2.2.2.2.2.1), (pu_n (by decide) q5_M.2.2.2.2.2.2.2.2.2.2.2.2.2.2.2)⟩, (fun k hk => by rw [pu_x (show k ≠ 73 from fun e => by have := hk; simp at this; omega)]; rw [q5_f k (by have := hk; simp at this ⊢; omega)]; rw [pu_x (show k ≠ 73 from fun e => by have := hk; simp at this; omega)])⟩
  · have c1 : ¬ (¬ (M.1 9) = 0) := c1
    rw [if_neg c1] at H
    refine Ev.go 1 (s' := (h, 9, [(0, .ref 73)], [.int ((-2))])) rfl ?_
    have H := Option.some.inj H
    subst H
    exact Ev.ret rfl rfl (p_retZ rfl) ⟨rfl, xM, (fun k _ => rfl)⟩
def fX10_between (n : Nat) (M : tM) (p : Int32) (place : Int32) (what : Int32) : Option (Int32) := (if (fX10_isNode M p) = 0 then some (-1) else ((fX10_childMany n M p).bind fun y3 => (if (fX10_in place 0 y3) = 0 then some (-1) else (if ¬ (fX10_in what 0 1) = 0 then ((fX10_keyFor n M p place).bind fun y7 => (if ¬ y7 = 0 then (if ¬ what = 0 then ((fX10_figuresOf n y7).bind fun y11 => some y11) else ((fX10_numberOf n y7).bind fun y13 => some y13)) else some (-4))) else some (-1)))))
theorem spX10_between {d n : Nat} {h : pH} {M : tM} (xM : isM h M) (p : Int32) (place : Int32) (what : Int32) {res : Int32} (H : fX10_between n M p place what = some res) : Ev (d + 4) mX10_between (h, 0, [(0, .ref 73), (1, .int p), (2, .int place), (3, .int what)], []) (fun r h1 => r = some (.int res) ∧ h1 = h) := by
  unfold fX10_between at H
  refine Ev.go 2 (s' := (h, 2, [(0, .ref 73), (1, .int p), (2, .int place), (3, .int what)], [.int p, .ref 73])) rfl ?_
  refine Ev.callE rfl rfl rfl (p_argsV (by decide) xM.1 (Nat.le_of_ble_eq_true rfl)) rfl (Nat.le_of_ble_eq_true rfl) (spX10_isNode xM p) ?_
  refine Ev.if1 rfl (fun c1 => ?_) (fun c1 => ?_)
  · have c1 : (fX10_isNode M p) = 0 := c1
    rw [if_pos c1] at H
    refine Ev.go 1 (s' := (h, 31, [(0, .ref 73), (1, .int p), (2, .int place), (3, .int what)], [.int ((-1))])) rfl ?_
    have H := Option.some.inj H
    subst H
    exact Ev.ret rfl rfl (p_retZ rfl) ⟨rfl, rfl⟩
  · have c1 : ¬ ((fX10_isNode M p) = 0) := c1
    rw [if_neg c1] at H
    refine Ev.go 4 (s' := (h, 12, [(0, .ref 73), (1, .int p), (2, .int place), (3, .int what)], [.int p, .ref 73, .int 0, .int place])) rfl ?_
    obtain ⟨y3, e2, H⟩ := Option.bind_eq_some_iff.mp H
    refine Ev.callE rfl rfl rfl (p_argsV (by decide) xM.1 (Nat.le_of_ble_eq_true rfl)) rfl (Nat.le_of_ble_eq_true rfl) (spX10_childMany xM p e2) ?_
    refine Ev.callE rfl rfl rfl rfl rfl (Nat.le_of_ble_eq_true rfl) (spX10_in  place 0 y3) ?_
    refine Ev.if1 rfl (fun c4 => ?_) (fun c4 => ?_)
    · have c4 : (fX10_in place 0 y3) = 0 := c4
      rw [if_pos c4] at H
      refine Ev.go 1 (s' := (h, 31, [(0, .ref 73), (1, .int p), (2, .int place), (3, .int what)], [.int ((-1))])) rfl ?_
      have H := Option.some.inj H
      subst H
      exact Ev.ret rfl rfl (p_retZ rfl) ⟨rfl, rfl⟩
    · have c4 : ¬ ((fX10_in place 0 y3) = 0) := c4
      rw [if_neg c4] at H
      refine Ev.go 3 (s' := (h, 24, [(0, .ref 73), (1, .int p), (2, .int place), (3, .int what)], [.int 1, .int 0, .int what])) rfl ?_
      refine Ev.callE rfl rfl rfl rfl rfl (Nat.le_of_ble_eq_true rfl) (spX10_in  what 0 1) ?_
      refine Ev.if1 rfl (fun c5 => ?_) (fun c5 => ?_)
      · have c5 : ¬ (fX10_in what 0 1) = 0 := c5
        rw [if_pos c5] at H
        refine Ev.go 3 (s' := (h, 35, [(0, .ref 73), (1, .int p), (2, .int place), (3, .int what)], [.int place, .int p, .ref 73])) rfl ?_
        obtain ⟨y7, e6, H⟩ := Option.bind_eq_some_iff.mp H
        refine Ev.callE rfl rfl rfl (p_argsV (by decide) xM.1 (Nat.le_of_ble_eq_true rfl)) rfl (Nat.le_of_ble_eq_true rfl) (spX10_keyFor xM p place e6) ?_
        refine Ev.go 2 (s' := (h, 42, [(0, .ref 73), (1, .int p), (2, .int place), (3, .int what), (4, .int y7)], [.int y7])) rfl ?_
        refine Ev.if1 rfl (fun c8 => ?_) (fun c8 => ?_)
        · have c8 : ¬ y7 = 0 := c8
          rw [if_pos c8] at H
          refine Ev.go 1 (s' := (h, 51, [(0, .ref 73), (1, .int p), (2, .int place), (3, .int what), (4, .int y7)], [.int what])) rfl ?_
          refine Ev.if1 rfl (fun c9 => ?_) (fun c9 => ?_)
          · have c9 : ¬ what = 0 := c9
            rw [if_pos c9] at H
            refine Ev.go 1 (s' := (h, 64, [(0, .ref 73), (1, .int p), (2, .int place), (3, .int what), (4, .int y7)], [.int y7])) rfl ?_
            obtain ⟨y11, e10, H⟩ := Option.bind_eq_some_iff.mp H
            refine Ev.callE rfl rfl rfl rfl rfl (Nat.le_of_ble_eq_true rfl) (spX10_figuresOf  y7 e10) ?_
            have H := Option.some.inj H
            subst H
            exact Ev.ret rfl rfl (p_retZ rfl) ⟨rfl, rfl⟩
          · have c9 : ¬ (¬ what = 0) := c9
            rw [if_neg c9] at H
            refine Ev.go 1 (s' := (h, 56, [(0, .ref 73), (1, .int p), (2, .int place), (3, .int what), (4, .int y7)], [.int y7])) rfl ?_
            obtain ⟨y13, e12, H⟩ := Option.bind_eq_some_iff.mp H
            refine Ev.callE rfl rfl rfl rfl rfl (Nat.le_of_ble_eq_true rfl) (spX10_numberOf  y7 e12) ?_
            refine Ev.go 1 (s' := (h, 67, [(0, .ref 73), (1, .int p), (2, .int place), (3, .int what), (4, .int y7)], [.int y13])) rfl ?_
            have H := Option.some.inj H
            subst H
            exact Ev.ret rfl rfl (p_retZ rfl) ⟨rfl, rfl⟩
        · have c8 : ¬ (¬ y7 = 0) := c8
          rw [if_neg c8] at H
          refine Ev.go 2 (s' := (h, 67, [(0, .ref 73), (1, .int p), (2, .int place), (3, .int what), (4, .int y7)], [.int ((-4))])) rfl ?_
          have H := Option.some.inj H
          subst H
          exact Ev.ret rfl rfl (p_retZ rfl) ⟨rfl, rfl⟩
      · have c5 : ¬ (¬ (fX10_in what 0 1) = 0) := c5
        rw [if_neg c5] at H
        refine Ev.go 1 (s' := (h, 31, [(0, .ref 73), (1, .int p), (2, .int place), (3, .int what)], [.int ((-1))])) rfl ?_
        have H := Option.some.inj H
        subst H
        exact Ev.ret rfl rfl (p_retZ rfl) ⟨rfl, rfl⟩
def fX10_ahead (n : Nat) (M : tM) (v : Int32) (w : Int32) : Option (Int32) := (if (fX10_isNode M v) = 0 then some (-1) else (if ¬ (fX10_isNode M w) = 0 then ((fX10_placeOf n M v).bind fun y4 => ((fX10_placeOf n M w).bind fun y6 => (if y6 ≤ y4 then some 0 else some 1))) else some (-1)))
theorem spX10_ahead {d n : Nat} {h : pH} {M : tM} (xM : isM h M) (v : Int32) (w : Int32) {res : Int32} (H : fX10_ahead n M v w = some res) : Ev (d + 4) mX10_ahead (h, 0, [(0, .ref 73), (1, .int v), (2, .int w)], []) (fun r h1 => r = some (.int res) ∧ h1 = h) := by
  unfold fX10_ahead at H
  refine Ev.go 2 (s' := (h, 2, [(0, .ref 73), (1, .int v), (2, .int w)], [.int v, .ref 73])) rfl ?_
  refine Ev.callE rfl rfl rfl (p_argsV (by decide) xM.1 (Nat.le_of_ble_eq_true rfl)) rfl (Nat.le_of_ble_eq_true rfl) (spX10_isNode xM v) ?_
  refine Ev.if1 rfl (fun c1 => ?_) (fun c1 => ?_)
  · have c1 : (fX10_isNode M v) = 0 := c1
    rw [if_pos c1] at H
    refine Ev.go 1 (s' := (h, 17, [(0, .ref 73), (1, .int v), (2, .int w)], [.int ((-1))])) rfl ?_
    have H := Option.some.inj H
    subst H
    exact Ev.ret rfl rfl (p_retZ rfl) ⟨rfl, rfl⟩
  · have c1 : ¬ ((fX10_isNode M v) = 0) := c1
    rw [if_neg c1] at H
    refine Ev.go 2 (s' := (h, 10, [(0, .ref 73), (1, .int v), (2, .int w)], [.int w, .ref 73])) rfl ?_
    refine Ev.callE rfl rfl rfl (p_argsV (by decide) xM.1 (Nat.le_of_ble_eq_true rfl)) rfl (Nat.le_of_ble_eq_true rfl) (spX10_isNode xM w) ?_
    refine Ev.if1 rfl (fun c2 => ?_) (fun c2 => ?_)
    · have c2 : ¬ (fX10_isNode M w) = 0 := c2
      rw [if_pos c2] at H
      refine Ev.go 2 (s' := (h, 20, [(0, .ref 73), (1, .int v), (2, .int w)], [.int v, .ref 73])) rfl ?_
      obtain ⟨y4, e3, H⟩ := Option.bind_eq_some_iff.mp H
      refine Ev.callE rfl rfl rfl (p_argsV (by decide) xM.1 (Nat.le_of_ble_eq_true rfl)) rfl (Nat.le_of_ble_eq_true rfl) (spX10_placeOf xM v e3) ?_
      refine Ev.go 2 (s' := (h, 25, [(0, .ref 73), (1, .int v), (2, .int w)], [.int w, .ref 73, .int y4])) rfl ?_
      obtain ⟨y6, e5, H⟩ := Option.bind_eq_some_iff.mp H
      refine Ev.callE rfl rfl rfl (p_argsV (by decide) xM.1 (Nat.le_of_ble_eq_true rfl)) rfl (Nat.le_of_ble_eq_true rfl) (spX10_placeOf xM w e5) ?_
      refine Ev.if2 rfl (fun c7 => ?_) (fun c7 => ?_)
      · have c7 : y6 ≤ y4 := c7
        rw [if_pos c7] at H
        refine Ev.go 1 (s' := (h, 36, [(0, .ref 73), (1, .int v), (2, .int w)], [.int 0])) rfl ?_
        have H := Option.some.inj H
        subst H
        exact Ev.ret rfl rfl (p_retZ rfl) ⟨rfl, rfl⟩
      · have c7 : ¬ (y6 ≤ y4) := c7
        rw [if_neg c7] at H
        refine Ev.go 2 (s' := (h, 36, [(0, .ref 73), (1, .int v), (2, .int w)], [.int 1])) rfl ?_
        have H := Option.some.inj H
        subst H
        exact Ev.ret rfl rfl (p_retZ rfl) ⟨rfl, rfl⟩
    · have c2 : ¬ (¬ (fX10_isNode M w) = 0) := c2
      rw [if_neg c2] at H
      refine Ev.go 1 (s' := (h, 17, [(0, .ref 73), (1, .int v), (2, .int w)], [.int ((-1))])) rfl ?_
      have H := Option.some.inj H
      subst H
      exact Ev.ret rfl rfl (p_retZ rfl) ⟨rfl, rfl⟩
def fX10_above (n : Nat) (M : tM) (v : Int32) (w : Int32) : Option (Int32) := (if (fX10_isNode M v) = 0 then some (-1) else (if ¬ (fX10_isNode M w) = 0 then (if v = w then some 0 else ((fX10_isOver n M v w).bind fun y5 => (if y5 = 0 then some 0 else some 1))) else some (-1)))
theorem spX10_above {d n : Nat} {h : pH} {M : tM} (xM : isM h M) (v : Int32) (w : Int32) {res : Int32} (H : fX10_above n M v w = some res) : Ev (d + 2) mX10_above (h, 0, [(0, .ref 73), (1, .int v), (2, .int w)], []) (fun r h1 => r = some (.int res) ∧ h1 = h) := by
  unfold fX10_above at H
  refine Ev.go 2 (s' := (h, 2, [(0, .ref 73), (1, .int v), (2, .int w)], [.int v, .ref 73])) rfl ?_
  refine Ev.callE rfl rfl rfl (p_argsV (by decide) xM.1 (Nat.le_of_ble_eq_true rfl)) rfl (Nat.le_of_ble_eq_true rfl) (spX10_isNode xM v) ?_
  refine Ev.if1 rfl (fun c1 => ?_) (fun c1 => ?_)
  · have c1 : (fX10_isNode M v) = 0 := c1
    rw [if_pos c1] at H
    refine Ev.go 1 (s' := (h, 17, [(0, .ref 73), (1, .int v), (2, .int w)], [.int ((-1))])) rfl ?_
    have H := Option.some.inj H
    subst H
    exact Ev.ret rfl rfl (p_retZ rfl) ⟨rfl, rfl⟩
  · have c1 : ¬ ((fX10_isNode M v) = 0) := c1
    rw [if_neg c1] at H
    refine Ev.go 2 (s' := (h, 10, [(0, .ref 73), (1, .int v), (2, .int w)], [.int w, .ref 73])) rfl ?_
    refine Ev.callE rfl rfl rfl (p_argsV (by decide) xM.1 (Nat.le_of_ble_eq_true rfl)) rfl (Nat.le_of_ble_eq_true rfl) (spX10_isNode xM w) ?_
    refine Ev.if1 rfl (fun c2 => ?_) (fun c2 => ?_)
    · have c2 : ¬ (fX10_isNode M w) = 0 := c2
      rw [if_pos c2] at H
      refine Ev.go 2 (s' := (h, 20, [(0, .ref 73), (1, .int v), (2, .int w)], [.int w, .int v])) rfl ?_
      refine Ev.if2 rfl (fun c3 => ?_) (fun c3 => ?_)
      · have c3 : v = w := c3
        rw [if_pos c3] at H
        refine Ev.go 1 (s' := (h, 37, [(0, .ref 73), (1, .int v), (2, .int w)], [.int 0])) rfl ?_
        have H := Option.some.inj H
        subst H
        exact Ev.ret rfl rfl (p_retZ rfl) ⟨rfl, rfl⟩
      · have c3 : ¬ (v = w) := c3
        rw [if_neg c3] at H
        refine Ev.go 3 (s' := (h, 26, [(0, .ref 73), (1, .int v), (2, .int w)], [.int w, .int v, .ref 73])) rfl ?_
        obtain ⟨y5, e4, H⟩ := Option.bind_eq_some_iff.mp H
        refine Ev.callE rfl rfl rfl (p_argsV (by decide) xM.1 (Nat.le_of_ble_eq_true rfl)) rfl (Nat.le_of_ble_eq_true rfl) (spX10_isOver xM v w e4) ?_
        refine Ev.if1 rfl (fun c6 => ?_) (fun c6 => ?_)
        · have c6 : y5 = 0 := c6
          rw [if_pos c6] at H
          refine Ev.go 1 (s' := (h, 37, [(0, .ref 73), (1, .int v), (2, .int w)], [.int 0])) rfl ?_
          have H := Option.some.inj H
          subst H
          exact Ev.ret rfl rfl (p_retZ rfl) ⟨rfl, rfl⟩
        · have c6 : ¬ (y5 = 0) := c6
          rw [if_neg c6] at H
          refine Ev.go 2 (s' := (h, 37, [(0, .ref 73), (1, .int v), (2, .int w)], [.int 1])) rfl ?_
          have H := Option.some.inj H
          subst H
          exact Ev.ret rfl rfl (p_retZ rfl) ⟨rfl, rfl⟩
    · have c2 : ¬ (¬ (fX10_isNode M w) = 0) := c2
      rw [if_neg c2] at H
      refine Ev.go 1 (s' := (h, 17, [(0, .ref 73), (1, .int v), (2, .int w)], [.int ((-1))])) rfl ?_
      have H := Option.some.inj H
      subst H
      exact Ev.ret rfl rfl (p_retZ rfl) ⟨rfl, rfl⟩
def lX10_meet_20 (n : Nat) (M : tM) : Nat → Int32 → Int32 → Option (Int32)
  | 0, _, _ => none
  | m + 1, x2, x3 => ((fX10_isOver n M x3 x2).bind fun y4 => (if ¬ y4 = 0 then some x3 else (if x3 < 0 ∨ 24 ≤ x3.toNatClampNeg then none else lX10_meet_20 n M m x2 ((M.2.1 4) x3.toNatClampNeg))))
theorem llX10_meet_20 {d n : Nat} {M : tM} : ∀ (m : Nat) (h : pH) (x2 : Int32) (x3 : Int32) (res : Int32), lX10_meet_20 n M m x2 x3 = some res → isM h M → Ev (d + 2) mX10_meet (h, 20, [(0, .ref 73), (2, .int x2), (3, .int x3)], []) (fun r h1 => r = some (.int res) ∧ h1 = h)
  | 0, h, x2, x3, res, H, _ => by cases H
  | m + 1, h, x2, x3, res, H, xM => by
    have H : ((fX10_isOver n M x3 x2).bind fun y4 => (if ¬ y4 = 0 then some x3 else (if x3 < 0 ∨ 24 ≤ x3.toNatClampNeg then none else lX10_meet_20 n M m x2 ((M.2.1 4) x3.toNatClampNeg)))) = some res := H
    refine Ev.go 3 (s' := (h, 23, [(0, .ref 73), (2, .int x2), (3, .int x3)], [.int x2, .int x3, .ref 73])) rfl ?_
    obtain ⟨y4, e3, H⟩ := Option.bind_eq_some_iff.mp H
    refine Ev.callE rfl rfl rfl (p_argsV (by decide) xM.1 (Nat.le_of_ble_eq_true rfl)) rfl (Nat.le_of_ble_eq_true rfl) (spX10_isOver xM x3 x2 e3) ?_
    refine Ev.if1 rfl (fun c5 => ?_) (fun c5 => ?_)
    · have c5 : ¬ y4 = 0 := c5
      rw [if_pos c5] at H
      refine Ev.go 1 (s' := (h, 40, [(0, .ref 73), (2, .int x2), (3, .int x3)], [.int x3])) rfl ?_
      have H := Option.some.inj H
      subst H
      exact Ev.ret rfl rfl (p_retZ rfl) ⟨rfl, rfl⟩
    · have c5 : ¬ (¬ y4 = 0) := c5
      rw [if_neg c5] at H
      refine Ev.go 1 (s' := (h, 30, [(0, .ref 73), (2, .int x2), (3, .int x3)], [.ref 73])) rfl ?_
      refine Ev.get rfl (by decide) xM.1 rfl ?_
      refine Ev.go 1 (s' := (h, 34, [(0, .ref 73), (2, .int x2), (3, .int x3)], [.int x3, .ref 75])) rfl ?_
      have v6 : vp_in x3 24 := fun q => by rw [if_pos q] at H; cases H
      rw [if_neg v6] at H
      refine Ev.iald rfl (by decide) xM.2.2.1 v6 ?_
      refine Ev.go 2 (s' := (h, 20, [(0, .ref 73), (2, .int x2), (3, .int ((M.2.1 4) x3.toNatClampNeg))], [])) rfl ?_
      refine Ev.live rfl (lv' := [(0, .ref 73), (2, .int x2), (3, .int ((M.2.1 4) x3.toNatClampNeg))]) rfl ?_
      exact llX10_meet_20 m h x2 ((M.2.1 4) x3.toNatClampNeg) _ H xM
def fX10_meet (n : Nat) (M : tM) (v : Int32) (w : Int32) : Option (Int32) := (if (fX10_isNode M v) = 0 then some (-1) else (if ¬ (fX10_isNode M w) = 0 then lX10_meet_20 n M n w v else some (-1)))
theorem spX10_meet {d n : Nat} {h : pH} {M : tM} (xM : isM h M) (v : Int32) (w : Int32) {res : Int32} (H : fX10_meet n M v w = some res) : Ev (d + 2) mX10_meet (h, 0, [(0, .ref 73), (1, .int v), (2, .int w)], []) (fun r h1 => r = some (.int res) ∧ h1 = h) := by
  unfold fX10_meet at H
  refine Ev.go 2 (s' := (h, 2, [(0, .ref 73), (1, .int v), (2, .int w)], [.int v, .ref 73])) rfl ?_
  refine Ev.callE rfl rfl rfl (p_argsV (by decide) xM.1 (Nat.le_of_ble_eq_true rfl)) rfl (Nat.le_of_ble_eq_true rfl) (spX10_isNode xM v) ?_
  refine Ev.if1 rfl (fun c1 => ?_) (fun c1 => ?_)
  · have c1 : (fX10_isNode M v) = 0 := c1
    rw [if_pos c1] at H
    refine Ev.go 1 (s' := (h, 17, [(0, .ref 73), (1, .int v), (2, .int w)], [.int ((-1))])) rfl ?_
    have H := Option.some.inj H
    subst H
    exact Ev.ret rfl rfl (p_retZ rfl) ⟨rfl, rfl⟩
  · have c1 : ¬ ((fX10_isNode M v) = 0) := c1
    rw [if_neg c1] at H
    refine Ev.go 2 (s' := (h, 10, [(0, .ref 73), (1, .int v), (2, .int w)], [.int w, .ref 73])) rfl ?_
    refine Ev.callE rfl rfl rfl (p_argsV (by decide) xM.1 (Nat.le_of_ble_eq_true rfl)) rfl (Nat.le_of_ble_eq_true rfl) (spX10_isNode xM w) ?_
    refine Ev.if1 rfl (fun c2 => ?_) (fun c2 => ?_)
    · have c2 : ¬ (fX10_isNode M w) = 0 := c2
      rw [if_pos c2] at H
      refine Ev.go 2 (s' := (h, 20, [(0, .ref 73), (1, .int v), (2, .int w), (3, .int v)], [])) rfl ?_
      refine Ev.live rfl (lv' := [(0, .ref 73), (2, .int w), (3, .int v)]) rfl ?_
      exact llX10_meet_20 n h w v _ H xM
    · have c2 : ¬ (¬ (fX10_isNode M w) = 0) := c2
      rw [if_neg c2] at H
      refine Ev.go 1 (s' := (h, 17, [(0, .ref 73), (1, .int v), (2, .int w)], [.int ((-1))])) rfl ?_
      have H := Option.some.inj H
      subst H
      exact Ev.ret rfl rfl (p_retZ rfl) ⟨rfl, rfl⟩
