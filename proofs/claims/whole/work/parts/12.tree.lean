/-! Tree: its methods as functions -/
def fX7_isNumber (v : Int32) : Int32 := (if v < 0 then 0 else (if 24 ≤ v then 0 else 1))
theorem spX7_isNumber {d : Nat} {h : pH}  (v : Int32) : Ev d mX7_isNumber (h, 0, [(0, .int v)], []) (fun r h1 => r = some (.int (fX7_isNumber v)) ∧ h1 = h) := by
  refine Ev.go 1 (s' := (h, 1, [(0, .int v)], [.int v])) rfl ?_
  refine Ev.if1 rfl (fun c1 => ?_) (fun c1 => ?_)
  · have c1 : v < 0 := c1
    refine Ev.go 1 (s' := (h, 15, [(0, .int v)], [.int 0])) rfl ?_
    exact Ev.ret rfl rfl (p_retZ rfl) ⟨congrArg (fun z => some (Value.int z)) (by rw [fX7_isNumber, if_pos c1]), rfl⟩
  · have c1 : ¬ (v < 0) := c1
    refine Ev.go 2 (s' := (h, 7, [(0, .int v)], [.int 24, .int v])) rfl ?_
    refine Ev.if2 rfl (fun c2 => ?_) (fun c2 => ?_)
    · have c2 : 24 ≤ v := c2
      refine Ev.go 1 (s' := (h, 15, [(0, .int v)], [.int 0])) rfl ?_
      exact Ev.ret rfl rfl (p_retZ rfl) ⟨congrArg (fun z => some (Value.int z)) (by rw [fX7_isNumber, if_neg c1, if_pos c2]), rfl⟩
    · have c2 : ¬ (24 ≤ v) := c2
      refine Ev.go 2 (s' := (h, 15, [(0, .int v)], [.int 1])) rfl ?_
      exact Ev.ret rfl rfl (p_retZ rfl) ⟨congrArg (fun z => some (Value.int z)) (by rw [fX7_isNumber, if_neg c1, if_neg c2]), rfl⟩
theorem vnX7 {v : Int32} (c : ¬ fX7_isNumber v = 0) : vp_in v 24 := by
  unfold fX7_isNumber at c
  split at c
  · exact absurd rfl c
  · split at c
    · exact absurd rfl c
    · rename_i h0 h1
      exact vi_of (m := 24) rfl h0 (by rw [Int32.lt_iff_toInt_lt]; rw [Int32.le_iff_toInt_le] at h1; omega)
def fX7_isThere (T : tT) (v : Int32) : Int32 := (if (fX7_isNumber v) = 0 then 0 else (if ¬ ((T.2.2.2.1 >>> (v &&& 31)) &&& 1) = 1 then 0 else 1))
theorem spX7_isThere {d : Nat} {h : pH} {t : Nat} {T : tT} (xT : isT h t T) (v : Int32) : Ev (d + 1) mX7_isThere (h, 0, [(0, .ref t), (1, .int v)], []) (fun r h1 => r = some (.int (fX7_isThere T v)) ∧ h1 = h) := by
  refine Ev.go 1 (s' := (h, 1, [(0, .ref t), (1, .int v)], [.int v])) rfl ?_
  refine Ev.callE rfl rfl rfl rfl rfl (Nat.le_of_ble_eq_true rfl) (spX7_isNumber  v) ?_
  refine Ev.if1 rfl (fun c1 => ?_) (fun c1 => ?_)
  · have c1 : (fX7_isNumber v) = 0 := c1
    refine Ev.go 1 (s' := (h, 24, [(0, .ref t), (1, .int v)], [.int 0])) rfl ?_
    exact Ev.ret rfl rfl (p_retZ rfl) ⟨congrArg (fun z => some (Value.int z)) (by rw [fX7_isThere, if_pos c1]), rfl⟩
  · have c1 : ¬ ((fX7_isNumber v) = 0) := c1
    refine Ev.go 1 (s' := (h, 8, [(0, .ref t), (1, .int v)], [.ref t])) rfl ?_
    refine Ev.get rfl (by have := xT.2.2.2.2; omega) xT.1 rfl ?_
    refine Ev.go 5 (s' := (h, 16, [(0, .ref t), (1, .int v)], [.int 1, .int ((T.2.2.2.1 >>> (v &&& 31)) &&& 1)])) rfl ?_
    refine Ev.if2 rfl (fun c2 => ?_) (fun c2 => ?_)
    · have c2 : ¬ ((T.2.2.2.1 >>> (v &&& 31)) &&& 1) = 1 := c2
      refine Ev.go 1 (s' := (h, 24, [(0, .ref t), (1, .int v)], [.int 0])) rfl ?_
      exact Ev.ret rfl rfl (p_retZ rfl) ⟨congrArg (fun z => some (Value.int z)) (by rw [fX7_isThere, if_neg c1, if_pos c2]), rfl⟩
    · have c2 : ¬ (¬ ((T.2.2.2.1 >>> (v &&& 31)) &&& 1) = 1) := c2
      refine Ev.go 2 (s' := (h, 24, [(0, .ref t), (1, .int v)], [.int 1])) rfl ?_
      exact Ev.ret rfl rfl (p_retZ rfl) ⟨congrArg (fun z => some (Value.int z)) (by rw [fX7_isThere, if_neg c1, if_neg c2]), rfl⟩
def fX7_isFull (T : tT) : Int32 := (if T.2.2.2.2.1 < 24 then 0 else 1)
theorem spX7_isFull {d : Nat} {h : pH} {t : Nat} {T : tT} (xT : isT h t T) : Ev d mX7_isFull (h, 0, [(0, .ref t)], []) (fun r h1 => r = some (.int (fX7_isFull T)) ∧ h1 = h) := by
  refine Ev.go 1 (s' := (h, 1, [(0, .ref t)], [.ref t])) rfl ?_
  refine Ev.get rfl (by have := xT.2.2.2.2; omega) xT.1 rfl ?_
  refine Ev.go 1 (s' := (h, 6, [(0, .ref t)], [.int 24, .int T.2.2.2.2.1])) rfl ?_
  refine Ev.if2 rfl (fun c1 => ?_) (fun c1 => ?_)
  · have c1 : T.2.2.2.2.1 < 24 := c1
    refine Ev.go 1 (s' := (h, 14, [(0, .ref t)], [.int 0])) rfl ?_
    exact Ev.ret rfl rfl (p_retZ rfl) ⟨congrArg (fun z => some (Value.int z)) (by rw [fX7_isFull, if_pos c1]), rfl⟩
  · have c1 : ¬ (T.2.2.2.2.1 < 24) := c1
    refine Ev.go 2 (s' := (h, 14, [(0, .ref t)], [.int 1])) rfl ?_
    exact Ev.ret rfl rfl (p_retZ rfl) ⟨congrArg (fun z => some (Value.int z)) (by rw [fX7_isFull, if_neg c1]), rfl⟩
def fX7_came (T : tT) : Int32 := T.2.2.2.2.1
theorem spX7_came {d : Nat} {h : pH} {t : Nat} {T : tT} (xT : isT h t T) : Ev d mX7_came (h, 0, [(0, .ref t)], []) (fun r h1 => r = some (.int (fX7_came T)) ∧ h1 = h) := by
  refine Ev.go 1 (s' := (h, 1, [(0, .ref t)], [.ref t])) rfl ?_
  refine Ev.get rfl (by have := xT.2.2.2.2; omega) xT.1 rfl ?_
  exact Ev.ret rfl rfl (p_retZ rfl) ⟨congrArg (fun z => some (Value.int z)) (by rw [fX7_came]), rfl⟩
def fX7_kind (T : tT) : Int32 := T.2.2.2.2.2
theorem spX7_kind {d : Nat} {h : pH} {t : Nat} {T : tT} (xT : isT h t T) : Ev d mX7_kind (h, 0, [(0, .ref t)], []) (fun r h1 => r = some (.int (fX7_kind T)) ∧ h1 = h) := by
  refine Ev.go 1 (s' := (h, 1, [(0, .ref t)], [.ref t])) rfl ?_
  refine Ev.get rfl (by have := xT.2.2.2.2; omega) xT.1 rfl ?_
  exact Ev.ret rfl rfl (p_retZ rfl) ⟨congrArg (fun z => some (Value.int z)) (by rw [fX7_kind]), rfl⟩
def fX7_bits (T : tT) : Int32 := T.2.2.2.1
theorem spX7_bits {d : Nat} {h : pH} {t : Nat} {T : tT} (xT : isT h t T) : Ev d mX7_bits (h, 0, [(0, .ref t)], []) (fun r h1 => r = some (.int (fX7_bits T)) ∧ h1 = h) := by
  refine Ev.go 1 (s' := (h, 1, [(0, .ref t)], [.ref t])) rfl ?_
  refine Ev.get rfl (by have := xT.2.2.2.2; omega) xT.1 rfl ?_
  exact Ev.ret rfl rfl (p_retZ rfl) ⟨congrArg (fun z => some (Value.int z)) (by rw [fX7_bits]), rfl⟩
def fX7_tagOf (T : tT) (v : Int32) : Int32 := (if (fX7_isNumber v) = 0 then (-1) else T.1 v.toNatClampNeg)
theorem spX7_tagOf {d : Nat} {h : pH} {t : Nat} {T : tT} (xT : isT h t T) (v : Int32) : Ev (d + 1) mX7_tagOf (h, 0, [(0, .ref t), (1, .int v)], []) (fun r h1 => r = some (.int (fX7_tagOf T v)) ∧ h1 = h) := by
  refine Ev.go 1 (s' := (h, 1, [(0, .ref t), (1, .int v)], [.int v])) rfl ?_
  refine Ev.callE rfl rfl rfl rfl rfl (Nat.le_of_ble_eq_true rfl) (spX7_isNumber  v) ?_
  refine Ev.if1 rfl (fun c1 => ?_) (fun c1 => ?_)
  · have c1 : (fX7_isNumber v) = 0 := c1
    refine Ev.go 1 (s' := (h, 17, [(0, .ref t), (1, .int v)], [.int ((-1))])) rfl ?_
    exact Ev.ret rfl rfl (p_retZ rfl) ⟨congrArg (fun z => some (Value.int z)) (by rw [fX7_tagOf, if_pos c1]), rfl⟩
  · have c1 : ¬ ((fX7_isNumber v) = 0) := c1
    refine Ev.go 1 (s' := (h, 8, [(0, .ref t), (1, .int v)], [.ref t])) rfl ?_
    refine Ev.get rfl (by have := xT.2.2.2.2; omega) xT.1 rfl ?_
    refine Ev.go 1 (s' := (h, 12, [(0, .ref t), (1, .int v)], [.int v, .ref (t + 1)])) rfl ?_
    refine Ev.iald rfl (by have := xT.2.2.2.2; omega) xT.2.1 (vnX7 c1) ?_
    refine Ev.go 1 (s' := (h, 17, [(0, .ref t), (1, .int v)], [.int (T.1 v.toNatClampNeg)])) rfl ?_
    exact Ev.ret rfl rfl (p_retZ rfl) ⟨congrArg (fun z => some (Value.int z)) (by rw [fX7_tagOf, if_neg c1]), rfl⟩
def fX7_parentOf (T : tT) (v : Int32) : Int32 := (if (fX7_isNumber v) = 0 then (-1) else T.2.1 v.toNatClampNeg)
theorem spX7_parentOf {d : Nat} {h : pH} {t : Nat} {T : tT} (xT : isT h t T) (v : Int32) : Ev (d + 1) mX7_parentOf (h, 0, [(0, .ref t), (1, .int v)], []) (fun r h1 => r = some (.int (fX7_parentOf T v)) ∧ h1 = h) := by
  refine Ev.go 1 (s' := (h, 1, [(0, .ref t), (1, .int v)], [.int v])) rfl ?_
  refine Ev.callE rfl rfl rfl rfl rfl (Nat.le_of_ble_eq_true rfl) (spX7_isNumber  v) ?_
  refine Ev.if1 rfl (fun c1 => ?_) (fun c1 => ?_)
  · have c1 : (fX7_isNumber v) = 0 := c1
    refine Ev.go 1 (s' := (h, 17, [(0, .ref t), (1, .int v)], [.int ((-1))])) rfl ?_
    exact Ev.ret rfl rfl (p_retZ rfl) ⟨congrArg (fun z => some (Value.int z)) (by rw [fX7_parentOf, if_pos c1]), rfl⟩
  · have c1 : ¬ ((fX7_isNumber v) = 0) := c1
    refine Ev.go 1 (s' := (h, 8, [(0, .ref t), (1, .int v)], [.ref t])) rfl ?_
    refine Ev.get rfl (by have := xT.2.2.2.2; omega) xT.1 rfl ?_
    refine Ev.go 1 (s' := (h, 12, [(0, .ref t), (1, .int v)], [.int v, .ref (t + 2)])) rfl ?_
    refine Ev.iald rfl (by have := xT.2.2.2.2; omega) xT.2.2.1 (vnX7 c1) ?_
    refine Ev.go 1 (s' := (h, 17, [(0, .ref t), (1, .int v)], [.int (T.2.1 v.toNatClampNeg)])) rfl ?_
    exact Ev.ret rfl rfl (p_retZ rfl) ⟨congrArg (fun z => some (Value.int z)) (by rw [fX7_parentOf, if_neg c1]), rfl⟩
def fX7_spotOf (T : tT) (v : Int32) : Int32 := (if (fX7_isNumber v) = 0 then 0 else T.2.2.1 v.toNatClampNeg)
theorem spX7_spotOf {d : Nat} {h : pH} {t : Nat} {T : tT} (xT : isT h t T) (v : Int32) : Ev (d + 1) mX7_spotOf (h, 0, [(0, .ref t), (1, .int v)], []) (fun r h1 => r = some (.int (fX7_spotOf T v)) ∧ h1 = h) := by
  refine Ev.go 1 (s' := (h, 1, [(0, .ref t), (1, .int v)], [.int v])) rfl ?_
  refine Ev.callE rfl rfl rfl rfl rfl (Nat.le_of_ble_eq_true rfl) (spX7_isNumber  v) ?_
  refine Ev.if1 rfl (fun c1 => ?_) (fun c1 => ?_)
  · have c1 : (fX7_isNumber v) = 0 := c1
    refine Ev.go 1 (s' := (h, 17, [(0, .ref t), (1, .int v)], [.int 0])) rfl ?_
    exact Ev.ret rfl rfl (p_retZ rfl) ⟨congrArg (fun z => some (Value.int z)) (by rw [fX7_spotOf, if_pos c1]), rfl⟩
  · have c1 : ¬ ((fX7_isNumber v) = 0) := c1
    refine Ev.go 1 (s' := (h, 8, [(0, .ref t), (1, .int v)], [.ref t])) rfl ?_
    refine Ev.get rfl (by have := xT.2.2.2.2; omega) xT.1 rfl ?_
    refine Ev.go 1 (s' := (h, 12, [(0, .ref t), (1, .int v)], [.int v, .ref (t + 3)])) rfl ?_
    refine Ev.iald rfl (by have := xT.2.2.2.2; omega) xT.2.2.2.1 (vnX7 c1) ?_
    refine Ev.go 1 (s' := (h, 17, [(0, .ref t), (1, .int v)], [.int (T.2.2.1 v.toNatClampNeg)])) rfl ?_
    exact Ev.ret rfl rfl (p_retZ rfl) ⟨congrArg (fun z => some (Value.int z)) (by rw [fX7_spotOf, if_neg c1]), rfl⟩
def lX7_kidsOf_4 (n : Nat) (T : tT) : Nat → Int32 → Int32 → Int32 → Option (Int32)
  | 0, _, _, _ => none
  | m + 1, x1, x2, x3 => (if 24 ≤ x3 then some x2 else (if (fX7_isThere T x3) = 0 then lX7_kidsOf_4 n T m x1 x2 (x3 + 1) else (if x3 < 0 ∨ 24 ≤ x3.toNatClampNeg then none else (if ¬ (T.2.1 x3.toNatClampNeg) = x1 then lX7_kidsOf_4 n T m x1 x2 (x3 + 1) else lX7_kidsOf_4 n T m x1 (x2 + 1) (x3 + 1)))))
theorem llX7_kidsOf_4 {d n : Nat} {t : Nat} {T : tT} : ∀ (m : Nat) (h : pH) (x1 : Int32) (x2 : Int32) (x3 : Int32) (res : Int32), lX7_kidsOf_4 n T m x1 x2 x3 = some res → isT h t T → Ev (d + 2) mX7_kidsOf (h, 4, [(0, .ref t), (1, .int x1), (2, .int x2), (3, .int x3)], []) (fun r h1 => r = some (.int res) ∧ h1 = h)
  | 0, h, x1, x2, x3, res, H, _ => by cases H
  | m + 1, h, x1, x2, x3, res, H, xT => by
    have H : (if 24 ≤ x3 then some x2 else (if (fX7_isThere T x3) = 0 then lX7_kidsOf_4 n T m x1 x2 (x3 + 1) else (if x3 < 0 ∨ 24 ≤ x3.toNatClampNeg then none else (if ¬ (T.2.1 x3.toNatClampNeg) = x1 then lX7_kidsOf_4 n T m x1 x2 (x3 + 1) else lX7_kidsOf_4 n T m x1 (x2 + 1) (x3 + 1))))) = some res := H
    refine Ev.go 2 (s' := (h, 7, [(0, .ref t), (1, .int x1), (2, .int x2), (3, .int x3)], [.int 24, .int x3])) rfl ?_
    refine Ev.if2 rfl (fun c1 => ?_) (fun c1 => ?_)
    · have c1 : 24 ≤ x3 := c1
      rw [if_pos c1] at H
      refine Ev.go 1 (s' := (h, 38, [(0, .ref t), (1, .int x1), (2, .int x2), (3, .int x3)], [.int x2])) rfl ?_
      have H := Option.some.inj H
      subst H
      exact Ev.ret rfl rfl (p_retZ rfl) ⟨rfl, rfl⟩
    · have c1 : ¬ (24 ≤ x3) := c1
      rw [if_neg c1] at H
      refine Ev.go 2 (s' := (h, 12, [(0, .ref t), (1, .int x1), (2, .int x2), (3, .int x3)], [.int x3, .ref t])) rfl ?_
      refine Ev.callE rfl rfl rfl (p_argsV (by have := xT.2.2.2.2; omega) xT.1 (Nat.le_of_ble_eq_true rfl)) rfl (Nat.le_of_ble_eq_true rfl) (spX7_isThere xT x3) ?_
      refine Ev.if1 rfl (fun c2 => ?_) (fun c2 => ?_)
      · have c2 : (fX7_isThere T x3) = 0 := c2
        rw [if_pos c2] at H
        refine Ev.go 2 (s' := (h, 4, [(0, .ref t), (1, .int x1), (2, .int x2), (3, .int (x3 + 1))], [])) rfl ?_
        refine Ev.live rfl (lv' := [(0, .ref t), (1, .int x1), (2, .int x2), (3, .int (x3 + 1))]) rfl ?_
        exact llX7_kidsOf_4 m h x1 x2 (x3 + 1) _ H xT
      · have c2 : ¬ ((fX7_isThere T x3) = 0) := c2
        rw [if_neg c2] at H
        refine Ev.go 1 (s' := (h, 19, [(0, .ref t), (1, .int x1), (2, .int x2), (3, .int x3)], [.ref t])) rfl ?_
        refine Ev.get rfl (by have := xT.2.2.2.2; omega) xT.1 rfl ?_
        refine Ev.go 1 (s' := (h, 23, [(0, .ref t), (1, .int x1), (2, .int x2), (3, .int x3)], [.int x3, .ref (t + 2)])) rfl ?_
        have v3 : vp_in x3 24 := fun q => by rw [if_pos q] at H; cases H
        rw [if_neg v3] at H
        refine Ev.iald rfl (by have := xT.2.2.2.2; omega) xT.2.2.1 v3 ?_
        refine Ev.go 1 (s' := (h, 25, [(0, .ref t), (1, .int x1), (2, .int x2), (3, .int x3)], [.int x1, .int (T.2.1 x3.toNatClampNeg)])) rfl ?_
        refine Ev.if2 rfl (fun c4 => ?_) (fun c4 => ?_)
        · have c4 : ¬ (T.2.1 x3.toNatClampNeg) = x1 := c4
          rw [if_pos c4] at H
          refine Ev.go 2 (s' := (h, 4, [(0, .ref t), (1, .int x1), (2, .int x2), (3, .int (x3 + 1))], [])) rfl ?_
          refine Ev.live rfl (lv' := [(0, .ref t), (1, .int x1), (2, .int x2), (3, .int (x3 + 1))]) rfl ?_
          exact llX7_kidsOf_4 m h x1 x2 (x3 + 1) _ H xT
        · have c4 : ¬ (¬ (T.2.1 x3.toNatClampNeg) = x1) := c4
          rw [if_neg c4] at H
          refine Ev.go 3 (s' := (h, 4, [(0, .ref t), (1, .int x1), (2, .int (x2 + 1)), (3, .int (x3 + 1))], [])) rfl ?_
          refine Ev.live rfl (lv' := [(0, .ref t), (1, .int x1), (2, .int (x2 + 1)), (3, .int (x3 + 1))]) rfl ?_
          exact llX7_kidsOf_4 m h x1 (x2 + 1) (x3 + 1) _ H xT
def fX7_kidsOf (n : Nat) (T : tT) (p : Int32) : Option (Int32) := lX7_kidsOf_4 n T n p 0 1
theorem spX7_kidsOf {d n : Nat} {h : pH} {t : Nat} {T : tT} (xT : isT h t T) (p : Int32) {res : Int32} (H : fX7_kidsOf n T p = some res) : Ev (d + 2) mX7_kidsOf (h, 0, [(0, .ref t), (1, .int p)], []) (fun r h1 => r = some (.int res) ∧ h1 = h) := by
  unfold fX7_kidsOf at H
  refine Ev.go 4 (s' := (h, 4, [(0, .ref t), (1, .int p), (2, .int 0), (3, .int 1)], [])) rfl ?_
  refine Ev.live rfl (lv' := [(0, .ref t), (1, .int p), (2, .int 0), (3, .int 1)]) rfl ?_
  exact llX7_kidsOf_4 n h p 0 1 _ H xT
def lX7_nextKid_9 (n : Nat) (T : tT) : Nat → Int32 → Int32 → Int32 → Int32 → Int32 → Option (Int32)
  | 0, _, _, _, _, _ => none
  | m + 1, x1, x2, x3, x4, x5 => (if 24 ≤ x5 then some x3 else (if ¬ ((T.2.2.2.1 >>> (x5 &&& 31)) &&& 1) = 1 then lX7_nextKid_9 n T m x1 x2 x3 x4 (x5 + 1) else (if x5 < 0 ∨ 24 ≤ x5.toNatClampNeg then none else (if ¬ (T.2.1 x5.toNatClampNeg) = x1 then lX7_nextKid_9 n T m x1 x2 x3 x4 (x5 + 1) else (if (T.2.2.1 x5.toNatClampNeg) ≤ x2 then lX7_nextKid_9 n T m x1 x2 x3 x4 (x5 + 1) else (if x4 ≤ (T.2.2.1 x5.toNatClampNeg) then lX7_nextKid_9 n T m x1 x2 x3 x4 (x5 + 1) else lX7_nextKid_9 n T m x1 x2 x5 (T.2.2.1 x5.toNatClampNeg) (x5 + 1)))))))
theorem llX7_nextKid_9 {d n : Nat} {t : Nat} {T : tT} : ∀ (m : Nat) (h : pH) (x1 : Int32) (x2 : Int32) (x3 : Int32) (x4 : Int32) (x5 : Int32) (res : Int32), lX7_nextKid_9 n T m x1 x2 x3 x4 x5 = some res → isT h t T → Ev d mX7_nextKid (h, 9, [(0, .ref t), (1, .int x1), (2, .int x2), (3, .int x3), (4, .int x4), (5, .int x5)], []) (fun r h1 => r = some (.int res) ∧ h1 = h)
  | 0, h, x1, x2, x3, x4, x5, res, H, _ => by cases H
  | m + 1, h, x1, x2, x3, x4, x5, res, H, xT => by
    have H : (if 24 ≤ x5 then some x3 else (if ¬ ((T.2.2.2.1 >>> (x5 &&& 31)) &&& 1) = 1 then lX7_nextKid_9 n T m x1 x2 x3 x4 (x5 + 1) else (if x5 < 0 ∨ 24 ≤ x5.toNatClampNeg then none else (if ¬ (T.2.1 x5.toNatClampNeg) = x1 then lX7_nextKid_9 n T m x1 x2 x3 x4 (x5 + 1) else (if (T.2.2.1 x5.toNatClampNeg) ≤ x2 then lX7_nextKid_9 n T m x1 x2 x3 x4 (x5 + 1) else (if x4 ≤ (T.2.2.1 x5.toNatClampNeg) then lX7_nextKid_9 n T m x1 x2 x3 x4 (x5 + 1) else lX7_nextKid_9 n T m x1 x2 x5 (T.2.2.1 x5.toNatClampNeg) (x5 + 1))))))) = some res := H
    refine Ev.go 2 (s' := (h, 13, [(0, .ref t), (1, .int x1), (2, .int x2), (3, .int x3), (4, .int x4), (5, .int x5)], [.int 24, .int x5])) rfl ?_
    refine Ev.if2 rfl (fun c1 => ?_) (fun c1 => ?_)
    · have c1 : 24 ≤ x5 := c1
      rw [if_pos c1] at H
      refine Ev.go 1 (s' := (h, 82, [(0, .ref t), (1, .int x1), (2, .int x2), (3, .int x3), (4, .int x4), (5, .int x5)], [.int x3])) rfl ?_
      have H := Option.some.inj H
      subst H
      exact Ev.ret rfl rfl (p_retZ rfl) ⟨rfl, rfl⟩
    · have c1 : ¬ (24 ≤ x5) := c1
      rw [if_neg c1] at H
      refine Ev.go 1 (s' := (h, 17, [(0, .ref t), (1, .int x1), (2, .int x2), (3, .int x3), (4, .int x4), (5, .int x5)], [.ref t])) rfl ?_
      refine Ev.get rfl (by have := xT.2.2.2.2; omega) xT.1 rfl ?_
      refine Ev.go 5 (s' := (h, 26, [(0, .ref t), (1, .int x1), (2, .int x2), (3, .int x3), (4, .int x4), (5, .int x5)], [.int 1, .int ((T.2.2.2.1 >>> (x5 &&& 31)) &&& 1)])) rfl ?_
      refine Ev.if2 rfl (fun c2 => ?_) (fun c2 => ?_)
      · have c2 : ¬ ((T.2.2.2.1 >>> (x5 &&& 31)) &&& 1) = 1 := c2
        rw [if_pos c2] at H
        refine Ev.go 2 (s' := (h, 9, [(0, .ref t), (1, .int x1), (2, .int x2), (3, .int x3), (4, .int x4), (5, .int (x5 + 1))], [])) rfl ?_
        refine Ev.live rfl (lv' := [(0, .ref t), (1, .int x1), (2, .int x2), (3, .int x3), (4, .int x4), (5, .int (x5 + 1))]) rfl ?_
        exact llX7_nextKid_9 m h x1 x2 x3 x4 (x5 + 1) _ H xT
      · have c2 : ¬ (¬ ((T.2.2.2.1 >>> (x5 &&& 31)) &&& 1) = 1) := c2
        rw [if_neg c2] at H
        refine Ev.go 1 (s' := (h, 30, [(0, .ref t), (1, .int x1), (2, .int x2), (3, .int x3), (4, .int x4), (5, .int x5)], [.ref t])) rfl ?_
        refine Ev.get rfl (by have := xT.2.2.2.2; omega) xT.1 rfl ?_
        refine Ev.go 1 (s' := (h, 35, [(0, .ref t), (1, .int x1), (2, .int x2), (3, .int x3), (4, .int x4), (5, .int x5)], [.int x5, .ref (t + 2)])) rfl ?_
        have v3 : vp_in x5 24 := fun q => by rw [if_pos q] at H; cases H
        rw [if_neg v3] at H
        refine Ev.iald rfl (by have := xT.2.2.2.2; omega) xT.2.2.1 v3 ?_
        refine Ev.go 1 (s' := (h, 37, [(0, .ref t), (1, .int x1), (2, .int x2), (3, .int x3), (4, .int x4), (5, .int x5)], [.int x1, .int (T.2.1 x5.toNatClampNeg)])) rfl ?_
        refine Ev.if2 rfl (fun c4 => ?_) (fun c4 => ?_)
        · have c4 : ¬ (T.2.1 x5.toNatClampNeg) = x1 := c4
          rw [if_pos c4] at H
          refine Ev.go 2 (s' := (h, 9, [(0, .ref t), (1, .int x1), (2, .int x2), (3, .int x3), (4, .int x4), (5, .int (x5 + 1))], [])) rfl ?_
          refine Ev.live rfl (lv' := [(0, .ref t), (1, .int x1), (2, .int x2), (3, .int x3), (4, .int x4), (5, .int (x5 + 1))]) rfl ?_
          exact llX7_nextKid_9 m h x1 x2 x3 x4 (x5 + 1) _ H xT
        · have c4 : ¬ (¬ (T.2.1 x5.toNatClampNeg) = x1) := c4
          rw [if_neg c4] at H
          refine Ev.go 1 (s' := (h, 41, [(0, .ref t), (1, .int x1), (2, .int x2), (3, .int x3), (4, .int x4), (5, .int x5)], [.ref t])) rfl ?_
          refine Ev.get rfl (by have := xT.2.2.2.2; omega) xT.1 rfl ?_
          refine Ev.go 1 (s' := (h, 46, [(0, .ref t), (1, .int x1), (2, .int x2), (3, .int x3), (4, .int x4), (5, .int x5)], [.int x5, .ref (t + 3)])) rfl ?_
          refine Ev.iald rfl (by have := xT.2.2.2.2; omega) xT.2.2.2.1 v3 ?_
          refine Ev.go 1 (s' := (h, 48, [(0, .ref t), (1, .int x1), (2, .int x2), (3, .int x3), (4, .int x4), (5, .int x5)], [.int x2, .int (T.2.2.1 x5.toNatClampNeg)])) rfl ?_
          refine Ev.if2 rfl (fun c5 => ?_) (fun c5 => ?_)
          · have c5 : (T.2.2.1 x5.toNatClampNeg) ≤ x2 := c5
            rw [if_pos c5] at H
            refine Ev.go 2 (s' := (h, 9, [(0, .ref t), (1, .int x1), (2, .int x2), (3, .int x3), (4, .int x4), (5, .int (x5 + 1))], [])) rfl ?_
            refine Ev.live rfl (lv' := [(0, .ref t), (1, .int x1), (2, .int x2), (3, .int x3), (4, .int x4), (5, .int (x5 + 1))]) rfl ?_
            exact llX7_nextKid_9 m h x1 x2 x3 x4 (x5 + 1) _ H xT
          · have c5 : ¬ ((T.2.2.1 x5.toNatClampNeg) ≤ x2) := c5
            rw [if_neg c5] at H
            refine Ev.go 1 (s' := (h, 52, [(0, .ref t), (1, .int x1), (2, .int x2), (3, .int x3), (4, .int x4), (5, .int x5)], [.ref t])) rfl ?_
            refine Ev.get rfl (by have := xT.2.2.2.2; omega) xT.1 rfl ?_
            refine Ev.go 1 (s' := (h, 57, [(0, .ref t), (1, .int x1), (2, .int x2), (3, .int x3), (4, .int x4), (5, .int x5)], [.int x5, .ref (t + 3)])) rfl ?_
            refine Ev.iald rfl (by have := xT.2.2.2.2; omega) xT.2.2.2.1 v3 ?_
            refine Ev.go 1 (s' := (h, 60, [(0, .ref t), (1, .int x1), (2, .int x2), (3, .int x3), (4, .int x4), (5, .int x5)], [.int x4, .int (T.2.2.1 x5.toNatClampNeg)])) rfl ?_
            refine Ev.if2 rfl (fun c6 => ?_) (fun c6 => ?_)
            · have c6 : x4 ≤ (T.2.2.1 x5.toNatClampNeg) := c6
              rw [if_pos c6] at H
              refine Ev.go 2 (s' := (h, 9, [(0, .ref t), (1, .int x1), (2, .int x2), (3, .int x3), (4, .int x4), (5, .int (x5 + 1))], [])) rfl ?_
              refine Ev.live rfl (lv' := [(0, .ref t), (1, .int x1), (2, .int x2), (3, .int x3), (4, .int x4), (5, .int (x5 + 1))]) rfl ?_
              exact llX7_nextKid_9 m h x1 x2 x3 x4 (x5 + 1) _ H xT
            · have c6 : ¬ (x4 ≤ (T.2.2.1 x5.toNatClampNeg)) := c6
              rw [if_neg c6] at H
              refine Ev.go 3 (s' := (h, 67, [(0, .ref t), (1, .int x1), (2, .int x2), (3, .int x5), (4, .int x4), (5, .int x5)], [.ref t])) rfl ?_
              refine Ev.get rfl (by have := xT.2.2.2.2; omega) xT.1 rfl ?_
              refine Ev.go 1 (s' := (h, 72, [(0, .ref t), (1, .int x1), (2, .int x2), (3, .int x5), (4, .int x4), (5, .int x5)], [.int x5, .ref (t + 3)])) rfl ?_
              refine Ev.iald rfl (by have := xT.2.2.2.2; omega) xT.2.2.2.1 v3 ?_
              refine Ev.go 3 (s' := (h, 9, [(0, .ref t), (1, .int x1), (2, .int x2), (3, .int x5), (4, .int (T.2.2.1 x5.toNatClampNeg)), (5, .int (x5 + 1))], [])) rfl ?_
              refine Ev.live rfl (lv' := [(0, .ref t), (1, .int x1), (2, .int x2), (3, .int x5), (4, .int (T.2.2.1 x5.toNatClampNeg)), (5, .int (x5 + 1))]) rfl ?_
              exact llX7_nextKid_9 m h x1 x2 x5 (T.2.2.1 x5.toNatClampNeg) (x5 + 1) _ H xT
def fX7_nextKid (n : Nat) (T : tT) (p : Int32) (spot : Int32) : Option (Int32) := lX7_nextKid_9 n T n p spot (-1) 1000000000 1
theorem spX7_nextKid {d n : Nat} {h : pH} {t : Nat} {T : tT} (xT : isT h t T) (p : Int32) (spot : Int32) {res : Int32} (H : fX7_nextKid n T p spot = some res) : Ev d mX7_nextKid (h, 0, [(0, .ref t), (1, .int p), (2, .int spot)], []) (fun r h1 => r = some (.int res) ∧ h1 = h) := by
  unfold fX7_nextKid at H
  refine Ev.go 6 (s' := (h, 9, [(0, .ref t), (1, .int p), (2, .int spot), (3, .int ((-1))), (4, .int 1000000000), (5, .int 1)], [])) rfl ?_
  refine Ev.live rfl (lv' := [(0, .ref t), (1, .int p), (2, .int spot), (3, .int ((-1))), (4, .int 1000000000), (5, .int 1)]) rfl ?_
  exact llX7_nextKid_9 n h p spot (-1) 1000000000 1 _ H xT
def lX7_childAt_10 (n : Nat) (T : tT) : Nat → Int32 → Int32 → Int32 → Int32 → Option (Int32)
  | 0, _, _, _, _ => none
  | m + 1, x1, x2, x3, x4 => (if x2 ≤ x4 then some x3 else (if (fX7_isNumber x3) = 0 then some x3 else (if x3 < 0 ∨ 24 ≤ x3.toNatClampNeg then none else ((fX7_nextKid n T x1 (T.2.2.1 x3.toNatClampNeg)).bind fun y7 => lX7_childAt_10 n T m x1 x2 y7 (x4 + 1)))))
theorem llX7_childAt_10 {d n : Nat} {t : Nat} {T : tT} : ∀ (m : Nat) (h : pH) (x1 : Int32) (x2 : Int32) (x3 : Int32) (x4 : Int32) (res : Int32), lX7_childAt_10 n T m x1 x2 x3 x4 = some res → isT h t T → Ev (d + 1) mX7_childAt (h, 10, [(0, .ref t), (1, .int x1), (2, .int x2), (3, .int x3), (4, .int x4)], []) (fun r h1 => r = some (.int res) ∧ h1 = h)
  | 0, h, x1, x2, x3, x4, res, H, _ => by cases H
  | m + 1, h, x1, x2, x3, x4, res, H, xT => by
    have H : (if x2 ≤ x4 then some x3 else (if (fX7_isNumber x3) = 0 then some x3 else (if x3 < 0 ∨ 24 ≤ x3.toNatClampNeg then none else ((fX7_nextKid n T x1 (T.2.2.1 x3.toNatClampNeg)).bind fun y7 => lX7_childAt_10 n T m x1 x2 y7 (x4 + 1))))) = some res := H
    refine Ev.go 2 (s' := (h, 13, [(0, .ref t), (1, .int x1), (2, .int x2), (3, .int x3), (4, .int x4)], [.int x2, .int x4])) rfl ?_
    refine Ev.if2 rfl (fun c3 => ?_) (fun c3 => ?_)
    · have c3 : x2 ≤ x4 := c3
      rw [if_pos c3] at H
      refine Ev.go 1 (s' := (h, 42, [(0, .ref t), (1, .int x1), (2, .int x2), (3, .int x3), (4, .int x4)], [.int x3])) rfl ?_
      have H := Option.some.inj H
      subst H
      exact Ev.ret rfl rfl (p_retZ rfl) ⟨rfl, rfl⟩
    · have c3 : ¬ (x2 ≤ x4) := c3
      rw [if_neg c3] at H
      refine Ev.go 1 (s' := (h, 17, [(0, .ref t), (1, .int x1), (2, .int x2), (3, .int x3), (4, .int x4)], [.int x3])) rfl ?_
      refine Ev.callE rfl rfl rfl rfl rfl (Nat.le_of_ble_eq_true rfl) (spX7_isNumber  x3) ?_
      refine Ev.if1 rfl (fun c4 => ?_) (fun c4 => ?_)
      · have c4 : (fX7_isNumber x3) = 0 := c4
        rw [if_pos c4] at H
        refine Ev.go 1 (s' := (h, 42, [(0, .ref t), (1, .int x1), (2, .int x2), (3, .int x3), (4, .int x4)], [.int x3])) rfl ?_
        have H := Option.some.inj H
        subst H
        exact Ev.ret rfl rfl (p_retZ rfl) ⟨rfl, rfl⟩
      · have c4 : ¬ ((fX7_isNumber x3) = 0) := c4
        rw [if_neg c4] at H
        refine Ev.go 3 (s' := (h, 26, [(0, .ref t), (1, .int x1), (2, .int x2), (3, .int x3), (4, .int x4)], [.ref t, .int x1, .ref t])) rfl ?_
        refine Ev.get rfl (by have := xT.2.2.2.2; omega) xT.1 rfl ?_
        refine Ev.go 1 (s' := (h, 30, [(0, .ref t), (1, .int x1), (2, .int x2), (3, .int x3), (4, .int x4)], [.int x3, .ref (t + 3), .int x1, .ref t])) rfl ?_
        have v5 : vp_in x3 24 := fun q => by rw [if_pos q] at H; cases H
        rw [if_neg v5] at H
        refine Ev.iald rfl (by have := xT.2.2.2.2; omega) xT.2.2.2.1 v5 ?_
        obtain ⟨y7, e6, H⟩ := Option.bind_eq_some_iff.mp H
        refine Ev.callE rfl rfl rfl (p_argsV (by have := xT.2.2.2.2; omega) xT.1 (Nat.le_of_ble_eq_true rfl)) rfl (Nat.le_of_ble_eq_true rfl) (spX7_nextKid xT x1 (T.2.2.1 x3.toNatClampNeg) e6) ?_
        refine Ev.go 3 (s' := (h, 10, [(0, .ref t), (1, .int x1), (2, .int x2), (3, .int y7), (4, .int (x4 + 1))], [])) rfl ?_
        refine Ev.live rfl (lv' := [(0, .ref t), (1, .int x1), (2, .int x2), (3, .int y7), (4, .int (x4 + 1))]) rfl ?_
        exact llX7_childAt_10 m h x1 x2 y7 (x4 + 1) _ H xT
def fX7_childAt (n : Nat) (T : tT) (p : Int32) (place : Int32) : Option (Int32) := ((fX7_nextKid n T p 0).bind fun y2 => lX7_childAt_10 n T n p place y2 0)
theorem spX7_childAt {d n : Nat} {h : pH} {t : Nat} {T : tT} (xT : isT h t T) (p : Int32) (place : Int32) {res : Int32} (H : fX7_childAt n T p place = some res) : Ev (d + 1) mX7_childAt (h, 0, [(0, .ref t), (1, .int p), (2, .int place)], []) (fun r h1 => r = some (.int res) ∧ h1 = h) := by
  unfold fX7_childAt at H
  refine Ev.go 3 (s' := (h, 3, [(0, .ref t), (1, .int p), (2, .int place)], [.int 0, .int p, .ref t])) rfl ?_
  obtain ⟨y2, e1, H⟩ := Option.bind_eq_some_iff.mp H
  refine Ev.callE rfl rfl rfl (p_argsV (by have := xT.2.2.2.2; omega) xT.1 (Nat.le_of_ble_eq_true rfl)) rfl (Nat.le_of_ble_eq_true rfl) (spX7_nextKid xT p 0 e1) ?_
  refine Ev.go 3 (s' := (h, 10, [(0, .ref t), (1, .int p), (2, .int place), (3, .int y2), (4, .int 0)], [])) rfl ?_
  refine Ev.live rfl (lv' := [(0, .ref t), (1, .int p), (2, .int place), (3, .int y2), (4, .int 0)]) rfl ?_
  exact llX7_childAt_10 n h p place y2 0 _ H xT
def fX7_clear (T : tT) : Option (tT) := some (T.1, T.2.1, T.2.2.1, 0, 0, 0)
theorem spX7_clear {d : Nat} {h : pH} {t : Nat} {T : tT} (xT : isT h t T) {res : tT} (H : fX7_clear T = some res) : Ev d mX7_clear (h, 0, [(0, .ref t)], []) (fun r h1 => r = none ∧ isT h1 t res ∧ fr [(t, t + 4)] h h1) := by
  unfold fX7_clear at H
  refine Ev.go 2 (s' := (h, 2, [(0, .ref t)], [.int 0, .ref t])) rfl ?_
  refine Ev.put rfl rfl (by have := xT.2.2.2.2; omega) xT.1 (Nat.le_of_ble_eq_true rfl) rfl rfl (fs' := [.ref (t + 1), .ref (t + 2), .ref (t + 3), .int 0, .int T.2.2.2.2.1, .int T.2.2.2.2.2]) rfl ?_
  refine Ev.go 2 (s' := ((pu h t (eO 6 [.ref (t + 1), .ref (t + 2), .ref (t + 3), .int 0, .int T.2.2.2.2.1, .int T.2.2.2.2.2])), 7, [(0, .ref t)], [.int 0, .ref t])) rfl ?_
  refine Ev.put rfl rfl (by have := xT.2.2.2.2; omega) pu_s (Nat.le_of_ble_eq_true rfl) rfl rfl (fs' := [.ref (t + 1), .ref (t + 2), .ref (t + 3), .int 0, .int 0, .int T.2.2.2.2.2]) rfl ?_
  refine Ev.go 2 (s' := ((pu (pu h t (eO 6 [.ref (t + 1), .ref (t + 2), .ref (t + 3), .int 0, .int T.2.2.2.2.1, .int T.2.2.2.2.2])) t (eO 6 [.ref (t + 1), .ref (t + 2), .ref (t + 3), .int 0, .int 0, .int T.2.2.2.2.2])), 12, [(0, .ref t)], [.int 0, .ref t])) rfl ?_
  refine Ev.put rfl rfl (by have := xT.2.2.2.2; omega) pu_s (Nat.le_of_ble_eq_true rfl) rfl rfl (fs' := [.ref (t + 1), .ref (t + 2), .ref (t + 3), .int 0, .int 0, .int 0]) rfl ?_
  have H := Option.some.inj H
  subst H
  exact Ev.ret rfl rfl rfl ⟨rfl, ⟨pu_s, (pu_n (by omega) (pu_n (by omega) (pu_n (by omega) xT.2.1))), (pu_n (by omega) (pu_n (by omega) (pu_n (by omega) xT.2.2.1))), (pu_n (by omega) (pu_n (by omega) (pu_n (by omega) xT.2.2.2.1))), (by have := xT.2.2.2.2; omega)⟩, (fun k hk => by rw [pu_x (show k ≠ t from fun e => by have := hk; simp at this; omega)]; rw [pu_x (show k ≠ t from fun e => by have := hk; simp at this; omega)]; rw [pu_x (show k ≠ t from fun e => by have := hk; simp at this; omega)])⟩
def fX7_setKind (T : tT) (number : Int32) : Option (tT) := some (T.1, T.2.1, T.2.2.1, T.2.2.2.1, T.2.2.2.2.1, number)
theorem spX7_setKind {d : Nat} {h : pH} {t : Nat} {T : tT} (xT : isT h t T) (number : Int32) {res : tT} (H : fX7_setKind T number = some res) : Ev d mX7_setKind (h, 0, [(0, .ref t), (1, .int number)], []) (fun r h1 => r = none ∧ isT h1 t res ∧ fr [(t, t + 4)] h h1) := by
  unfold fX7_setKind at H
  refine Ev.go 2 (s' := (h, 2, [(0, .ref t), (1, .int number)], [.int number, .ref t])) rfl ?_
  refine Ev.put rfl rfl (by have := xT.2.2.2.2; omega) xT.1 (Nat.le_of_ble_eq_true rfl) rfl rfl (fs' := [.ref (t + 1), .ref (t + 2), .ref (t + 3), .int T.2.2.2.1, .int T.2.2.2.2.1, .int number]) rfl ?_
  have H := Option.some.inj H
  subst H
  exact Ev.ret rfl rfl rfl ⟨rfl, ⟨pu_s, (pu_n (by omega) xT.2.1), (pu_n (by omega) xT.2.2.1), (pu_n (by omega) xT.2.2.2.1), (by have := xT.2.2.2.2; omega)⟩, (fun k hk => by rw [pu_x (show k ≠ t from fun e => by have := hk; simp at this; omega)])⟩
def fX7_setTag (T : tT) (v : Int32) (number : Int32) : Option (tT) := (if (fX7_isNumber v) = 0 then some T else (if v < 0 ∨ 24 ≤ v.toNatClampNeg then none else some (upd T.1 v.toNatClampNeg number, T.2.1, T.2.2.1, T.2.2.2.1, T.2.2.2.2.1, T.2.2.2.2.2)))
theorem spX7_setTag {d : Nat} {h : pH} {t : Nat} {T : tT} (xT : isT h t T) (v : Int32) (number : Int32) {res : tT} (H : fX7_setTag T v number = some res) : Ev (d + 1) mX7_setTag (h, 0, [(0, .ref t), (1, .int v), (2, .int number)], []) (fun r h1 => r = none ∧ isT h1 t res ∧ fr [(t, t + 4)] h h1) := by
  unfold fX7_setTag at H
  refine Ev.go 1 (s' := (h, 1, [(0, .ref t), (1, .int v), (2, .int number)], [.int v])) rfl ?_
  refine Ev.callE rfl rfl rfl rfl rfl (Nat.le_of_ble_eq_true rfl) (spX7_isNumber  v) ?_
  refine Ev.if1 rfl (fun c1 => ?_) (fun c1 => ?_)
  · have c1 : (fX7_isNumber v) = 0 := c1
    rw [if_pos c1] at H
    have H := Option.some.inj H
    subst H
    exact Ev.ret rfl rfl rfl ⟨rfl, xT, (fun k _ => rfl)⟩
  · have c1 : ¬ ((fX7_isNumber v) = 0) := c1
    rw [if_neg c1] at H
    refine Ev.go 1 (s' := (h, 8, [(0, .ref t), (1, .int v), (2, .int number)], [.ref t])) rfl ?_
    refine Ev.get rfl (by have := xT.2.2.2.2; omega) xT.1 rfl ?_
    refine Ev.go 2 (s' := (h, 13, [(0, .ref t), (1, .int v), (2, .int number)], [.int number, .int v, .ref (t + 1)])) rfl ?_
    have v2 : vp_in v 24 := fun q => by rw [if_pos q] at H; cases H
    rw [if_neg v2] at H
    refine Ev.iast rfl (by have := xT.2.2.2.2; omega) xT.2.1 v2 ?_
    have H := Option.some.inj H
    subst H
    exact Ev.ret rfl rfl rfl ⟨rfl, ⟨(pu_n (by omega) xT.1), pu_s, (pu_n (by omega) xT.2.2.1), (pu_n (by omega) xT.2.2.2.1), (by have := xT.2.2.2.2; omega)⟩, (fun k hk => by rw [pu_x (show k ≠ t + 1 from fun e => by have := hk; simp at this; omega)])⟩
def fX7_add (T : tT) (parent : Int32) (spot : Int32) (number : Int32) : Option (Int32 × tT) := (if (fX7_isFull T) = 0 then (if T.2.2.2.2.1 < 0 ∨ 24 ≤ T.2.2.2.2.1.toNatClampNeg then none else some (T.2.2.2.2.1, (upd T.1 T.2.2.2.2.1.toNatClampNeg number, upd T.2.1 T.2.2.2.2.1.toNatClampNeg parent, upd T.2.2.1 T.2.2.2.2.1.toNatClampNeg spot, T.2.2.2.1 ||| (1 <<< (T.2.2.2.2.1 &&& 31)), T.2.2.2.2.1 + 1, T.2.2.2.2.2))) else some ((-1), T))
theorem spX7_add {d : Nat} {h : pH} {t : Nat} {T : tT} (xT : isT h t T) (parent : Int32) (spot : Int32) (number : Int32) {res : Int32 × tT} (H : fX7_add T parent spot number = some res) : Ev (d + 1) mX7_add (h, 0, [(0, .ref t), (1, .int parent), (2, .int spot), (3, .int number)], []) (fun r h1 => r = some (.int res.1) ∧ isT h1 t res.2 ∧ fr [(t, t + 4)] h h1) := by
  unfold fX7_add at H
  refine Ev.go 1 (s' := (h, 1, [(0, .ref t), (1, .int parent), (2, .int spot), (3, .int number)], [.ref t])) rfl ?_
  refine Ev.callE rfl rfl rfl (p_argsV (by have := xT.2.2.2.2; omega) xT.1 (Nat.le_of_ble_eq_true rfl)) rfl (Nat.le_of_ble_eq_true rfl) (spX7_isFull xT ) ?_
  refine Ev.if1 rfl (fun c1 => ?_) (fun c1 => ?_)
  · have c1 : (fX7_isFull T) = 0 := c1
    rw [if_pos c1] at H
    refine Ev.go 1 (s' := (h, 10, [(0, .ref t), (1, .int parent), (2, .int spot), (3, .int number)], [.ref t])) rfl ?_
    refine Ev.get rfl (by have := xT.2.2.2.2; omega) xT.1 rfl ?_
    refine Ev.go 2 (s' := (h, 16, [(0, .ref t), (1, .int parent), (2, .int spot), (3, .int number), (4, .int T.2.2.2.2.1)], [.ref t])) rfl ?_
    refine Ev.get rfl (by have := xT.2.2.2.2; omega) xT.1 rfl ?_
    refine Ev.go 2 (s' := (h, 22, [(0, .ref t), (1, .int parent), (2, .int spot), (3, .int number), (4, .int T.2.2.2.2.1)], [.int number, .int T.2.2.2.2.1, .ref (t + 1)])) rfl ?_
    have v2 : vp_in T.2.2.2.2.1 24 := fun q => by rw [if_pos q] at H; cases H
    rw [if_neg v2] at H
    refine Ev.iast rfl (by have := xT.2.2.2.2; omega) xT.2.1 v2 ?_
    refine Ev.go 1 (s' := ((pu h (t + 1) (eI 24 (upd T.1 T.2.2.2.2.1.toNatClampNeg number))), 24, [(0, .ref t), (1, .int parent), (2, .int spot), (3, .int number), (4, .int T.2.2.2.2.1)], [.ref t])) rfl ?_
    refine Ev.get rfl (by have := xT.2.2.2.2; omega) (pu_n (by omega) xT.1) rfl ?_
    refine Ev.go 2 (s' := ((pu h (t + 1) (eI 24 (upd T.1 T.2.2.2.2.1.toNatClampNeg number))), 30, [(0, .ref t), (1, .int parent), (2, .int spot), (3, .int number), (4, .int T.2.2.2.2.1)], [.int parent, .int T.2.2.2.2.1, .ref (t + 2)])) rfl ?_
    refine Ev.iast rfl (by have := xT.2.2.2.2; omega) (pu_n (by omega) xT.2.2.1) v2 ?_
    refine Ev.go 1 (s' := ((pu (pu h (t + 1) (eI 24 (upd T.1 T.2.2.2.2.1.toNatClampNeg number))) (t + 2) (eI 24 (upd T.2.1 T.2.2.2.2.1.toNatClampNeg parent))), 32, [(0, .ref t), (1, .int parent), (2, .int spot), (3, .int number), (4, .int T.2.2.2.2.1)], [.ref t])) rfl ?_
    refine Ev.get rfl (by have := xT.2.2.2.2; omega) (pu_n (by omega) (pu_n (by omega) xT.1)) rfl ?_
    refine Ev.go 2 (s' := ((pu (pu h (t + 1) (eI 24 (upd T.1 T.2.2.2.2.1.toNatClampNeg number))) (t + 2) (eI 24 (upd T.2.1 T.2.2.2.2.1.toNatClampNeg parent))), 38, [(0, .ref t), (1, .int parent), (2, .int spot), (3, .int number), (4, .int T.2.2.2.2.1)], [.int spot, .int T.2.2.2.2.1, .ref (t + 3)])) rfl ?_
    refine Ev.iast rfl (by have := xT.2.2.2.2; omega) (pu_n (by omega) (pu_n (by omega) xT.2.2.2.1)) v2 ?_
    refine Ev.go 2 (s' := ((pu (pu (pu h (t + 1) (eI 24 (upd T.1 T.2.2.2.2.1.toNatClampNeg number))) (t + 2) (eI 24 (upd T.2.1 T.2.2.2.2.1.toNatClampNeg parent))) (t + 3) (eI 24 (upd T.2.2.1 T.2.2.2.2.1.toNatClampNeg spot))), 41, [(0, .ref t), (1, .int parent), (2, .int spot), (3, .int number), (4, .int T.2.2.2.2.1)], [.ref t, .ref t])) rfl ?_
    refine Ev.get rfl (by have := xT.2.2.2.2; omega) (pu_n (by omega) (pu_n (by omega) (pu_n (by omega) xT.1))) rfl ?_
    refine Ev.go 4 (s' := ((pu (pu (pu h (t + 1) (eI 24 (upd T.1 T.2.2.2.2.1.toNatClampNeg number))) (t + 2) (eI 24 (upd T.2.1 T.2.2.2.2.1.toNatClampNeg parent))) (t + 3) (eI 24 (upd T.2.2.1 T.2.2.2.2.1.toNatClampNeg spot))), 49, [(0, .ref t), (1, .int parent), (2, .int spot), (3, .int number), (4, .int T.2.2.2.2.1)], [.int (T.2.2.2.1 ||| (1 <<< (T.2.2.2.2.1 &&& 31))), .ref t])) rfl ?_
    refine Ev.put rfl rfl (by have := xT.2.2.2.2; omega) (pu_n (by omega) (pu_n (by omega) (pu_n (by omega) xT.1))) (Nat.le_of_ble_eq_true rfl) rfl rfl (fs' := [.ref (t + 1), .ref (t + 2), .ref (t + 3), .int (T.2.2.2.1 ||| (1 <<< (T.2.2.2.2.1 &&& 31))), .int T.2.2.2.2.1, .int T.2.2.2.2.2]) rfl ?_
    refine Ev.go 2 (s' := ((pu (pu (pu (pu h (t + 1) (eI 24 (upd T.1 T.2.2.2.2.1.toNatClampNeg number))) (t + 2) (eI 24 (upd T.2.1 T.2.2.2.2.1.toNatClampNeg parent))) (t + 3) (eI 24 (upd T.2.2.1 T.2.2.2.2.1.toNatClampNeg spot))) t (eO 6 [.ref (t + 1), .ref (t + 2), .ref (t + 3), .int (T.2.2.2.1 ||| (1 <<< (T.2.2.2.2.1 &&& 31))), .int T.2.2.2.2.1, .int T.2.2.2.2.2])), 54, [(0, .ref t), (1, .int parent), (2, .int spot), (3, .int number), (4, .int T.2.2.2.2.1)], [.ref t, .ref t])) rfl ?_
    refine Ev.get rfl (by have := xT.2.2.2.2; omega) pu_s rfl ?_
    refine Ev.go 2 (s' := ((pu (pu (pu (pu h (t + 1) (eI 24 (upd T.1 T.2.2.2.2.1.toNatClampNeg number))) (t + 2) (eI 24 (upd T.2.1 T.2.2.2.2.1.toNatClampNeg parent))) (t + 3) (eI 24 (upd T.2.2.1 T.2.2.2.2.1.toNatClampNeg spot))) t (eO 6 [.ref (t + 1), .ref (t + 2), .ref (t + 3), .int (T.2.2.2.1 ||| (1 <<< (T.2.2.2.2.1 &&& 31))), .int T.2.2.2.2.1, .int T.2.2.2.2.2])), 59, [(0, .ref t), (1, .int parent), (2, .int spot), (3, .int number), (4, .int T.2.2.2.2.1)], [.int (T.2.2.2.2.1 + 1), .ref t])) rfl ?_
    refine Ev.put rfl rfl (by have := xT.2.2.2.2; omega) pu_s (Nat.le_of_ble_eq_true rfl) rfl rfl (fs' := [.ref (t + 1), .ref (t + 2), .ref (t + 3), .int (T.2.2.2.1 ||| (1 <<< (T.2.2.2.2.1 &&& 31))), .int (T.2.2.2.2.1 + 1), .int T.2.2.2.2.2]) rfl ?_
    refine Ev.go 1 (s' := ((pu (pu (pu (pu (pu h (t + 1) (eI 24 (upd T.1 T.2.2.2.2.1.toNatClampNeg number))) (t + 2) (eI 24 (upd T.2.1 T.2.2.2.2.1.toNatClampNeg parent))) (t + 3) (eI 24 (upd T.2.2.1 T.2.2.2.2.1.toNatClampNeg spot))) t (eO 6 [.ref (t + 1), .ref (t + 2), .ref (t + 3), .int (T.2.2.2.1 ||| (1 <<< (T.2.2.2.2.1 &&& 31))), .int T.2.2.2.2.1, .int T.2.2.2.2.2])) t (eO 6 [.ref (t + 1), .ref (t + 2), .ref (t + 3), .int (T.2.2.2.1 ||| (1 <<< (T.2.2.2.2.1 &&& 31))), .int (T.2.2.2.2.1 + 1), .int T.2.2.2.2.2])), 64, [(0, .ref t), (1, .int parent), (2, .int spot), (3, .int number), (4, .int T.2.2.2.2.1)], [.int T.2.2.2.2.1])) rfl ?_
    have H := Option.some.inj H
    subst H
    exact Ev.ret rfl rfl (p_retZ rfl) ⟨rfl, ⟨pu_s, (pu_n (by omega) (pu_n (by omega) (pu_n (by omega) (pu_n (by omega) pu_s)))), (pu_n (by omega) (pu_n (by omega) (pu_n (by omega) pu_s))), (pu_n (by omega) (pu_n (by omega) pu_s)), (by have := xT.2.2.2.2; omega)⟩, (fun k hk => by rw [pu_x (show k ≠ t from fun e => by have := hk; simp at this; omega)]; rw [pu_x (show k ≠ t from fun e => by have := hk; simp at this; omega)]; rw [pu_x (show k ≠ t + 3 from fun e => by have := hk; simp at this; omega)]; rw [pu_x (show k ≠ t + 2 from fun e => by have := hk; simp at this; omega)]; rw [pu_x (show k ≠ t + 1 from fun e => by have := hk; simp at this; omega)])⟩
  · have c1 : ¬ ((fX7_isFull T) = 0) := c1
    rw [if_neg c1] at H
    refine Ev.go 1 (s' := (h, 8, [(0, .ref t), (1, .int parent), (2, .int spot), (3, .int number)], [.int ((-1))])) rfl ?_
    have H := Option.some.inj H
    subst H
    exact Ev.ret rfl rfl (p_retZ rfl) ⟨rfl, xT, (fun k _ => rfl)⟩
def fX7_remove (T : tT) (bits : Int32) : Option (tT) := some (T.1, T.2.1, T.2.2.1, T.2.2.2.1 &&& (bits ^^^ (-1)), T.2.2.2.2.1, T.2.2.2.2.2)
theorem spX7_remove {d : Nat} {h : pH} {t : Nat} {T : tT} (xT : isT h t T) (bits : Int32) {res : tT} (H : fX7_remove T bits = some res) : Ev d mX7_remove (h, 0, [(0, .ref t), (1, .int bits)], []) (fun r h1 => r = none ∧ isT h1 t res ∧ fr [(t, t + 4)] h h1) := by
  unfold fX7_remove at H
  refine Ev.go 2 (s' := (h, 2, [(0, .ref t), (1, .int bits)], [.ref t, .ref t])) rfl ?_
  refine Ev.get rfl (by have := xT.2.2.2.2; omega) xT.1 rfl ?_
  refine Ev.go 4 (s' := (h, 9, [(0, .ref t), (1, .int bits)], [.int (T.2.2.2.1 &&& (bits ^^^ (-1))), .ref t])) rfl ?_
  refine Ev.put rfl rfl (by have := xT.2.2.2.2; omega) xT.1 (Nat.le_of_ble_eq_true rfl) rfl rfl (fs' := [.ref (t + 1), .ref (t + 2), .ref (t + 3), .int (T.2.2.2.1 &&& (bits ^^^ (-1))), .int T.2.2.2.2.1, .int T.2.2.2.2.2]) rfl ?_
  have H := Option.some.inj H
  subst H
  exact Ev.ret rfl rfl rfl ⟨rfl, ⟨pu_s, (pu_n (by omega) xT.2.1), (pu_n (by omega) xT.2.2.1), (pu_n (by omega) xT.2.2.2.1), (by have := xT.2.2.2.2; omega)⟩, (fun k hk => by rw [pu_x (show k ≠ t from fun e => by have := hk; simp at this; omega)])⟩
def fX7_rewind (T : tT) (bits : Int32) (number : Int32) : Option (tT) := some (T.1, T.2.1, T.2.2.1, bits, number, T.2.2.2.2.2)
theorem spX7_rewind {d : Nat} {h : pH} {t : Nat} {T : tT} (xT : isT h t T) (bits : Int32) (number : Int32) {res : tT} (H : fX7_rewind T bits number = some res) : Ev d mX7_rewind (h, 0, [(0, .ref t), (1, .int bits), (2, .int number)], []) (fun r h1 => r = none ∧ isT h1 t res ∧ fr [(t, t + 4)] h h1) := by
  unfold fX7_rewind at H
  refine Ev.go 2 (s' := (h, 2, [(0, .ref t), (1, .int bits), (2, .int number)], [.int bits, .ref t])) rfl ?_
  refine Ev.put rfl rfl (by have := xT.2.2.2.2; omega) xT.1 (Nat.le_of_ble_eq_true rfl) rfl rfl (fs' := [.ref (t + 1), .ref (t + 2), .ref (t + 3), .int bits, .int T.2.2.2.2.1, .int T.2.2.2.2.2]) rfl ?_
  refine Ev.go 2 (s' := ((pu h t (eO 6 [.ref (t + 1), .ref (t + 2), .ref (t + 3), .int bits, .int T.2.2.2.2.1, .int T.2.2.2.2.2])), 7, [(0, .ref t), (1, .int bits), (2, .int number)], [.int number, .ref t])) rfl ?_
  refine Ev.put rfl rfl (by have := xT.2.2.2.2; omega) pu_s (Nat.le_of_ble_eq_true rfl) rfl rfl (fs' := [.ref (t + 1), .ref (t + 2), .ref (t + 3), .int bits, .int number, .int T.2.2.2.2.2]) rfl ?_
  have H := Option.some.inj H
  subst H
  exact Ev.ret rfl rfl rfl ⟨rfl, ⟨pu_s, (pu_n (by omega) (pu_n (by omega) xT.2.1)), (pu_n (by omega) (pu_n (by omega) xT.2.2.1)), (pu_n (by omega) (pu_n (by omega) xT.2.2.2.1)), (by have := xT.2.2.2.2; omega)⟩, (fun k hk => by rw [pu_x (show k ≠ t from fun e => by have := hk; simp at this; omega)]; rw [pu_x (show k ≠ t from fun e => by have := hk; simp at this; omega)])⟩
def fX7_copyFrom (T : tT) (U : tT) : Option (tT) := some (va_cpy U.1 T.1 0 0 24, va_cpy U.2.1 T.2.1 0 0 24, va_cpy U.2.2.1 T.2.2.1 0 0 24, U.2.2.2.1, U.2.2.2.2.1, U.2.2.2.2.2)
theorem spX7_copyFrom {d : Nat} {h : pH} {t u : Nat} {T : tT} {U : tT} (xT : isT h t T) (xU : isT h u U) (hd : t + 3 < u ∨ u + 3 < t) {res : tT} (H : fX7_copyFrom T U = some res) : Ev (d + 1) mX7_copyFrom (h, 0, [(0, .ref t), (1, .ref u)], []) (fun r h1 => r = none ∧ isT h1 t res ∧ fr [(t, t + 4)] h h1) := by
  unfold fX7_copyFrom at H
  refine Ev.go 1 (s' := (h, 1, [(0, .ref t), (1, .ref u)], [.ref u])) rfl ?_
  refine Ev.get rfl (by have := xU.2.2.2.2; omega) xU.1 rfl ?_
  refine Ev.go 2 (s' := (h, 6, [(0, .ref t), (1, .ref u)], [.ref t, .int 0, .ref (u + 1)])) rfl ?_
  refine Ev.get rfl (by have := xT.2.2.2.2; omega) xT.1 rfl ?_
  refine Ev.go 2 (s' := (h, 12, [(0, .ref t), (1, .ref u)], [.int 24, .int 0, .ref (t + 1), .int 0, .ref (u + 1)])) rfl ?_
  refine Ev.cpy rfl rfl (by have := xU.2.2.2.2; omega) (by have := xT.2.2.2.2; omega) xU.2.1 xT.2.1 (by decide) (by decide) (by decide) (by decide) (by decide) (Nat.le_of_ble_eq_true rfl) ?_
  refine Ev.go 1 (s' := ((pu h (t + 1) (eI 24 (va_cpy U.1 T.1 0 0 24))), 16, [(0, .ref t), (1, .ref u)], [.ref u])) rfl ?_
  refine Ev.get rfl (by have := xU.2.2.2.2; omega) (pu_n (by omega) xU.1) rfl ?_
  refine Ev.go 2 (s' := ((pu h (t + 1) (eI 24 (va_cpy U.1 T.1 0 0 24))), 21, [(0, .ref t), (1, .ref u)], [.ref t, .int 0, .ref (u + 2)])) rfl ?_
  refine Ev.get rfl (by have := xT.2.2.2.2; omega) (pu_n (by omega) xT.1) rfl ?_
  refine Ev.go 2 (s' := ((pu h (t + 1) (eI 24 (va_cpy U.1 T.1 0 0 24))), 27, [(0, .ref t), (1, .ref u)], [.int 24, .int 0, .ref (t + 2), .int 0, .ref (u + 2)])) rfl ?_
  refine Ev.cpy rfl rfl (by have := xU.2.2.2.2; omega) (by have := xT.2.2.2.2; omega) (pu_n (by omega) xU.2.2.1) (pu_n (by omega) xT.2.2.1) (by decide) (by decide) (by decide) (by decide) (by decide) (Nat.le_of_ble_eq_true rfl) ?_
  refine Ev.go 1 (s' := ((pu (pu h (t + 1) (eI 24 (va_cpy U.1 T.1 0 0 24))) (t + 2) (eI 24 (va_cpy U.2.1 T.2.1 0 0 24))), 31, [(0, .ref t), (1, .ref u)], [.ref u])) rfl ?_
  refine Ev.get rfl (by have := xU.2.2.2.2; omega) (pu_n (by omega) (pu_n (by omega) xU.1)) rfl ?_
  refine Ev.go 2 (s' := ((pu (pu h (t + 1) (eI 24 (va_cpy U.1 T.1 0 0 24))) (t + 2) (eI 24 (va_cpy U.2.1 T.2.1 0 0 24))), 36, [(0, .ref t), (1, .ref u)], [.ref t, .int 0, .ref (u + 3)])) rfl ?_
  refine Ev.get rfl (by have := xT.2.2.2.2; omega) (pu_n (by omega) (pu_n (by omega) xT.1)) rfl ?_
  refine Ev.go 2 (s' := ((pu (pu h (t + 1) (eI 24 (va_cpy U.1 T.1 0 0 24))) (t + 2) (eI 24 (va_cpy U.2.1 T.2.1 0 0 24))), 42, [(0, .ref t), (1, .ref u)], [.int 24, .int 0, .ref (t + 3), .int 0, .ref (u + 3)])) rfl ?_
  refine Ev.cpy rfl rfl (by have := xU.2.2.2.2; omega) (by have := xT.2.2.2.2; omega) (pu_n (by omega) (pu_n (by omega) xU.2.2.2.1)) (pu_n (by omega) (pu_n (by omega) xT.2.2.2.1)) (by decide) (by decide) (by decide) (by decide) (by decide) (Nat.le_of_ble_eq_true rfl) ?_
  refine Ev.go 2 (s' := ((pu (pu (pu h (t + 1) (eI 24 (va_cpy U.1 T.1 0 0 24))) (t + 2) (eI 24 (va_cpy U.2.1 T.2.1 0 0 24))) (t + 3) (eI 24 (va_cpy U.2.2.1 T.2.2.1 0 0 24))), 47, [(0, .ref t), (1, .ref u)], [.ref u, .ref t])) rfl ?_
  refine Ev.get rfl (by have := xU.2.2.2.2; omega) (pu_n (by omega) (pu_n (by omega) (pu_n (by omega) xU.1))) rfl ?_
  refine Ev.put rfl rfl (by have := xT.2.2.2.2; omega) (pu_n (by omega) (pu_n (by omega) (pu_n (by omega) xT.1))) (Nat.le_of_ble_eq_true rfl) rfl rfl (fs' := [.ref (t + 1), .ref (t + 2), .ref (t + 3), .int U.2.2.2.1, .int T.2.2.2.2.1, .int T.2.2.2.2.2]) rfl ?_
  refine Ev.go 2 (s' := ((pu (pu (pu (pu h (t + 1) (eI 24 (va_cpy U.1 T.1 0 0 24))) (t + 2) (eI 24 (va_cpy U.2.1 T.2.1 0 0 24))) (t + 3) (eI 24 (va_cpy U.2.2.1 T.2.2.1 0 0 24))) t (eO 6 [.ref (t + 1), .ref (t + 2), .ref (t + 3), .int U.2.2.2.1, .int T.2.2.2.2.1, .int T.2.2.2.2.2])), 55, [(0, .ref t), (1, .ref u)], [.ref u, .ref t])) rfl ?_
  refine Ev.get rfl (by have := xU.2.2.2.2; omega) (pu_n (by omega) (pu_n (by omega) (pu_n (by omega) (pu_n (by omega) xU.1)))) rfl ?_
  refine Ev.put rfl rfl (by have := xT.2.2.2.2; omega) pu_s (Nat.le_of_ble_eq_true rfl) rfl rfl (fs' := [.ref (t + 1), .ref (t + 2), .ref (t + 3), .int U.2.2.2.1, .int U.2.2.2.2.1, .int T.2.2.2.2.2]) rfl ?_
  refine Ev.go 2 (s' := ((pu (pu (pu (pu (pu h (t + 1) (eI 24 (va_cpy U.1 T.1 0 0 24))) (t + 2) (eI 24 (va_cpy U.2.1 T.2.1 0 0 24))) (t + 3) (eI 24 (va_cpy U.2.2.1 T.2.2.1 0 0 24))) t (eO 6 [.ref (t + 1), .ref (t + 2), .ref (t + 3), .int U.2.2.2.1, .int T.2.2.2.2.1, .int T.2.2.2.2.2])) t (eO 6 [.ref (t + 1), .ref (t + 2), .ref (t + 3), .int U.2.2.2.1, .int U.2.2.2.2.1, .int T.2.2.2.2.2])), 63, [(0, .ref t), (1, .ref u)], [.ref u, .ref t])) rfl ?_
  refine Ev.get rfl (by have := xU.2.2.2.2; omega) (pu_n (by omega) (pu_n (by omega) (pu_n (by omega) (pu_n (by omega) (pu_n (by omega) xU.1))))) rfl ?_
  refine Ev.put rfl rfl (by have := xT.2.2.2.2; omega) pu_s (Nat.le_of_ble_eq_true rfl) rfl rfl (fs' := [.ref (t + 1), .ref (t + 2), .ref (t + 3), .int U.2.2.2.1, .int U.2.2.2.2.1, .int U.2.2.2.2.2]) rfl ?_
  have H := Option.some.inj H
  subst H
  exact Ev.ret rfl rfl rfl ⟨rfl, ⟨pu_s, (pu_n (by omega) (pu_n (by omega) (pu_n (by omega) (pu_n (by omega) (pu_n (by omega) pu_s))))), (pu_n (by omega) (pu_n (by omega) (pu_n (by omega) (pu_n (by omega) pu_s)))), (pu_n (by omega) (pu_n (by omega) (pu_n (by omega) pu_s))), (by have := xT.2.2.2.2; omega)⟩, (fun k hk => by rw [pu_x (show k ≠ t from fun e => by have := hk; simp at this; omega)]; rw [pu_x (show k ≠ t from fun e => by have := hk; simp at this; omega)]; rw [pu_x (show k ≠ t from fun e => by have := hk; simp at this; omega)]; rw [pu_x (show k ≠ t + 3 from fun e => by have := hk; simp at this; omega)]; rw [pu_x (show k ≠ t + 2 from fun e => by have := hk; simp at this; omega)]; rw [pu_x (show k ≠ t + 1 from fun e => by have := hk; simp at this; omega)])⟩
def fX0_pick (kd : Int32) (least : Int32) (greatest : Int32) : Int32 := (if kd = 1 then least else (if kd = 2 then greatest else (if kd = 3 then if greatest < (least + 1) then greatest else (least + 1) else least + ((greatest - least) / 2))))
theorem spX0_pick {d : Nat} {h : pH}  (kd : Int32) (least : Int32) (greatest : Int32) : Ev (d + 1) mX0_pick (h, 0, [(0, .int kd), (1, .int least), (2, .int greatest)], []) (fun r h1 => r = some (.int (fX0_pick kd least greatest)) ∧ h1 = h) := by
  refine Ev.go 1 (s' := (h, 1, [(0, .int kd), (1, .int least), (2, .int greatest)], [.int kd])) rfl ?_
  rcases Classical.em (kd = 1) with c1 | c1
  · skip
    refine Ev.one (s' := (h, 28, [(0, .int kd), (1, .int least), (2, .int greatest)], [])) rfl rfl (by rw [c1]; rfl) ?_
    refine Ev.go 1 (s' := (h, 29, [(0, .int kd), (1, .int least), (2, .int greatest)], [.int least])) rfl ?_
    exact Ev.ret rfl rfl (p_retZ rfl) ⟨congrArg (fun z => some (Value.int z)) (by rw [fX0_pick, if_pos c1]), rfl⟩
  · skip
    rcases Classical.em (kd = 2) with c2 | c2
    · skip
      refine Ev.one (s' := (h, 30, [(0, .int kd), (1, .int least), (2, .int greatest)], [])) rfl rfl (by rw [c2]; rfl) ?_
      refine Ev.go 1 (s' := (h, 31, [(0, .int kd), (1, .int least), (2, .int greatest)], [.int greatest])) rfl ?_
      exact Ev.ret rfl rfl (p_retZ rfl) ⟨congrArg (fun z => some (Value.int z)) (by rw [fX0_pick, if_neg c1, if_pos c2]), rfl⟩
    · skip
      rcases Classical.em (kd = 3) with c3 | c3
      · skip
        refine Ev.one (s' := (h, 32, [(0, .int kd), (1, .int least), (2, .int greatest)], [])) rfl rfl (by rw [c3]; rfl) ?_
        refine Ev.go 4 (s' := (h, 36, [(0, .int kd), (1, .int least), (2, .int greatest)], [.int greatest, .int (least + 1)])) rfl ?_
        refine Ev.mmin rfl rfl (Nat.le_of_ble_eq_true rfl) ?_
        exact Ev.ret rfl rfl (p_retZ rfl) ⟨congrArg (fun z => some (Value.int z)) (by rw [fX0_pick, if_neg c1, if_neg c2, if_pos c3]), rfl⟩
      · skip
        refine Ev.one (s' := (h, 40, [(0, .int kd), (1, .int least), (2, .int greatest)], [])) rfl rfl (p_swt (p_sw_1_3 c1 c2 c3)) ?_
        refine Ev.go 5 (s' := (h, 45, [(0, .int kd), (1, .int least), (2, .int greatest)], [.int 2, .int (greatest - least), .int least])) rfl ?_
        refine Ev.idiv rfl (by decide) ?_
        refine Ev.go 1 (s' := (h, 47, [(0, .int kd), (1, .int least), (2, .int greatest)], [.int (least + ((greatest - least) / 2))])) rfl ?_
        exact Ev.ret rfl rfl (p_retZ rfl) ⟨congrArg (fun z => some (Value.int z)) (by rw [fX0_pick, if_neg c1, if_neg c2, if_neg c3]), rfl⟩
def lX0_choose_3 (n : Nat) : Nat → Int32 → Int32 → Int32 → Int32 → Option (Int32)
  | 0, _, _, _, _ => none
  | m + 1, x0, x1, x2, x3 => (if x3 ≤ 0 then some 0 else (if x3 = 0 then none else (if x3 = 0 then none else (if ((x2 - 1) / x3) < ((x1 / x3) + 1) then lX0_choose_3 n m x0 x1 x2 (x3 / 10) else some ((fX0_pick x0 ((x1 / x3) + 1) ((x2 - 1) / x3)) * x3)))))
theorem llX0_choose_3 {d n : Nat} : ∀ (m : Nat) (h : pH) (x0 : Int32) (x1 : Int32) (x2 : Int32) (x3 : Int32) (res : Int32), lX0_choose_3 n m x0 x1 x2 x3 = some res → True → Ev (d + 2) mX0_choose (h, 3, [(0, .int x0), (1, .int x1), (2, .int x2), (3, .int x3)], []) (fun r h1 => r = some (.int res) ∧ h1 = h)
  | 0, h, x0, x1, x2, x3, res, H, _ => by cases H
  | m + 1, h, x0, x1, x2, x3, res, H, _ => by
    have H : (if x3 ≤ 0 then some 0 else (if x3 = 0 then none else (if x3 = 0 then none else (if ((x2 - 1) / x3) < ((x1 / x3) + 1) then lX0_choose_3 n m x0 x1 x2 (x3 / 10) else some ((fX0_pick x0 ((x1 / x3) + 1) ((x2 - 1) / x3)) * x3))))) = some res := H
    refine Ev.go 1 (s' := (h, 4, [(0, .int x0), (1, .int x1), (2, .int x2), (3, .int x3)], [.int x3])) rfl ?_
    refine Ev.if1 rfl (fun c1 => ?_) (fun c1 => ?_)
    · have c1 : x3 ≤ 0 := c1
      rw [if_pos c1] at H
      refine Ev.go 1 (s' := (h, 48, [(0, .int x0), (1, .int x1), (2, .int x2), (3, .int x3)], [.int 0])) rfl ?_
      have H := Option.some.inj H
      subst H
      exact Ev.ret rfl rfl (p_retZ rfl) ⟨rfl, rfl⟩
    · have c1 : ¬ (x3 ≤ 0) := c1
      rw [if_neg c1] at H
      refine Ev.go 2 (s' := (h, 9, [(0, .int x0), (1, .int x1), (2, .int x2), (3, .int x3)], [.int x3, .int x1])) rfl ?_
      have v2 : ¬ (x3 = 0) := fun q => by rw [if_pos q] at H; cases H
      rw [if_neg v2] at H
      refine Ev.idiv rfl v2 ?_
      refine Ev.go 7 (s' := (h, 18, [(0, .int x0), (1, .int x1), (2, .int x2), (3, .int x3), (4, .int ((x1 / x3) + 1))], [.int x3, .int (x2 - 1)])) rfl ?_
      have v3 : ¬ (x3 = 0) := fun q => by rw [if_pos q] at H; cases H
      rw [if_neg v3] at H
      refine Ev.idiv rfl v3 ?_
      refine Ev.go 3 (s' := (h, 25, [(0, .int x0), (1, .int x1), (2, .int x2), (3, .int x3), (4, .int ((x1 / x3) + 1)), (5, .int ((x2 - 1) / x3))], [.int ((x2 - 1) / x3), .int ((x1 / x3) + 1)])) rfl ?_
      refine Ev.if2 rfl (fun c4 => ?_) (fun c4 => ?_)
      · have c4 : ((x2 - 1) / x3) < ((x1 / x3) + 1) := c4
        rw [if_pos c4] at H
        refine Ev.go 2 (s' := (h, 42, [(0, .int x0), (1, .int x1), (2, .int x2), (3, .int x3), (4, .int ((x1 / x3) + 1)), (5, .int ((x2 - 1) / x3))], [.int 10, .int x3])) rfl ?_
        refine Ev.idiv rfl (by decide) ?_
        refine Ev.go 2 (s' := (h, 3, [(0, .int x0), (1, .int x1), (2, .int x2), (3, .int (x3 / 10)), (4, .int ((x1 / x3) + 1)), (5, .int ((x2 - 1) / x3))], [])) rfl ?_
        refine Ev.live rfl (lv' := [(0, .int x0), (1, .int x1), (2, .int x2), (3, .int (x3 / 10))]) rfl ?_
        exact llX0_choose_3 m h x0 x1 x2 (x3 / 10) _ H trivial
      · have c4 : ¬ (((x2 - 1) / x3) < ((x1 / x3) + 1)) := c4
        rw [if_neg c4] at H
        refine Ev.go 3 (s' := (h, 33, [(0, .int x0), (1, .int x1), (2, .int x2), (3, .int x3), (4, .int ((x1 / x3) + 1)), (5, .int ((x2 - 1) / x3))], [.int ((x2 - 1) / x3), .int ((x1 / x3) + 1), .int x0])) rfl ?_
        refine Ev.callE rfl rfl rfl rfl rfl (Nat.le_of_ble_eq_true rfl) (spX0_pick  x0 ((x1 / x3) + 1) ((x2 - 1) / x3)) ?_
        refine Ev.go 2 (s' := (h, 38, [(0, .int x0), (1, .int x1), (2, .int x2), (3, .int x3), (4, .int ((x1 / x3) + 1)), (5, .int ((x2 - 1) / x3))], [.int ((fX0_pick x0 ((x1 / x3) + 1) ((x2 - 1) / x3)) * x3)])) rfl ?_
        have H := Option.some.inj H
        subst H
        exact Ev.ret rfl rfl (p_retZ rfl) ⟨rfl, rfl⟩
def fX0_choose (n : Nat) (kd : Int32) (low : Int32) (high : Int32) : Option (Int32) := lX0_choose_3 n n kd low high 100000000
theorem spX0_choose {d n : Nat} {h : pH}  (kd : Int32) (low : Int32) (high : Int32) {res : Int32} (H : fX0_choose n kd low high = some res) : Ev (d + 2) mX0_choose (h, 0, [(0, .int kd), (1, .int low), (2, .int high)], []) (fun r h1 => r = some (.int res) ∧ h1 = h) := by
  unfold fX0_choose at H
  refine Ev.go 2 (s' := (h, 3, [(0, .int kd), (1, .int low), (2, .int high), (3, .int 100000000)], [])) rfl ?_
  refine Ev.live rfl (lv' := [(0, .int kd), (1, .int low), (2, .int high), (3, .int 100000000)]) rfl ?_
  exact llX0_choose_3 n h kd low high 100000000 _ H trivial
def lX0_length_5 (n : Nat) : Nat → Int32 → Int32 → Option (Int32)
  | 0, _, _ => none
  | m + 1, x1, x2 => (if x1 ≤ 1 then some x1 else (if ¬ (x2 - x2 / 10 * 10) = 0 then some x1 else lX0_length_5 n m (x1 + (-1)) (x2 / 10)))
theorem llX0_length_5 {d n : Nat} : ∀ (m : Nat) (h : pH) (x1 : Int32) (x2 : Int32) (res : Int32), lX0_length_5 n m x1 x2 = some res → True → Ev d mX0_length (h, 5, [(1, .int x1), (2, .int x2)], []) (fun r h1 => r = some (.int res) ∧ h1 = h)
  | 0, h, x1, x2, res, H, _ => by cases H
  | m + 1, h, x1, x2, res, H, _ => by
    have H : (if x1 ≤ 1 then some x1 else (if ¬ (x2 - x2 / 10 * 10) = 0 then some x1 else lX0_length_5 n m (x1 + (-1)) (x2 / 10))) = some res := H
    refine Ev.go 2 (s' := (h, 7, [(1, .int x1), (2, .int x2)], [.int 1, .int x1])) rfl ?_
    refine Ev.if2 rfl (fun c1 => ?_) (fun c1 => ?_)
    · have c1 : x1 ≤ 1 := c1
      rw [if_pos c1] at H
      refine Ev.go 1 (s' := (h, 29, [(1, .int x1), (2, .int x2)], [.int x1])) rfl ?_
      have H := Option.some.inj H
      subst H
      exact Ev.ret rfl rfl (p_retZ rfl) ⟨rfl, rfl⟩
    · have c1 : ¬ (x1 ≤ 1) := c1
      rw [if_neg c1] at H
      refine Ev.go 2 (s' := (h, 13, [(1, .int x1), (2, .int x2)], [.int 10, .int x2])) rfl ?_
      refine Ev.irem rfl (by decide) ?_
      refine Ev.if1 rfl (fun c2 => ?_) (fun c2 => ?_)
      · have c2 : ¬ (x2 - x2 / 10 * 10) = 0 := c2
        rw [if_pos c2] at H
        refine Ev.go 1 (s' := (h, 29, [(1, .int x1), (2, .int x2)], [.int x1])) rfl ?_
        have H := Option.some.inj H
        subst H
        exact Ev.ret rfl rfl (p_retZ rfl) ⟨rfl, rfl⟩
      · have c2 : ¬ (¬ (x2 - x2 / 10 * 10) = 0) := c2
        rw [if_neg c2] at H
        refine Ev.go 2 (s' := (h, 20, [(1, .int x1), (2, .int x2)], [.int 10, .int x2])) rfl ?_
        refine Ev.idiv rfl (by decide) ?_
        refine Ev.go 3 (s' := (h, 5, [(1, .int (x1 + (-1))), (2, .int (x2 / 10))], [])) rfl ?_
        refine Ev.live rfl (lv' := [(1, .int (x1 + (-1))), (2, .int (x2 / 10))]) rfl ?_
        exact llX0_length_5 m h (x1 + (-1)) (x2 / 10) _ H trivial
def fX0_length (n : Nat) (spot : Int32) : Option (Int32) := lX0_length_5 n n 9 spot
theorem spX0_length {d n : Nat} {h : pH}  (spot : Int32) {res : Int32} (H : fX0_length n spot = some res) : Ev d mX0_length (h, 0, [(0, .int spot)], []) (fun r h1 => r = some (.int res) ∧ h1 = h) := by
  unfold fX0_length at H
  refine Ev.go 4 (s' := (h, 5, [(0, .int spot), (1, .int 9), (2, .int spot)], [])) rfl ?_
  refine Ev.live rfl (lv' := [(1, .int 9), (2, .int spot)]) rfl ?_
  exact llX0_length_5 n h 9 spot _ H trivial
def lX0_figures_7 (n : Nat) : Nat → Int32 → Int32 → Option (Int32)
  | 0, _, _ => none
  | m + 1, x1, x2 => (if 9 ≤ x2 then some x1 else lX0_figures_7 n m (x1 / 10) (x2 + 1))
theorem llX0_figures_7 {d n : Nat} : ∀ (m : Nat) (h : pH) (x1 : Int32) (x2 : Int32) (res : Int32), lX0_figures_7 n m x1 x2 = some res → True → Ev (d + 1) mX0_figures (h, 7, [(1, .int x1), (2, .int x2)], []) (fun r h1 => r = some (.int res) ∧ h1 = h)
  | 0, h, x1, x2, res, H, _ => by cases H
  | m + 1, h, x1, x2, res, H, _ => by
    have H : (if 9 ≤ x2 then some x1 else lX0_figures_7 n m (x1 / 10) (x2 + 1)) = some res := H
    refine Ev.go 2 (s' := (h, 10, [(1, .int x1), (2, .int x2)], [.int 9, .int x2])) rfl ?_
    refine Ev.if2 rfl (fun c3 => ?_) (fun c3 => ?_)
    · have c3 : 9 ≤ x2 := c3
      rw [if_pos c3] at H
      refine Ev.go 1 (s' := (h, 25, [(1, .int x1), (2, .int x2)], [.int x1])) rfl ?_
      have H := Option.some.inj H
      subst H
      exact Ev.ret rfl rfl (p_retZ rfl) ⟨rfl, rfl⟩
    · have c3 : ¬ (9 ≤ x2) := c3
      rw [if_neg c3] at H
      refine Ev.go 2 (s' := (h, 16, [(1, .int x1), (2, .int x2)], [.int 10, .int x1])) rfl ?_
      refine Ev.idiv rfl (by decide) ?_
      refine Ev.go 3 (s' := (h, 7, [(1, .int (x1 / 10)), (2, .int (x2 + 1))], [])) rfl ?_
      refine Ev.live rfl (lv' := [(1, .int (x1 / 10)), (2, .int (x2 + 1))]) rfl ?_
      exact llX0_figures_7 m h (x1 / 10) (x2 + 1) _ H trivial
def fX0_figures (n : Nat) (spot : Int32) : Option (Int32) := ((fX0_length n spot).bind fun y2 => lX0_figures_7 n n spot y2)
theorem spX0_figures {d n : Nat} {h : pH}  (spot : Int32) {res : Int32} (H : fX0_figures n spot = some res) : Ev (d + 1) mX0_figures (h, 0, [(0, .int spot)], []) (fun r h1 => r = some (.int res) ∧ h1 = h) := by
  unfold fX0_figures at H
  refine Ev.go 3 (s' := (h, 3, [(0, .int spot), (1, .int spot)], [.int spot])) rfl ?_
  obtain ⟨y2, e1, H⟩ := Option.bind_eq_some_iff.mp H
  refine Ev.callE rfl rfl rfl rfl rfl (Nat.le_of_ble_eq_true rfl) (spX0_length  spot e1) ?_
  refine Ev.go 1 (s' := (h, 7, [(0, .int spot), (1, .int spot), (2, .int y2)], [])) rfl ?_
  refine Ev.live rfl (lv' := [(1, .int spot), (2, .int y2)]) rfl ?_
  exact llX0_figures_7 n h spot y2 _ H trivial
def fX7_spotFor (n : Nat) (T : tT) (p : Int32) (place : Int32) : Option (Int32) := (if place ≤ 0 then ((fX7_nextKid n T p 0).bind fun y3 => (if 0 ≤ y3 then ((fX0_choose n T.2.2.2.2.2 0 (fX7_spotOf T y3)).bind fun y6 => some y6) else ((fX0_choose n T.2.2.2.2.2 0 1000000000).bind fun y8 => some y8))) else ((fX7_childAt n T p (place - 1)).bind fun y10 => ((fX7_nextKid n T p (fX7_spotOf T y10)).bind fun y12 => (if 0 ≤ y12 then ((fX0_choose n T.2.2.2.2.2 (fX7_spotOf T y10) (fX7_spotOf T y12)).bind fun y15 => some y15) else ((fX0_choose n T.2.2.2.2.2 (fX7_spotOf T y10) 1000000000).bind fun y17 => some y17)))))
theorem spX7_spotFor {d n : Nat} {h : pH} {t : Nat} {T : tT} (xT : isT h t T) (p : Int32) (place : Int32) {res : Int32} (H : fX7_spotFor n T p place = some res) : Ev (d + 3) mX7_spotFor (h, 0, [(0, .ref t), (1, .int p), (2, .int place)], []) (fun r h1 => r = some (.int res) ∧ h1 = h) := by
  unfold fX7_spotFor at H
  refine Ev.go 1 (s' := (h, 1, [(0, .ref t), (1, .int p), (2, .int place)], [.int place])) rfl ?_
  refine Ev.if1 rfl (fun c1 => ?_) (fun c1 => ?_)
  · have c1 : place ≤ 0 := c1
    rw [if_pos c1] at H
    refine Ev.go 5 (s' := (h, 24, [(0, .ref t), (1, .int p), (2, .int place), (3, .int 0)], [.int 0, .int p, .ref t])) rfl ?_
    obtain ⟨y3, e2, H⟩ := Option.bind_eq_some_iff.mp H
    refine Ev.callE rfl rfl rfl (p_argsV (by have := xT.2.2.2.2; omega) xT.1 (Nat.le_of_ble_eq_true rfl)) rfl (Nat.le_of_ble_eq_true rfl) (spX7_nextKid xT p 0 e2) ?_
    refine Ev.go 2 (s' := (h, 30, [(0, .ref t), (1, .int p), (2, .int place), (3, .int 0), (4, .int y3)], [.ref t])) rfl ?_
    refine Ev.get rfl (by have := xT.2.2.2.2; omega) xT.1 rfl ?_
    refine Ev.go 2 (s' := (h, 36, [(0, .ref t), (1, .int p), (2, .int place), (3, .int 0), (4, .int y3)], [.int y3, .int 0, .int T.2.2.2.2.2])) rfl ?_
    refine Ev.if1 rfl (fun c4 => ?_) (fun c4 => ?_)
    · have c4 : 0 ≤ y3 := c4
      rw [if_pos c4] at H
      refine Ev.go 2 (s' := (h, 47, [(0, .ref t), (1, .int p), (2, .int place), (3, .int 0), (4, .int y3)], [.int y3, .ref t, .int 0, .int T.2.2.2.2.2])) rfl ?_
      refine Ev.callE rfl rfl rfl (p_argsV (by have := xT.2.2.2.2; omega) xT.1 (Nat.le_of_ble_eq_true rfl)) rfl (Nat.le_of_ble_eq_true rfl) (spX7_spotOf xT y3) ?_
      obtain ⟨y6, e5, H⟩ := Option.bind_eq_some_iff.mp H
      refine Ev.callE rfl rfl rfl rfl rfl (Nat.le_of_ble_eq_true rfl) (spX0_choose  T.2.2.2.2.2 0 (fX7_spotOf T y3) e5) ?_
      have H := Option.some.inj H
      subst H
      exact Ev.ret rfl rfl (p_retZ rfl) ⟨rfl, rfl⟩
    · have c4 : ¬ (0 ≤ y3) := c4
      rw [if_neg c4] at H
      refine Ev.go 2 (s' := (h, 50, [(0, .ref t), (1, .int p), (2, .int place), (3, .int 0), (4, .int y3)], [.int 1000000000, .int 0, .int T.2.2.2.2.2])) rfl ?_
      obtain ⟨y8, e7, H⟩ := Option.bind_eq_some_iff.mp H
      refine Ev.callE rfl rfl rfl rfl rfl (Nat.le_of_ble_eq_true rfl) (spX0_choose  T.2.2.2.2.2 0 1000000000 e7) ?_
      have H := Option.some.inj H
      subst H
      exact Ev.ret rfl rfl (p_retZ rfl) ⟨rfl, rfl⟩
  · have c1 : ¬ (place ≤ 0) := c1
    rw [if_neg c1] at H
    refine Ev.go 6 (s' := (h, 10, [(0, .ref t), (1, .int p), (2, .int place)], [.int (place - 1), .int p, .ref t, .ref t])) rfl ?_
    obtain ⟨y10, e9, H⟩ := Option.bind_eq_some_iff.mp H
    refine Ev.callE rfl rfl rfl (p_argsV (by have := xT.2.2.2.2; omega) xT.1 (Nat.le_of_ble_eq_true rfl)) rfl (Nat.le_of_ble_eq_true rfl) (spX7_childAt xT p (place - 1) e9) ?_
    refine Ev.callE rfl rfl rfl (p_argsV (by have := xT.2.2.2.2; omega) xT.1 (Nat.le_of_ble_eq_true rfl)) rfl (Nat.le_of_ble_eq_true rfl) (spX7_spotOf xT y10) ?_
    refine Ev.go 5 (s' := (h, 24, [(0, .ref t), (1, .int p), (2, .int place), (3, .int (fX7_spotOf T y10))], [.int (fX7_spotOf T y10), .int p, .ref t])) rfl ?_
    obtain ⟨y12, e11, H⟩ := Option.bind_eq_some_iff.mp H
    refine Ev.callE rfl rfl rfl (p_argsV (by have := xT.2.2.2.2; omega) xT.1 (Nat.le_of_ble_eq_true rfl)) rfl (Nat.le_of_ble_eq_true rfl) (spX7_nextKid xT p (fX7_spotOf T y10) e11) ?_
    refine Ev.go 2 (s' := (h, 30, [(0, .ref t), (1, .int p), (2, .int place), (3, .int (fX7_spotOf T y10)), (4, .int y12)], [.ref t])) rfl ?_
    refine Ev.get rfl (by have := xT.2.2.2.2; omega) xT.1 rfl ?_
    refine Ev.go 2 (s' := (h, 36, [(0, .ref t), (1, .int p), (2, .int place), (3, .int (fX7_spotOf T y10)), (4, .int y12)], [.int y12, .int (fX7_spotOf T y10), .int T.2.2.2.2.2])) rfl ?_
    refine Ev.if1 rfl (fun c13 => ?_) (fun c13 => ?_)
    · have c13 : 0 ≤ y12 := c13
      rw [if_pos c13] at H
      refine Ev.go 2 (s' := (h, 47, [(0, .ref t), (1, .int p), (2, .int place), (3, .int (fX7_spotOf T y10)), (4, .int y12)], [.int y12, .ref t, .int (fX7_spotOf T y10), .int T.2.2.2.2.2])) rfl ?_
      refine Ev.callE rfl rfl rfl (p_argsV (by have := xT.2.2.2.2; omega) xT.1 (Nat.le_of_ble_eq_true rfl)) rfl (Nat.le_of_ble_eq_true rfl) (spX7_spotOf xT y12) ?_
      obtain ⟨y15, e14, H⟩ := Option.bind_eq_some_iff.mp H
      refine Ev.callE rfl rfl rfl rfl rfl (Nat.le_of_ble_eq_true rfl) (spX0_choose  T.2.2.2.2.2 (fX7_spotOf T y10) (fX7_spotOf T y12) e14) ?_
      have H := Option.some.inj H
      subst H
      exact Ev.ret rfl rfl (p_retZ rfl) ⟨rfl, rfl⟩
    · have c13 : ¬ (0 ≤ y12) := c13
      rw [if_neg c13] at H
      refine Ev.go 2 (s' := (h, 50, [(0, .ref t), (1, .int p), (2, .int place), (3, .int (fX7_spotOf T y10)), (4, .int y12)], [.int 1000000000, .int (fX7_spotOf T y10), .int T.2.2.2.2.2])) rfl ?_
      obtain ⟨y17, e16, H⟩ := Option.bind_eq_some_iff.mp H
      refine Ev.callE rfl rfl rfl rfl rfl (Nat.le_of_ble_eq_true rfl) (spX0_choose  T.2.2.2.2.2 (fX7_spotOf T y10) 1000000000 e16) ?_
      have H := Option.some.inj H
      subst H
      exact Ev.ret rfl rfl (p_retZ rfl) ⟨rfl, rfl⟩
