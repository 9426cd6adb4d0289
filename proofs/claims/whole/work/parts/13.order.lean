/-! Letters, Pattern, Past, Order: their methods as functions -/
def fX1_size (L : tL) : Int32 := L.2
theorem spX1_size {d : Nat} {h : pH} {L : tL} (xL : isL h L) : Ev d mX1_size (h, 0, [(0, .ref 1)], []) (fun r h1 => r = some (.int (fX1_size L)) ∧ h1 = h) := by
  refine Ev.go 1 (s' := (h, 1, [(0, .ref 1)], [.ref 1])) rfl ?_
  refine Ev.get rfl (by decide) xL.1 rfl ?_
  exact Ev.ret rfl rfl (p_retZ rfl) ⟨congrArg (fun z => some (Value.int z)) (by rw [fX1_size]), rfl⟩
def fX1_isFull (L : tL) : Int32 := (if L.2 < 200 then 0 else 1)
theorem spX1_isFull {d : Nat} {h : pH} {L : tL} (xL : isL h L) : Ev d mX1_isFull (h, 0, [(0, .ref 1)], []) (fun r h1 => r = some (.int (fX1_isFull L)) ∧ h1 = h) := by
  refine Ev.go 1 (s' := (h, 1, [(0, .ref 1)], [.ref 1])) rfl ?_
  refine Ev.get rfl (by decide) xL.1 rfl ?_
  refine Ev.go 1 (s' := (h, 7, [(0, .ref 1)], [.int 200, .int L.2])) rfl ?_
  refine Ev.if2 rfl (fun c1 => ?_) (fun c1 => ?_)
  · have c1 : L.2 < 200 := c1
    refine Ev.go 1 (s' := (h, 15, [(0, .ref 1)], [.int 0])) rfl ?_
    exact Ev.ret rfl rfl (p_retZ rfl) ⟨congrArg (fun z => some (Value.int z)) (by rw [fX1_isFull, if_pos c1]), rfl⟩
  · have c1 : ¬ (L.2 < 200) := c1
    refine Ev.go 2 (s' := (h, 15, [(0, .ref 1)], [.int 1])) rfl ?_
    exact Ev.ret rfl rfl (p_retZ rfl) ⟨congrArg (fun z => some (Value.int z)) (by rw [fX1_isFull, if_neg c1]), rfl⟩
def fX1_add (L : tL) (letter : Int32) : Option (tL) := (if 200 ≤ L.2 then some L else (if L.2 < 0 ∨ 200 ≤ L.2.toNatClampNeg then none else some (upd L.1 L.2.toNatClampNeg letter, L.2 + 1)))
theorem spX1_add {d : Nat} {h : pH} {L : tL} (xL : isL h L) (letter : Int32) {res : tL} (H : fX1_add L letter = some res) : Ev d mX1_add (h, 0, [(0, .ref 1), (1, .int letter)], []) (fun r h1 => r = none ∧ isL h1 res ∧ fr [(1, 3)] h h1) := by
  unfold fX1_add at H
  refine Ev.go 1 (s' := (h, 1, [(0, .ref 1), (1, .int letter)], [.ref 1])) rfl ?_
  refine Ev.get rfl (by decide) xL.1 rfl ?_
  refine Ev.go 1 (s' := (h, 7, [(0, .ref 1), (1, .int letter)], [.int 200, .int L.2])) rfl ?_
  refine Ev.if2 rfl (fun c1 => ?_) (fun c1 => ?_)
  · have c1 : 200 ≤ L.2 := c1
    rw [if_pos c1] at H
    have H := Option.some.inj H
    subst H
    exact Ev.ret rfl rfl rfl ⟨rfl, xL, (fun k _ => rfl)⟩
  · have c1 : ¬ (200 ≤ L.2) := c1
    rw [if_neg c1] at H
    refine Ev.go 1 (s' := (h, 11, [(0, .ref 1), (1, .int letter)], [.ref 1])) rfl ?_
    refine Ev.get rfl (by decide) xL.1 rfl ?_
    refine Ev.go 1 (s' := (h, 15, [(0, .ref 1), (1, .int letter)], [.ref 1, .ref 2])) rfl ?_
    refine Ev.get rfl (by decide) xL.1 rfl ?_
    refine Ev.go 1 (s' := (h, 19, [(0, .ref 1), (1, .int letter)], [.int letter, .int L.2, .ref 2])) rfl ?_
    have v2 : vp_in L.2 200 := fun q => by rw [if_pos q] at H; cases H
    rw [if_neg v2] at H
    refine Ev.iast rfl (by decide) xL.2 v2 ?_
    refine Ev.go 2 (s' := ((pu h 2 (eI 200 (upd L.1 L.2.toNatClampNeg letter))), 22, [(0, .ref 1), (1, .int letter)], [.ref 1, .ref 1])) rfl ?_
    refine Ev.get rfl (by decide) (pu_n (by decide) xL.1) rfl ?_
    refine Ev.go 2 (s' := ((pu h 2 (eI 200 (upd L.1 L.2.toNatClampNeg letter))), 27, [(0, .ref 1), (1, .int letter)], [.int (L.2 + 1), .ref 1])) rfl ?_
    refine Ev.put rfl rfl (by decide) (pu_n (by decide) xL.1) (Nat.le_of_ble_eq_true rfl) rfl rfl (fs' := [.ref 2, .int (L.2 + 1)]) rfl ?_
    have H := Option.some.inj H
    subst H
    exact Ev.ret rfl rfl rfl ⟨rfl, ⟨pu_s, (pu_n (by decide) pu_s)⟩, (fun k hk => by rw [pu_x (show k ≠ 1 from fun e => by have := hk; simp at this; omega)]; rw [pu_x (show k ≠ 2 from fun e => by have := hk; simp at this; omega)])⟩
def fX1_clear (L : tL) : Option (tL) := some (L.1, 0)
theorem spX1_clear {d : Nat} {h : pH} {L : tL} (xL : isL h L) {res : tL} (H : fX1_clear L = some res) : Ev d mX1_clear (h, 0, [(0, .ref 1)], []) (fun r h1 => r = none ∧ isL h1 res ∧ fr [(1, 3)] h h1) := by
  unfold fX1_clear at H
  refine Ev.go 2 (s' := (h, 2, [(0, .ref 1)], [.int 0, .ref 1])) rfl ?_
  refine Ev.put rfl rfl (by decide) xL.1 (Nat.le_of_ble_eq_true rfl) rfl rfl (fs' := [.ref 2, .int 0]) rfl ?_
  have H := Option.some.inj H
  subst H
  exact Ev.ret rfl rfl rfl ⟨rfl, ⟨pu_s, (pu_n (by decide) xL.2)⟩, (fun k hk => by rw [pu_x (show k ≠ 1 from fun e => by have := hk; simp at this; omega)])⟩
def fX1_letterAt (L : tL) (place : Int32) : Option (Int32) := (if place < 0 then some (-1) else (if L.2 ≤ place then some (-1) else (if place < 0 ∨ 200 ≤ place.toNatClampNeg then none else some (L.1 place.toNatClampNeg))))
theorem spX1_letterAt {d : Nat} {h : pH} {L : tL} (xL : isL h L) (place : Int32) {res : Int32} (H : fX1_letterAt L place = some res) : Ev d mX1_letterAt (h, 0, [(0, .ref 1), (1, .int place)], []) (fun r h1 => r = some (.int res) ∧ h1 = h) := by
  unfold fX1_letterAt at H
  refine Ev.go 1 (s' := (h, 1, [(0, .ref 1), (1, .int place)], [.int place])) rfl ?_
  refine Ev.if1 rfl (fun c1 => ?_) (fun c1 => ?_)
  · have c1 : place < 0 := c1
    rw [if_pos c1] at H
    refine Ev.go 1 (s' := (h, 22, [(0, .ref 1), (1, .int place)], [.int ((-1))])) rfl ?_
    have H := Option.some.inj H
    subst H
    exact Ev.ret rfl rfl (p_retZ rfl) ⟨rfl, rfl⟩
  · have c1 : ¬ (place < 0) := c1
    rw [if_neg c1] at H
    refine Ev.go 2 (s' := (h, 6, [(0, .ref 1), (1, .int place)], [.ref 1, .int place])) rfl ?_
    refine Ev.get rfl (by decide) xL.1 rfl ?_
    refine Ev.if2 rfl (fun c2 => ?_) (fun c2 => ?_)
    · have c2 : L.2 ≤ place := c2
      rw [if_pos c2] at H
      refine Ev.go 1 (s' := (h, 22, [(0, .ref 1), (1, .int place)], [.int ((-1))])) rfl ?_
      have H := Option.some.inj H
      subst H
      exact Ev.ret rfl rfl (p_retZ rfl) ⟨rfl, rfl⟩
    · have c2 : ¬ (L.2 ≤ place) := c2
      rw [if_neg c2] at H
      refine Ev.go 1 (s' := (h, 13, [(0, .ref 1), (1, .int place)], [.ref 1])) rfl ?_
      refine Ev.get rfl (by decide) xL.1 rfl ?_
      refine Ev.go 1 (s' := (h, 17, [(0, .ref 1), (1, .int place)], [.int place, .ref 2])) rfl ?_
      have v3 : vp_in place 200 := fun q => by rw [if_pos q] at H; cases H
      rw [if_neg v3] at H
      refine Ev.iald rfl (by decide) xL.2 v3 ?_
      refine Ev.go 1 (s' := (h, 22, [(0, .ref 1), (1, .int place)], [.int (L.1 place.toNatClampNeg)])) rfl ?_
      have H := Option.some.inj H
      subst H
      exact Ev.ret rfl rfl (p_retZ rfl) ⟨rfl, rfl⟩
def fX5_size (S : tS) : Int32 := S.2.2.2.1
theorem spX5_size {d : Nat} {h : pH} {t : Nat} {S : tS} (xS : isS h t S) : Ev d mX5_size (h, 0, [(0, .ref t)], []) (fun r h1 => r = some (.int (fX5_size S)) ∧ h1 = h) := by
  refine Ev.go 1 (s' := (h, 1, [(0, .ref t)], [.ref t])) rfl ?_
  refine Ev.get rfl (by have := xS.2.2.2.2; omega) xS.1 rfl ?_
  exact Ev.ret rfl rfl (p_retZ rfl) ⟨congrArg (fun z => some (Value.int z)) (by rw [fX5_size]), rfl⟩
def fX5_has (S : tS) (q : Int32) : Int32 := (if q < 0 then 0 else (if S.2.2.2.1 ≤ q then 0 else 1))
theorem spX5_has {d : Nat} {h : pH} {t : Nat} {S : tS} (xS : isS h t S) (q : Int32) : Ev d mX5_has (h, 0, [(0, .ref t), (1, .int q)], []) (fun r h1 => r = some (.int (fX5_has S q)) ∧ h1 = h) := by
  refine Ev.go 1 (s' := (h, 1, [(0, .ref t), (1, .int q)], [.int q])) rfl ?_
  refine Ev.if1 rfl (fun c1 => ?_) (fun c1 => ?_)
  · have c1 : q < 0 := c1
    refine Ev.go 1 (s' := (h, 17, [(0, .ref t), (1, .int q)], [.int 0])) rfl ?_
    exact Ev.ret rfl rfl (p_retZ rfl) ⟨congrArg (fun z => some (Value.int z)) (by rw [fX5_has, if_pos c1]), rfl⟩
  · have c1 : ¬ (q < 0) := c1
    refine Ev.go 2 (s' := (h, 6, [(0, .ref t), (1, .int q)], [.ref t, .int q])) rfl ?_
    refine Ev.get rfl (by have := xS.2.2.2.2; omega) xS.1 rfl ?_
    refine Ev.if2 rfl (fun c2 => ?_) (fun c2 => ?_)
    · have c2 : S.2.2.2.1 ≤ q := c2
      refine Ev.go 1 (s' := (h, 17, [(0, .ref t), (1, .int q)], [.int 0])) rfl ?_
      exact Ev.ret rfl rfl (p_retZ rfl) ⟨congrArg (fun z => some (Value.int z)) (by rw [fX5_has, if_neg c1, if_pos c2]), rfl⟩
    · have c2 : ¬ (S.2.2.2.1 ≤ q) := c2
      refine Ev.go 2 (s' := (h, 17, [(0, .ref t), (1, .int q)], [.int 1])) rfl ?_
      exact Ev.ret rfl rfl (p_retZ rfl) ⟨congrArg (fun z => some (Value.int z)) (by rw [fX5_has, if_neg c1, if_neg c2]), rfl⟩
def fX5_lastOutermost (S : tS) : Int32 := S.2.2.2.2
theorem spX5_lastOutermost {d : Nat} {h : pH} {t : Nat} {S : tS} (xS : isS h t S) : Ev d mX5_lastOutermost (h, 0, [(0, .ref t)], []) (fun r h1 => r = some (.int (fX5_lastOutermost S)) ∧ h1 = h) := by
  refine Ev.go 1 (s' := (h, 1, [(0, .ref t)], [.ref t])) rfl ?_
  refine Ev.get rfl (by have := xS.2.2.2.2; omega) xS.1 rfl ?_
  exact Ev.ret rfl rfl (p_retZ rfl) ⟨congrArg (fun z => some (Value.int z)) (by rw [fX5_lastOutermost]), rfl⟩
def fX5_tagOf (S : tS) (q : Int32) : Option (Int32) := (if (fX5_has S q) = 0 then some (-1) else (if q < 0 ∨ 8 ≤ q.toNatClampNeg then none else some (S.1 q.toNatClampNeg)))
theorem spX5_tagOf {d : Nat} {h : pH} {t : Nat} {S : tS} (xS : isS h t S) (q : Int32) {res : Int32} (H : fX5_tagOf S q = some res) : Ev (d + 1) mX5_tagOf (h, 0, [(0, .ref t), (1, .int q)], []) (fun r h1 => r = some (.int res) ∧ h1 = h) := by
  unfold fX5_tagOf at H
  refine Ev.go 2 (s' := (h, 2, [(0, .ref t), (1, .int q)], [.int q, .ref t])) rfl ?_
  refine Ev.callE rfl rfl rfl (p_argsV (by have := xS.2.2.2.2; omega) xS.1 (Nat.le_of_ble_eq_true rfl)) rfl (Nat.le_of_ble_eq_true rfl) (spX5_has xS q) ?_
  refine Ev.if1 rfl (fun c1 => ?_) (fun c1 => ?_)
  · have c1 : (fX5_has S q) = 0 := c1
    rw [if_pos c1] at H
    refine Ev.go 1 (s' := (h, 18, [(0, .ref t), (1, .int q)], [.int ((-1))])) rfl ?_
    have H := Option.some.inj H
    subst H
    exact Ev.ret rfl rfl (p_retZ rfl) ⟨rfl, rfl⟩
  · have c1 : ¬ ((fX5_has S q) = 0) := c1
    rw [if_neg c1] at H
    refine Ev.go 1 (s' := (h, 9, [(0, .ref t), (1, .int q)], [.ref t])) rfl ?_
    refine Ev.get rfl (by have := xS.2.2.2.2; omega) xS.1 rfl ?_
    refine Ev.go 1 (s' := (h, 13, [(0, .ref t), (1, .int q)], [.int q, .ref (t + 1)])) rfl ?_
    have v2 : vp_in q 8 := fun q => by rw [if_pos q] at H; cases H
    rw [if_neg v2] at H
    refine Ev.iald rfl (by have := xS.2.2.2.2; omega) xS.2.1 v2 ?_
    refine Ev.go 1 (s' := (h, 18, [(0, .ref t), (1, .int q)], [.int (S.1 q.toNatClampNeg)])) rfl ?_
    have H := Option.some.inj H
    subst H
    exact Ev.ret rfl rfl (p_retZ rfl) ⟨rfl, rfl⟩
def fX5_hangOf (S : tS) (q : Int32) : Option (Int32) := (if (fX5_has S q) = 0 then some (-1) else (if q < 0 ∨ 8 ≤ q.toNatClampNeg then none else some (S.2.1 q.toNatClampNeg)))
theorem spX5_hangOf {d : Nat} {h : pH} {t : Nat} {S : tS} (xS : isS h t S) (q : Int32) {res : Int32} (H : fX5_hangOf S q = some res) : Ev (d + 1) mX5_hangOf (h, 0, [(0, .ref t), (1, .int q)], []) (fun r h1 => r = some (.int res) ∧ h1 = h) := by
  unfold fX5_hangOf at H
  refine Ev.go 2 (s' := (h, 2, [(0, .ref t), (1, .int q)], [.int q, .ref t])) rfl ?_
  refine Ev.callE rfl rfl rfl (p_argsV (by have := xS.2.2.2.2; omega) xS.1 (Nat.le_of_ble_eq_true rfl)) rfl (Nat.le_of_ble_eq_true rfl) (spX5_has xS q) ?_
  refine Ev.if1 rfl (fun c1 => ?_) (fun c1 => ?_)
  · have c1 : (fX5_has S q) = 0 := c1
    rw [if_pos c1] at H
    refine Ev.go 1 (s' := (h, 18, [(0, .ref t), (1, .int q)], [.int ((-1))])) rfl ?_
    have H := Option.some.inj H
    subst H
    exact Ev.ret rfl rfl (p_retZ rfl) ⟨rfl, rfl⟩
  · have c1 : ¬ ((fX5_has S q) = 0) := c1
    rw [if_neg c1] at H
    refine Ev.go 1 (s' := (h, 9, [(0, .ref t), (1, .int q)], [.ref t])) rfl ?_
    refine Ev.get rfl (by have := xS.2.2.2.2; omega) xS.1 rfl ?_
    refine Ev.go 1 (s' := (h, 13, [(0, .ref t), (1, .int q)], [.int q, .ref (t + 2)])) rfl ?_
    have v2 : vp_in q 8 := fun q => by rw [if_pos q] at H; cases H
    rw [if_neg v2] at H
    refine Ev.iald rfl (by have := xS.2.2.2.2; omega) xS.2.2.1 v2 ?_
    refine Ev.go 1 (s' := (h, 18, [(0, .ref t), (1, .int q)], [.int (S.2.1 q.toNatClampNeg)])) rfl ?_
    have H := Option.some.inj H
    subst H
    exact Ev.ret rfl rfl (p_retZ rfl) ⟨rfl, rfl⟩
def fX5_axisOf (S : tS) (q : Int32) : Option (Int32) := (if (fX5_has S q) = 0 then some (-1) else (if q < 0 ∨ 8 ≤ q.toNatClampNeg then none else some (S.2.2.1 q.toNatClampNeg)))
theorem spX5_axisOf {d : Nat} {h : pH} {t : Nat} {S : tS} (xS : isS h t S) (q : Int32) {res : Int32} (H : fX5_axisOf S q = some res) : Ev (d + 1) mX5_axisOf (h, 0, [(0, .ref t), (1, .int q)], []) (fun r h1 => r = some (.int res) ∧ h1 = h) := by
  unfold fX5_axisOf at H
  refine Ev.go 2 (s' := (h, 2, [(0, .ref t), (1, .int q)], [.int q, .ref t])) rfl ?_
  refine Ev.callE rfl rfl rfl (p_argsV (by have := xS.2.2.2.2; omega) xS.1 (Nat.le_of_ble_eq_true rfl)) rfl (Nat.le_of_ble_eq_true rfl) (spX5_has xS q) ?_
  refine Ev.if1 rfl (fun c1 => ?_) (fun c1 => ?_)
  · have c1 : (fX5_has S q) = 0 := c1
    rw [if_pos c1] at H
    refine Ev.go 1 (s' := (h, 18, [(0, .ref t), (1, .int q)], [.int ((-1))])) rfl ?_
    have H := Option.some.inj H
    subst H
    exact Ev.ret rfl rfl (p_retZ rfl) ⟨rfl, rfl⟩
  · have c1 : ¬ ((fX5_has S q) = 0) := c1
    rw [if_neg c1] at H
    refine Ev.go 1 (s' := (h, 9, [(0, .ref t), (1, .int q)], [.ref t])) rfl ?_
    refine Ev.get rfl (by have := xS.2.2.2.2; omega) xS.1 rfl ?_
    refine Ev.go 1 (s' := (h, 13, [(0, .ref t), (1, .int q)], [.int q, .ref (t + 3)])) rfl ?_
    have v2 : vp_in q 8 := fun q => by rw [if_pos q] at H; cases H
    rw [if_neg v2] at H
    refine Ev.iald rfl (by have := xS.2.2.2.2; omega) xS.2.2.2.1 v2 ?_
    refine Ev.go 1 (s' := (h, 18, [(0, .ref t), (1, .int q)], [.int (S.2.2.1 q.toNatClampNeg)])) rfl ?_
    have H := Option.some.inj H
    subst H
    exact Ev.ret rfl rfl (p_retZ rfl) ⟨rfl, rfl⟩
def fX5_fits (S : tS) (q : Int32) (number : Int32) : Option (Int32) := (if (fX5_has S q) = 0 then some 0 else (if q < 0 ∨ 8 ≤ q.toNatClampNeg then none else (if (S.1 q.toNatClampNeg) = 6 then some 1 else (if ¬ (S.1 q.toNatClampNeg) = number then some 0 else some 1))))
theorem spX5_fits {d : Nat} {h : pH} {t : Nat} {S : tS} (xS : isS h t S) (q : Int32) (number : Int32) {res : Int32} (H : fX5_fits S q number = some res) : Ev (d + 1) mX5_fits (h, 0, [(0, .ref t), (1, .int q), (2, .int number)], []) (fun r h1 => r = some (.int res) ∧ h1 = h) := by
  unfold fX5_fits at H
  refine Ev.go 2 (s' := (h, 2, [(0, .ref t), (1, .int q), (2, .int number)], [.int q, .ref t])) rfl ?_
  refine Ev.callE rfl rfl rfl (p_argsV (by have := xS.2.2.2.2; omega) xS.1 (Nat.le_of_ble_eq_true rfl)) rfl (Nat.le_of_ble_eq_true rfl) (spX5_has xS q) ?_
  refine Ev.if1 rfl (fun c1 => ?_) (fun c1 => ?_)
  · have c1 : (fX5_has S q) = 0 := c1
    rw [if_pos c1] at H
    refine Ev.go 1 (s' := (h, 34, [(0, .ref t), (1, .int q), (2, .int number)], [.int 0])) rfl ?_
    have H := Option.some.inj H
    subst H
    exact Ev.ret rfl rfl (p_retZ rfl) ⟨rfl, rfl⟩
  · have c1 : ¬ ((fX5_has S q) = 0) := c1
    rw [if_neg c1] at H
    refine Ev.go 1 (s' := (h, 9, [(0, .ref t), (1, .int q), (2, .int number)], [.ref t])) rfl ?_
    refine Ev.get rfl (by have := xS.2.2.2.2; omega) xS.1 rfl ?_
    refine Ev.go 1 (s' := (h, 13, [(0, .ref t), (1, .int q), (2, .int number)], [.int q, .ref (t + 1)])) rfl ?_
    have v2 : vp_in q 8 := fun q => by rw [if_pos q] at H; cases H
    rw [if_neg v2] at H
    refine Ev.iald rfl (by have := xS.2.2.2.2; omega) xS.2.1 v2 ?_
    refine Ev.go 1 (s' := (h, 16, [(0, .ref t), (1, .int q), (2, .int number)], [.int 6, .int (S.1 q.toNatClampNeg)])) rfl ?_
    refine Ev.if2 rfl (fun c3 => ?_) (fun c3 => ?_)
    · have c3 : (S.1 q.toNatClampNeg) = 6 := c3
      rw [if_pos c3] at H
      refine Ev.go 2 (s' := (h, 34, [(0, .ref t), (1, .int q), (2, .int number)], [.int 1])) rfl ?_
      have H := Option.some.inj H
      subst H
      exact Ev.ret rfl rfl (p_retZ rfl) ⟨rfl, rfl⟩
    · have c3 : ¬ ((S.1 q.toNatClampNeg) = 6) := c3
      rw [if_neg c3] at H
      refine Ev.go 1 (s' := (h, 20, [(0, .ref t), (1, .int q), (2, .int number)], [.ref t])) rfl ?_
      refine Ev.get rfl (by have := xS.2.2.2.2; omega) xS.1 rfl ?_
      refine Ev.go 1 (s' := (h, 24, [(0, .ref t), (1, .int q), (2, .int number)], [.int q, .ref (t + 1)])) rfl ?_
      refine Ev.iald rfl (by have := xS.2.2.2.2; omega) xS.2.1 v2 ?_
      refine Ev.go 1 (s' := (h, 26, [(0, .ref t), (1, .int q), (2, .int number)], [.int number, .int (S.1 q.toNatClampNeg)])) rfl ?_
      refine Ev.if2 rfl (fun c4 => ?_) (fun c4 => ?_)
      · have c4 : ¬ (S.1 q.toNatClampNeg) = number := c4
        rw [if_pos c4] at H
        refine Ev.go 1 (s' := (h, 34, [(0, .ref t), (1, .int q), (2, .int number)], [.int 0])) rfl ?_
        have H := Option.some.inj H
        subst H
        exact Ev.ret rfl rfl (p_retZ rfl) ⟨rfl, rfl⟩
      · have c4 : ¬ (¬ (S.1 q.toNatClampNeg) = number) := c4
        rw [if_neg c4] at H
        refine Ev.go 2 (s' := (h, 34, [(0, .ref t), (1, .int q), (2, .int number)], [.int 1])) rfl ?_
        have H := Option.some.inj H
        subst H
        exact Ev.ret rfl rfl (p_retZ rfl) ⟨rfl, rfl⟩
def fX5_clear (S : tS) : Option (tS) := some (S.1, S.2.1, S.2.2.1, 0, 0)
theorem spX5_clear {d : Nat} {h : pH} {t : Nat} {S : tS} (xS : isS h t S) {res : tS} (H : fX5_clear S = some res) : Ev d mX5_clear (h, 0, [(0, .ref t)], []) (fun r h1 => r = none ∧ isS h1 t res ∧ fr [(t, t + 4)] h h1) := by
  unfold fX5_clear at H
  refine Ev.go 2 (s' := (h, 2, [(0, .ref t)], [.int 0, .ref t])) rfl ?_
  refine Ev.put rfl rfl (by have := xS.2.2.2.2; omega) xS.1 (Nat.le_of_ble_eq_true rfl) rfl rfl (fs' := [.ref (t + 1), .ref (t + 2), .ref (t + 3), .int 0, .int S.2.2.2.2]) rfl ?_
  refine Ev.go 2 (s' := ((pu h t (eO 4 [.ref (t + 1), .ref (t + 2), .ref (t + 3), .int 0, .int S.2.2.2.2])), 7, [(0, .ref t)], [.int 0, .ref t])) rfl ?_
  refine Ev.put rfl rfl (by have := xS.2.2.2.2; omega) pu_s (Nat.le_of_ble_eq_true rfl) rfl rfl (fs' := [.ref (t + 1), .ref (t + 2), .ref (t + 3), .int 0, .int 0]) rfl ?_
  have H := Option.some.inj H
  subst H
  exact Ev.ret rfl rfl rfl ⟨rfl, ⟨pu_s, (pu_n (by omega) (pu_n (by omega) xS.2.1)), (pu_n (by omega) (pu_n (by omega) xS.2.2.1)), (pu_n (by omega) (pu_n (by omega) xS.2.2.2.1)), (by have := xS.2.2.2.2; omega)⟩, (fun k hk => by rw [pu_x (show k ≠ t from fun e => by have := hk; simp at this; omega)]; rw [pu_x (show k ≠ t from fun e => by have := hk; simp at this; omega)])⟩
def fX5_add (S : tS) (number : Int32) (hang : Int32) (axis : Int32) : Option (Int32 × tS) := (if S.2.2.2.1 < 8 then (if S.2.2.2.1 < 0 ∨ 8 ≤ S.2.2.2.1.toNatClampNeg then none else some ((S.2.2.2.1 + 1) - 1, (upd S.1 S.2.2.2.1.toNatClampNeg number, upd S.2.1 S.2.2.2.1.toNatClampNeg hang, upd S.2.2.1 S.2.2.2.1.toNatClampNeg axis, S.2.2.2.1 + 1, S.2.2.2.2))) else some ((-1), S))
theorem spX5_add {d : Nat} {h : pH} {t : Nat} {S : tS} (xS : isS h t S) (number : Int32) (hang : Int32) (axis : Int32) {res : Int32 × tS} (H : fX5_add S number hang axis = some res) : Ev d mX5_add (h, 0, [(0, .ref t), (1, .int number), (2, .int hang), (3, .int axis)], []) (fun r h1 => r = some (.int res.1) ∧ isS h1 t res.2 ∧ fr [(t, t + 4)] h h1) := by
  unfold fX5_add at H
  refine Ev.go 1 (s' := (h, 1, [(0, .ref t), (1, .int number), (2, .int hang), (3, .int axis)], [.ref t])) rfl ?_
  refine Ev.get rfl (by have := xS.2.2.2.2; omega) xS.1 rfl ?_
  refine Ev.go 1 (s' := (h, 6, [(0, .ref t), (1, .int number), (2, .int hang), (3, .int axis)], [.int 8, .int S.2.2.2.1])) rfl ?_
  refine Ev.if2 rfl (fun c1 => ?_) (fun c1 => ?_)
  · have c1 : S.2.2.2.1 < 8 := c1
    rw [if_pos c1] at H
    refine Ev.go 1 (s' := (h, 12, [(0, .ref t), (1, .int number), (2, .int hang), (3, .int axis)], [.ref t])) rfl ?_
    refine Ev.get rfl (by have := xS.2.2.2.2; omega) xS.1 rfl ?_
    refine Ev.go 1 (s' := (h, 16, [(0, .ref t), (1, .int number), (2, .int hang), (3, .int axis)], [.ref t, .ref (t + 1)])) rfl ?_
    refine Ev.get rfl (by have := xS.2.2.2.2; omega) xS.1 rfl ?_
    refine Ev.go 1 (s' := (h, 20, [(0, .ref t), (1, .int number), (2, .int hang), (3, .int axis)], [.int number, .int S.2.2.2.1, .ref (t + 1)])) rfl ?_
    have v2 : vp_in S.2.2.2.1 8 := fun q => by rw [if_pos q] at H; cases H
    rw [if_neg v2] at H
    refine Ev.iast rfl (by have := xS.2.2.2.2; omega) xS.2.1 v2 ?_
    refine Ev.go 1 (s' := ((pu h (t + 1) (eI 8 (upd S.1 S.2.2.2.1.toNatClampNeg number))), 22, [(0, .ref t), (1, .int number), (2, .int hang), (3, .int axis)], [.ref t])) rfl ?_
    refine Ev.get rfl (by have := xS.2.2.2.2; omega) (pu_n (by omega) xS.1) rfl ?_
    refine Ev.go 1 (s' := ((pu h (t + 1) (eI 8 (upd S.1 S.2.2.2.1.toNatClampNeg number))), 26, [(0, .ref t), (1, .int number), (2, .int hang), (3, .int axis)], [.ref t, .ref (t + 2)])) rfl ?_
    refine Ev.get rfl (by have := xS.2.2.2.2; omega) (pu_n (by omega) xS.1) rfl ?_
    refine Ev.go 1 (s' := ((pu h (t + 1) (eI 8 (upd S.1 S.2.2.2.1.toNatClampNeg number))), 30, [(0, .ref t), (1, .int number), (2, .int hang), (3, .int axis)], [.int hang, .int S.2.2.2.1, .ref (t + 2)])) rfl ?_
    refine Ev.iast rfl (by have := xS.2.2.2.2; omega) (pu_n (by omega) xS.2.2.1) v2 ?_
    refine Ev.go 1 (s' := ((pu (pu h (t + 1) (eI 8 (upd S.1 S.2.2.2.1.toNatClampNeg number))) (t + 2) (eI 8 (upd S.2.1 S.2.2.2.1.toNatClampNeg hang))), 32, [(0, .ref t), (1, .int number), (2, .int hang), (3, .int axis)], [.ref t])) rfl ?_
    refine Ev.get rfl (by have := xS.2.2.2.2; omega) (pu_n (by omega) (pu_n (by omega) xS.1)) rfl ?_
    refine Ev.go 1 (s' := ((pu (pu h (t + 1) (eI 8 (upd S.1 S.2.2.2.1.toNatClampNeg number))) (t + 2) (eI 8 (upd S.2.1 S.2.2.2.1.toNatClampNeg hang))), 36, [(0, .ref t), (1, .int number), (2, .int hang), (3, .int axis)], [.ref t, .ref (t + 3)])) rfl ?_
    refine Ev.get rfl (by have := xS.2.2.2.2; omega) (pu_n (by omega) (pu_n (by omega) xS.1)) rfl ?_
    refine Ev.go 1 (s' := ((pu (pu h (t + 1) (eI 8 (upd S.1 S.2.2.2.1.toNatClampNeg number))) (t + 2) (eI 8 (upd S.2.1 S.2.2.2.1.toNatClampNeg hang))), 40, [(0, .ref t), (1, .int number), (2, .int hang), (3, .int axis)], [.int axis, .int S.2.2.2.1, .ref (t + 3)])) rfl ?_
    refine Ev.iast rfl (by have := xS.2.2.2.2; omega) (pu_n (by omega) (pu_n (by omega) xS.2.2.2.1)) v2 ?_
    refine Ev.go 2 (s' := ((pu (pu (pu h (t + 1) (eI 8 (upd S.1 S.2.2.2.1.toNatClampNeg number))) (t + 2) (eI 8 (upd S.2.1 S.2.2.2.1.toNatClampNeg hang))) (t + 3) (eI 8 (upd S.2.2.1 S.2.2.2.1.toNatClampNeg axis))), 43, [(0, .ref t), (1, .int number), (2, .int hang), (3, .int axis)], [.ref t, .ref t])) rfl ?_
    refine Ev.get rfl (by have := xS.2.2.2.2; omega) (pu_n (by omega) (pu_n (by omega) (pu_n (by omega) xS.1))) rfl ?_
    refine Ev.go 2 (s' := ((pu (pu (pu h (t + 1) (eI 8 (upd S.1 S.2.2.2.1.toNatClampNeg number))) (t + 2) (eI 8 (upd S.2.1 S.2.2.2.1.toNatClampNeg hang))) (t + 3) (eI 8 (upd S.2.2.1 S.2.2.2.1.toNatClampNeg axis))), 48, [(0, .ref t), (1, .int number), (2, .int hang), (3, .int axis)], [.int (S.2.2.2.1 + 1), .ref t])) rfl ?_
    refine Ev.put rfl rfl (by have := xS.2.2.2.2; omega) (pu_n (by omega) (pu_n (by omega) (pu_n (by omega) xS.1))) (Nat.le_of_ble_eq_true rfl) rfl rfl (fs' := [.ref (t + 1), .ref (t + 2), .ref (t + 3), .int (S.2.2.2.1 + 1), .int S.2.2.2.2]) rfl ?_
    refine Ev.go 1 (s' := ((pu (pu (pu (pu h (t + 1) (eI 8 (upd S.1 S.2.2.2.1.toNatClampNeg number))) (t + 2) (eI 8 (upd S.2.1 S.2.2.2.1.toNatClampNeg hang))) (t + 3) (eI 8 (upd S.2.2.1 S.2.2.2.1.toNatClampNeg axis))) t (eO 4 [.ref (t + 1), .ref (t + 2), .ref (t + 3), .int (S.2.2.2.1 + 1), .int S.2.2.2.2])), 52, [(0, .ref t), (1, .int number), (2, .int hang), (3, .int axis)], [.ref t])) rfl ?_
    refine Ev.get rfl (by have := xS.2.2.2.2; omega) pu_s rfl ?_
    refine Ev.go 2 (s' := ((pu (pu (pu (pu h (t + 1) (eI 8 (upd S.1 S.2.2.2.1.toNatClampNeg number))) (t + 2) (eI 8 (upd S.2.1 S.2.2.2.1.toNatClampNeg hang))) (t + 3) (eI 8 (upd S.2.2.1 S.2.2.2.1.toNatClampNeg axis))) t (eO 4 [.ref (t + 1), .ref (t + 2), .ref (t + 3), .int (S.2.2.2.1 + 1), .int S.2.2.2.2])), 57, [(0, .ref t), (1, .int number), (2, .int hang), (3, .int axis)], [.int ((S.2.2.2.1 + 1) - 1)])) rfl ?_
    have H := Option.some.inj H
    subst H
    exact Ev.ret rfl rfl (p_retZ rfl) ⟨rfl, ⟨pu_s, (pu_n (by omega) (pu_n (by omega) (pu_n (by omega) pu_s))), (pu_n (by omega) (pu_n (by omega) pu_s)), (pu_n (by omega) pu_s), (by have := xS.2.2.2.2; omega)⟩, (fun k hk => by rw [pu_x (show k ≠ t from fun e => by have := hk; simp at this; omega)]; rw [pu_x (show k ≠ t + 3 from fun e => by have := hk; simp at this; omega)]; rw [pu_x (show k ≠ t + 2 from fun e => by have := hk; simp at this; omega)]; rw [pu_x (show k ≠ t + 1 from fun e => by have := hk; simp at this; omega)])⟩
  · have c1 : ¬ (S.2.2.2.1 < 8) := c1
    rw [if_neg c1] at H
    refine Ev.go 1 (s' := (h, 10, [(0, .ref t), (1, .int number), (2, .int hang), (3, .int axis)], [.int ((-1))])) rfl ?_
    have H := Option.some.inj H
    subst H
    exact Ev.ret rfl rfl (p_retZ rfl) ⟨rfl, xS, (fun k _ => rfl)⟩
def fX5_setLastOutermost (S : tS) (q : Int32) : Option (tS) := some (S.1, S.2.1, S.2.2.1, S.2.2.2.1, q)
theorem spX5_setLastOutermost {d : Nat} {h : pH} {t : Nat} {S : tS} (xS : isS h t S) (q : Int32) {res : tS} (H : fX5_setLastOutermost S q = some res) : Ev d mX5_setLastOutermost (h, 0, [(0, .ref t), (1, .int q)], []) (fun r h1 => r = none ∧ isS h1 t res ∧ fr [(t, t + 4)] h h1) := by
  unfold fX5_setLastOutermost at H
  refine Ev.go 2 (s' := (h, 2, [(0, .ref t), (1, .int q)], [.int q, .ref t])) rfl ?_
  refine Ev.put rfl rfl (by have := xS.2.2.2.2; omega) xS.1 (Nat.le_of_ble_eq_true rfl) rfl rfl (fs' := [.ref (t + 1), .ref (t + 2), .ref (t + 3), .int S.2.2.2.1, .int q]) rfl ?_
  have H := Option.some.inj H
  subst H
  exact Ev.ret rfl rfl rfl ⟨rfl, ⟨pu_s, (pu_n (by omega) xS.2.1), (pu_n (by omega) xS.2.2.1), (pu_n (by omega) xS.2.2.2.1), (by have := xS.2.2.2.2; omega)⟩, (fun k hk => by rw [pu_x (show k ≠ t from fun e => by have := hk; simp at this; omega)])⟩
def fX5_copyFrom (S : tS) (U : tS) : Option (tS) := some (va_cpy U.1 S.1 0 0 8, va_cpy U.2.1 S.2.1 0 0 8, va_cpy U.2.2.1 S.2.2.1 0 0 8, U.2.2.2.1, U.2.2.2.2)
theorem spX5_copyFrom {d : Nat} {h : pH} {t u : Nat} {S : tS} {U : tS} (xS : isS h t S) (xU : isS h u U) (hd : t + 3 < u ∨ u + 3 < t) {res : tS} (H : fX5_copyFrom S U = some res) : Ev (d + 1) mX5_copyFrom (h, 0, [(0, .ref t), (1, .ref u)], []) (fun r h1 => r = none ∧ isS h1 t res ∧ fr [(t, t + 4)] h h1) := by
  unfold fX5_copyFrom at H
  refine Ev.go 1 (s' := (h, 1, [(0, .ref t), (1, .ref u)], [.ref u])) rfl ?_
  refine Ev.get rfl (by have := xU.2.2.2.2; omega) xU.1 rfl ?_
  refine Ev.go 2 (s' := (h, 6, [(0, .ref t), (1, .ref u)], [.ref t, .int 0, .ref (u + 1)])) rfl ?_
  refine Ev.get rfl (by have := xS.2.2.2.2; omega) xS.1 rfl ?_
  refine Ev.go 2 (s' := (h, 12, [(0, .ref t), (1, .ref u)], [.int 8, .int 0, .ref (t + 1), .int 0, .ref (u + 1)])) rfl ?_
  refine Ev.cpy rfl rfl (by have := xU.2.2.2.2; omega) (by have := xS.2.2.2.2; omega) xU.2.1 xS.2.1 (by decide) (by decide) (by decide) (by decide) (by decide) (Nat.le_of_ble_eq_true rfl) ?_
  refine Ev.go 1 (s' := ((pu h (t + 1) (eI 8 (va_cpy U.1 S.1 0 0 8))), 16, [(0, .ref t), (1, .ref u)], [.ref u])) rfl ?_
  refine Ev.get rfl (by have := xU.2.2.2.2; omega) (pu_n (by omega) xU.1) rfl ?_
  refine Ev.go 2 (s' := ((pu h (t + 1) (eI 8 (va_cpy U.1 S.1 0 0 8))), 21, [(0, .ref t), (1, .ref u)], [.ref t, .int 0, .ref (u + 2)])) rfl ?_
  refine Ev.get rfl (by have := xS.2.2.2.2; omega) (pu_n (by omega) xS.1) rfl ?_
  refine Ev.go 2 (s' := ((pu h (t + 1) (eI 8 (va_cpy U.1 S.1 0 0 8))), 27, [(0, .ref t), (1, .ref u)], [.int 8, .int 0, .ref (t + 2), .int 0, .ref (u + 2)])) rfl ?_
  refine Ev.cpy rfl rfl (by have := xU.2.2.2.2; omega) (by have := xS.2.2.2.2; omega) (pu_n (by omega) xU.2.2.1) (pu_n (by omega) xS.2.2.1) (by decide) (by decide) (by decide) (by decide) (by decide) (Nat.le_of_ble_eq_true rfl) ?_
  refine Ev.go 1 (s' := ((pu (pu h (t + 1) (eI 8 (va_cpy U.1 S.1 0 0 8))) (t + 2) (eI 8 (va_cpy U.2.1 S.2.1 0 0 8))), 31, [(0, .ref t), (1, .ref u)], [.ref u])) rfl ?_
  refine Ev.get rfl (by have := xU.2.2.2.2; omega) (pu_n (by omega) (pu_n (by omega) xU.1)) rfl ?_
  refine Ev.go 2 (s' := ((pu (pu h (t + 1) (eI 8 (va_cpy U.1 S.1 0 0 8))) (t + 2) (eI 8 (va_cpy U.2.1 S.2.1 0 0 8))), 36, [(0, .ref t), (1, .ref u)], [.ref t, .int 0, .ref (u + 3)])) rfl ?_
  refine Ev.get rfl (by have := xS.2.2.2.2; omega) (pu_n (by omega) (pu_n (by omega) xS.1)) rfl ?_
  refine Ev.go 2 (s' := ((pu (pu h (t + 1) (eI 8 (va_cpy U.1 S.1 0 0 8))) (t + 2) (eI 8 (va_cpy U.2.1 S.2.1 0 0 8))), 42, [(0, .ref t), (1, .ref u)], [.int 8, .int 0, .ref (t + 3), .int 0, .ref (u + 3)])) rfl ?_
  refine Ev.cpy rfl rfl (by have := xU.2.2.2.2; omega) (by have := xS.2.2.2.2; omega) (pu_n (by omega) (pu_n (by omega) xU.2.2.2.1)) (pu_n (by omega) (pu_n (by omega) xS.2.2.2.1)) (by decide) (by decide) (by decide) (by decide) (by decide) (Nat.le_of_ble_eq_true rfl) ?_
  refine Ev.go 2 (s' := ((pu (pu (pu h (t + 1) (eI 8 (va_cpy U.1 S.1 0 0 8))) (t + 2) (eI 8 (va_cpy U.2.1 S.2.1 0 0 8))) (t + 3) (eI 8 (va_cpy U.2.2.1 S.2.2.1 0 0 8))), 47, [(0, .ref t), (1, .ref u)], [.ref u, .ref t])) rfl ?_
  refine Ev.get rfl (by have := xU.2.2.2.2; omega) (pu_n (by omega) (pu_n (by omega) (pu_n (by omega) xU.1))) rfl ?_
  refine Ev.put rfl rfl (by have := xS.2.2.2.2; omega) (pu_n (by omega) (pu_n (by omega) (pu_n (by omega) xS.1))) (Nat.le_of_ble_eq_true rfl) rfl rfl (fs' := [.ref (t + 1), .ref (t + 2), .ref (t + 3), .int U.2.2.2.1, .int S.2.2.2.2]) rfl ?_
  refine Ev.go 2 (s' := ((pu (pu (pu (pu h (t + 1) (eI 8 (va_cpy U.1 S.1 0 0 8))) (t + 2) (eI 8 (va_cpy U.2.1 S.2.1 0 0 8))) (t + 3) (eI 8 (va_cpy U.2.2.1 S.2.2.1 0 0 8))) t (eO 4 [.ref (t + 1), .ref (t + 2), .ref (t + 3), .int U.2.2.2.1, .int S.2.2.2.2])), 55, [(0, .ref t), (1, .ref u)], [.ref u, .ref t])) rfl ?_
  refine Ev.get rfl (by have := xU.2.2.2.2; omega) (pu_n (by omega) (pu_n (by omega) (pu_n (by omega) (pu_n (by omega) xU.1)))) rfl ?_
  refine Ev.put rfl rfl (by have := xS.2.2.2.2; omega) pu_s (Nat.le_of_ble_eq_true rfl) rfl rfl (fs' := [.ref (t + 1), .ref (t + 2), .ref (t + 3), .int U.2.2.2.1, .int U.2.2.2.2]) rfl ?_
  have H := Option.some.inj H
  subst H
  exact Ev.ret rfl rfl rfl ⟨rfl, ⟨pu_s, (pu_n (by omega) (pu_n (by omega) (pu_n (by omega) (pu_n (by omega) pu_s)))), (pu_n (by omega) (pu_n (by omega) (pu_n (by omega) pu_s))), (pu_n (by omega) (pu_n (by omega) pu_s)), (by have := xS.2.2.2.2; omega)⟩, (fun k hk => by rw [pu_x (show k ≠ t from fun e => by have := hk; simp at this; omega)]; rw [pu_x (show k ≠ t from fun e => by have := hk; simp at this; omega)]; rw [pu_x (show k ≠ t + 3 from fun e => by have := hk; simp at this; omega)]; rw [pu_x (show k ≠ t + 2 from fun e => by have := hk; simp at this; omega)]; rw [pu_x (show k ≠ t + 1 from fun e => by have := hk; simp at this; omega)])⟩
def fX3_isRank (O : tO) (k : Int32) : Int32 := (if k < 0 then 0 else (if O.2.2.2.2.2.2.2 ≤ k then 0 else 1))
theorem spX3_isRank {d : Nat} {h : pH} {O : tO} (xO : isO h O) (k : Int32) : Ev d mX3_isRank (h, 0, [(0, .ref 15), (1, .int k)], []) (fun r h1 => r = some (.int (fX3_isRank O k)) ∧ h1 = h) := by
  refine Ev.go 1 (s' := (h, 1, [(0, .ref 15), (1, .int k)], [.int k])) rfl ?_
  refine Ev.if1 rfl (fun c1 => ?_) (fun c1 => ?_)
  · have c1 : k < 0 := c1
    refine Ev.go 1 (s' := (h, 17, [(0, .ref 15), (1, .int k)], [.int 0])) rfl ?_
    exact Ev.ret rfl rfl (p_retZ rfl) ⟨congrArg (fun z => some (Value.int z)) (by rw [fX3_isRank, if_pos c1]), rfl⟩
  · have c1 : ¬ (k < 0) := c1
    refine Ev.go 2 (s' := (h, 6, [(0, .ref 15), (1, .int k)], [.ref 15, .int k])) rfl ?_
    refine Ev.get rfl (by decide) xO.1 rfl ?_
    refine Ev.if2 rfl (fun c2 => ?_) (fun c2 => ?_)
    · have c2 : O.2.2.2.2.2.2.2 ≤ k := c2
      refine Ev.go 1 (s' := (h, 17, [(0, .ref 15), (1, .int k)], [.int 0])) rfl ?_
      exact Ev.ret rfl rfl (p_retZ rfl) ⟨congrArg (fun z => some (Value.int z)) (by rw [fX3_isRank, if_neg c1, if_pos c2]), rfl⟩
    · have c2 : ¬ (O.2.2.2.2.2.2.2 ≤ k) := c2
      refine Ev.go 2 (s' := (h, 17, [(0, .ref 15), (1, .int k)], [.int 1])) rfl ?_
      exact Ev.ret rfl rfl (p_retZ rfl) ⟨congrArg (fun z => some (Value.int z)) (by rw [fX3_isRank, if_neg c1, if_neg c2]), rfl⟩
def fX3_size (O : tO) : Int32 := O.2.2.2.2.2.2.2
theorem spX3_size {d : Nat} {h : pH} {O : tO} (xO : isO h O) : Ev d mX3_size (h, 0, [(0, .ref 15)], []) (fun r h1 => r = some (.int (fX3_size O)) ∧ h1 = h) := by
  refine Ev.go 1 (s' := (h, 1, [(0, .ref 15)], [.ref 15])) rfl ?_
  refine Ev.get rfl (by decide) xO.1 rfl ?_
  exact Ev.ret rfl rfl (p_retZ rfl) ⟨congrArg (fun z => some (Value.int z)) (by rw [fX3_size]), rfl⟩
def fX3_rankOf (O : tO) (v : Int32) : Option (Int32) := (if v < 0 then some (-1) else (if 24 ≤ v then some (-1) else (if v < 0 ∨ 24 ≤ v.toNatClampNeg then none else some (O.1 v.toNatClampNeg))))
theorem spX3_rankOf {d : Nat} {h : pH} {O : tO} (xO : isO h O) (v : Int32) {res : Int32} (H : fX3_rankOf O v = some res) : Ev d mX3_rankOf (h, 0, [(0, .ref 15), (1, .int v)], []) (fun r h1 => r = some (.int res) ∧ h1 = h) := by
  unfold fX3_rankOf at H
  refine Ev.go 1 (s' := (h, 1, [(0, .ref 15), (1, .int v)], [.int v])) rfl ?_
  refine Ev.if1 rfl (fun c1 => ?_) (fun c1 => ?_)
  · have c1 : v < 0 := c1
    rw [if_pos c1] at H
    refine Ev.go 1 (s' := (h, 20, [(0, .ref 15), (1, .int v)], [.int ((-1))])) rfl ?_
    have H := Option.some.inj H
    subst H
    exact Ev.ret rfl rfl (p_retZ rfl) ⟨rfl, rfl⟩
  · have c1 : ¬ (v < 0) := c1
    rw [if_neg c1] at H
    refine Ev.go 2 (s' := (h, 7, [(0, .ref 15), (1, .int v)], [.int 24, .int v])) rfl ?_
    refine Ev.if2 rfl (fun c2 => ?_) (fun c2 => ?_)
    · have c2 : 24 ≤ v := c2
      rw [if_pos c2] at H
      refine Ev.go 1 (s' := (h, 20, [(0, .ref 15), (1, .int v)], [.int ((-1))])) rfl ?_
      have H := Option.some.inj H
      subst H
      exact Ev.ret rfl rfl (p_retZ rfl) ⟨rfl, rfl⟩
    · have c2 : ¬ (24 ≤ v) := c2
      rw [if_neg c2] at H
      refine Ev.go 1 (s' := (h, 11, [(0, .ref 15), (1, .int v)], [.ref 15])) rfl ?_
      refine Ev.get rfl (by decide) xO.1 rfl ?_
      refine Ev.go 1 (s' := (h, 15, [(0, .ref 15), (1, .int v)], [.int v, .ref 16])) rfl ?_
      have v3 : vp_in v 24 := fun q => by rw [if_pos q] at H; cases H
      rw [if_neg v3] at H
      refine Ev.iald rfl (by decide) xO.2.1 v3 ?_
      refine Ev.go 1 (s' := (h, 20, [(0, .ref 15), (1, .int v)], [.int (O.1 v.toNatClampNeg)])) rfl ?_
      have H := Option.some.inj H
      subst H
      exact Ev.ret rfl rfl (p_retZ rfl) ⟨rfl, rfl⟩
def fX3_nodeAt (O : tO) (k : Int32) : Option (Int32) := (if (fX3_isRank O k) = 0 then some (-1) else (if k < 0 ∨ 24 ≤ k.toNatClampNeg then none else some (O.2.1 k.toNatClampNeg)))
theorem spX3_nodeAt {d : Nat} {h : pH} {O : tO} (xO : isO h O) (k : Int32) {res : Int32} (H : fX3_nodeAt O k = some res) : Ev (d + 1) mX3_nodeAt (h, 0, [(0, .ref 15), (1, .int k)], []) (fun r h1 => r = some (.int res) ∧ h1 = h) := by
  unfold fX3_nodeAt at H
  refine Ev.go 2 (s' := (h, 2, [(0, .ref 15), (1, .int k)], [.int k, .ref 15])) rfl ?_
  refine Ev.callE rfl rfl rfl (p_argsV (by decide) xO.1 (Nat.le_of_ble_eq_true rfl)) rfl (Nat.le_of_ble_eq_true rfl) (spX3_isRank xO k) ?_
  refine Ev.if1 rfl (fun c1 => ?_) (fun c1 => ?_)
  · have c1 : (fX3_isRank O k) = 0 := c1
    rw [if_pos c1] at H
    refine Ev.go 1 (s' := (h, 18, [(0, .ref 15), (1, .int k)], [.int ((-1))])) rfl ?_
    have H := Option.some.inj H
    subst H
    exact Ev.ret rfl rfl (p_retZ rfl) ⟨rfl, rfl⟩
  · have c1 : ¬ ((fX3_isRank O k) = 0) := c1
    rw [if_neg c1] at H
    refine Ev.go 1 (s' := (h, 9, [(0, .ref 15), (1, .int k)], [.ref 15])) rfl ?_
    refine Ev.get rfl (by decide) xO.1 rfl ?_
    refine Ev.go 1 (s' := (h, 13, [(0, .ref 15), (1, .int k)], [.int k, .ref 17])) rfl ?_
    have v2 : vp_in k 24 := fun q => by rw [if_pos q] at H; cases H
    rw [if_neg v2] at H
    refine Ev.iald rfl (by decide) xO.2.2.1 v2 ?_
    refine Ev.go 1 (s' := (h, 18, [(0, .ref 15), (1, .int k)], [.int (O.2.1 k.toNatClampNeg)])) rfl ?_
    have H := Option.some.inj H
    subst H
    exact Ev.ret rfl rfl (p_retZ rfl) ⟨rfl, rfl⟩
def fX3_parentAt (O : tO) (k : Int32) : Option (Int32) := (if (fX3_isRank O k) = 0 then some (-1) else (if k < 0 ∨ 24 ≤ k.toNatClampNeg then none else some (O.2.2.1 k.toNatClampNeg)))
theorem spX3_parentAt {d : Nat} {h : pH} {O : tO} (xO : isO h O) (k : Int32) {res : Int32} (H : fX3_parentAt O k = some res) : Ev (d + 1) mX3_parentAt (h, 0, [(0, .ref 15), (1, .int k)], []) (fun r h1 => r = some (.int res) ∧ h1 = h) := by
  unfold fX3_parentAt at H
  refine Ev.go 2 (s' := (h, 2, [(0, .ref 15), (1, .int k)], [.int k, .ref 15])) rfl ?_
  refine Ev.callE rfl rfl rfl (p_argsV (by decide) xO.1 (Nat.le_of_ble_eq_true rfl)) rfl (Nat.le_of_ble_eq_true rfl) (spX3_isRank xO k) ?_
  refine Ev.if1 rfl (fun c1 => ?_) (fun c1 => ?_)
  · have c1 : (fX3_isRank O k) = 0 := c1
    rw [if_pos c1] at H
    refine Ev.go 1 (s' := (h, 18, [(0, .ref 15), (1, .int k)], [.int ((-1))])) rfl ?_
    have H := Option.some.inj H
    subst H
    exact Ev.ret rfl rfl (p_retZ rfl) ⟨rfl, rfl⟩
  · have c1 : ¬ ((fX3_isRank O k) = 0) := c1
    rw [if_neg c1] at H
    refine Ev.go 1 (s' := (h, 9, [(0, .ref 15), (1, .int k)], [.ref 15])) rfl ?_
    refine Ev.get rfl (by decide) xO.1 rfl ?_
    refine Ev.go 1 (s' := (h, 13, [(0, .ref 15), (1, .int k)], [.int k, .ref 18])) rfl ?_
    have v2 : vp_in k 24 := fun q => by rw [if_pos q] at H; cases H
    rw [if_neg v2] at H
    refine Ev.iald rfl (by decide) xO.2.2.2.1 v2 ?_
    refine Ev.go 1 (s' := (h, 18, [(0, .ref 15), (1, .int k)], [.int (O.2.2.1 k.toNatClampNeg)])) rfl ?_
    have H := Option.some.inj H
    subst H
    exact Ev.ret rfl rfl (p_retZ rfl) ⟨rfl, rfl⟩
def fX3_elderAt (O : tO) (k : Int32) : Option (Int32) := (if (fX3_isRank O k) = 0 then some (-1) else (if k < 0 ∨ 24 ≤ k.toNatClampNeg then none else some (O.2.2.2.1 k.toNatClampNeg)))
theorem spX3_elderAt {d : Nat} {h : pH} {O : tO} (xO : isO h O) (k : Int32) {res : Int32} (H : fX3_elderAt O k = some res) : Ev (d + 1) mX3_elderAt (h, 0, [(0, .ref 15), (1, .int k)], []) (fun r h1 => r = some (.int res) ∧ h1 = h) := by
  unfold fX3_elderAt at H
  refine Ev.go 2 (s' := (h, 2, [(0, .ref 15), (1, .int k)], [.int k, .ref 15])) rfl ?_
  refine Ev.callE rfl rfl rfl (p_argsV (by decide) xO.1 (Nat.le_of_ble_eq_true rfl)) rfl (Nat.le_of_ble_eq_true rfl) (spX3_isRank xO k) ?_
  refine Ev.if1 rfl (fun c1 => ?_) (fun c1 => ?_)
  · have c1 : (fX3_isRank O k) = 0 := c1
    rw [if_pos c1] at H
    refine Ev.go 1 (s' := (h, 18, [(0, .ref 15), (1, .int k)], [.int ((-1))])) rfl ?_
    have H := Option.some.inj H
    subst H
    exact Ev.ret rfl rfl (p_retZ rfl) ⟨rfl, rfl⟩
  · have c1 : ¬ ((fX3_isRank O k) = 0) := c1
    rw [if_neg c1] at H
    refine Ev.go 1 (s' := (h, 9, [(0, .ref 15), (1, .int k)], [.ref 15])) rfl ?_
    refine Ev.get rfl (by decide) xO.1 rfl ?_
    refine Ev.go 1 (s' := (h, 13, [(0, .ref 15), (1, .int k)], [.int k, .ref 19])) rfl ?_
    have v2 : vp_in k 24 := fun q => by rw [if_pos q] at H; cases H
    rw [if_neg v2] at H
    refine Ev.iald rfl (by decide) xO.2.2.2.2.1 v2 ?_
    refine Ev.go 1 (s' := (h, 18, [(0, .ref 15), (1, .int k)], [.int (O.2.2.2.1 k.toNatClampNeg)])) rfl ?_
    have H := Option.some.inj H
    subst H
    exact Ev.ret rfl rfl (p_retZ rfl) ⟨rfl, rfl⟩
def fX3_levelAt (O : tO) (k : Int32) : Option (Int32) := (if (fX3_isRank O k) = 0 then some 0 else (if k < 0 ∨ 24 ≤ k.toNatClampNeg then none else some (O.2.2.2.2.1 k.toNatClampNeg)))
theorem spX3_levelAt {d : Nat} {h : pH} {O : tO} (xO : isO h O) (k : Int32) {res : Int32} (H : fX3_levelAt O k = some res) : Ev (d + 1) mX3_levelAt (h, 0, [(0, .ref 15), (1, .int k)], []) (fun r h1 => r = some (.int res) ∧ h1 = h) := by
  unfold fX3_levelAt at H
  refine Ev.go 2 (s' := (h, 2, [(0, .ref 15), (1, .int k)], [.int k, .ref 15])) rfl ?_
  refine Ev.callE rfl rfl rfl (p_argsV (by decide) xO.1 (Nat.le_of_ble_eq_true rfl)) rfl (Nat.le_of_ble_eq_true rfl) (spX3_isRank xO k) ?_
  refine Ev.if1 rfl (fun c1 => ?_) (fun c1 => ?_)
  · have c1 : (fX3_isRank O k) = 0 := c1
    rw [if_pos c1] at H
    refine Ev.go 1 (s' := (h, 18, [(0, .ref 15), (1, .int k)], [.int 0])) rfl ?_
    have H := Option.some.inj H
    subst H
    exact Ev.ret rfl rfl (p_retZ rfl) ⟨rfl, rfl⟩
  · have c1 : ¬ ((fX3_isRank O k) = 0) := c1
    rw [if_neg c1] at H
    refine Ev.go 1 (s' := (h, 9, [(0, .ref 15), (1, .int k)], [.ref 15])) rfl ?_
    refine Ev.get rfl (by decide) xO.1 rfl ?_
    refine Ev.go 1 (s' := (h, 13, [(0, .ref 15), (1, .int k)], [.int k, .ref 20])) rfl ?_
    have v2 : vp_in k 24 := fun q => by rw [if_pos q] at H; cases H
    rw [if_neg v2] at H
    refine Ev.iald rfl (by decide) xO.2.2.2.2.2.1 v2 ?_
    refine Ev.go 1 (s' := (h, 18, [(0, .ref 15), (1, .int k)], [.int (O.2.2.2.2.1 k.toNatClampNeg)])) rfl ?_
    have H := Option.some.inj H
    subst H
    exact Ev.ret rfl rfl (p_retZ rfl) ⟨rfl, rfl⟩
def fX3_kidsAt (O : tO) (k : Int32) : Option (Int32) := (if (fX3_isRank O k) = 0 then some 0 else (if k < 0 ∨ 24 ≤ k.toNatClampNeg then none else some (O.2.2.2.2.2.1 k.toNatClampNeg)))
theorem spX3_kidsAt {d : Nat} {h : pH} {O : tO} (xO : isO h O) (k : Int32) {res : Int32} (H : fX3_kidsAt O k = some res) : Ev (d + 1) mX3_kidsAt (h, 0, [(0, .ref 15), (1, .int k)], []) (fun r h1 => r = some (.int res) ∧ h1 = h) := by
  unfold fX3_kidsAt at H
  refine Ev.go 2 (s' := (h, 2, [(0, .ref 15), (1, .int k)], [.int k, .ref 15])) rfl ?_
  refine Ev.callE rfl rfl rfl (p_argsV (by decide) xO.1 (Nat.le_of_ble_eq_true rfl)) rfl (Nat.le_of_ble_eq_true rfl) (spX3_isRank xO k) ?_
  refine Ev.if1 rfl (fun c1 => ?_) (fun c1 => ?_)
  · have c1 : (fX3_isRank O k) = 0 := c1
    rw [if_pos c1] at H
    refine Ev.go 1 (s' := (h, 18, [(0, .ref 15), (1, .int k)], [.int 0])) rfl ?_
    have H := Option.some.inj H
    subst H
    exact Ev.ret rfl rfl (p_retZ rfl) ⟨rfl, rfl⟩
  · have c1 : ¬ ((fX3_isRank O k) = 0) := c1
    rw [if_neg c1] at H
    refine Ev.go 1 (s' := (h, 9, [(0, .ref 15), (1, .int k)], [.ref 15])) rfl ?_
    refine Ev.get rfl (by decide) xO.1 rfl ?_
    refine Ev.go 1 (s' := (h, 13, [(0, .ref 15), (1, .int k)], [.int k, .ref 21])) rfl ?_
    have v2 : vp_in k 24 := fun q => by rw [if_pos q] at H; cases H
    rw [if_neg v2] at H
    refine Ev.iald rfl (by decide) xO.2.2.2.2.2.2.1 v2 ?_
    refine Ev.go 1 (s' := (h, 18, [(0, .ref 15), (1, .int k)], [.int (O.2.2.2.2.2.1 k.toNatClampNeg)])) rfl ?_
    have H := Option.some.inj H
    subst H
    exact Ev.ret rfl rfl (p_retZ rfl) ⟨rfl, rfl⟩
def fX3_belowAt (O : tO) (k : Int32) : Option (Int32) := (if (fX3_isRank O k) = 0 then some 0 else (if k < 0 ∨ 24 ≤ k.toNatClampNeg then none else some (O.2.2.2.2.2.2.1 k.toNatClampNeg)))
theorem spX3_belowAt {d : Nat} {h : pH} {O : tO} (xO : isO h O) (k : Int32) {res : Int32} (H : fX3_belowAt O k = some res) : Ev (d + 1) mX3_belowAt (h, 0, [(0, .ref 15), (1, .int k)], []) (fun r h1 => r = some (.int res) ∧ h1 = h) := by
  unfold fX3_belowAt at H
  refine Ev.go 2 (s' := (h, 2, [(0, .ref 15), (1, .int k)], [.int k, .ref 15])) rfl ?_
  refine Ev.callE rfl rfl rfl (p_argsV (by decide) xO.1 (Nat.le_of_ble_eq_true rfl)) rfl (Nat.le_of_ble_eq_true rfl) (spX3_isRank xO k) ?_
  refine Ev.if1 rfl (fun c1 => ?_) (fun c1 => ?_)
  · have c1 : (fX3_isRank O k) = 0 := c1
    rw [if_pos c1] at H
    refine Ev.go 1 (s' := (h, 18, [(0, .ref 15), (1, .int k)], [.int 0])) rfl ?_
    have H := Option.some.inj H
    subst H
    exact Ev.ret rfl rfl (p_retZ rfl) ⟨rfl, rfl⟩
  · have c1 : ¬ ((fX3_isRank O k) = 0) := c1
    rw [if_neg c1] at H
    refine Ev.go 1 (s' := (h, 9, [(0, .ref 15), (1, .int k)], [.ref 15])) rfl ?_
    refine Ev.get rfl (by decide) xO.1 rfl ?_
    refine Ev.go 1 (s' := (h, 13, [(0, .ref 15), (1, .int k)], [.int k, .ref 22])) rfl ?_
    have v2 : vp_in k 24 := fun q => by rw [if_pos q] at H; cases H
    rw [if_neg v2] at H
    refine Ev.iald rfl (by decide) xO.2.2.2.2.2.2.2 v2 ?_
    refine Ev.go 1 (s' := (h, 18, [(0, .ref 15), (1, .int k)], [.int (O.2.2.2.2.2.2.1 k.toNatClampNeg)])) rfl ?_
    have H := Option.some.inj H
    subst H
    exact Ev.ret rfl rfl (p_retZ rfl) ⟨rfl, rfl⟩
def fX3_spans (O : tO) (k : Int32) (other : Int32) : Option (Int32) := (if other < k then some 0 else ((fX3_belowAt O k).bind fun y3 => (if (k + y3) < other then some 0 else some 1)))
theorem spX3_spans {d : Nat} {h : pH} {O : tO} (xO : isO h O) (k : Int32) (other : Int32) {res : Int32} (H : fX3_spans O k other = some res) : Ev (d + 2) mX3_spans (h, 0, [(0, .ref 15), (1, .int k), (2, .int other)], []) (fun r h1 => r = some (.int res) ∧ h1 = h) := by
  unfold fX3_spans at H
  refine Ev.go 2 (s' := (h, 2, [(0, .ref 15), (1, .int k), (2, .int other)], [.int k, .int other])) rfl ?_
  refine Ev.if2 rfl (fun c1 => ?_) (fun c1 => ?_)
  · have c1 : other < k := c1
    rw [if_pos c1] at H
    refine Ev.go 1 (s' := (h, 21, [(0, .ref 15), (1, .int k), (2, .int other)], [.int 0])) rfl ?_
    have H := Option.some.inj H
    subst H
    exact Ev.ret rfl rfl (p_retZ rfl) ⟨rfl, rfl⟩
  · have c1 : ¬ (other < k) := c1
    rw [if_neg c1] at H
    refine Ev.go 4 (s' := (h, 9, [(0, .ref 15), (1, .int k), (2, .int other)], [.int k, .ref 15, .int k, .int other])) rfl ?_
    obtain ⟨y3, e2, H⟩ := Option.bind_eq_some_iff.mp H
    refine Ev.callE rfl rfl rfl (p_argsV (by decide) xO.1 (Nat.le_of_ble_eq_true rfl)) rfl (Nat.le_of_ble_eq_true rfl) (spX3_belowAt xO k e2) ?_
    refine Ev.go 1 (s' := (h, 13, [(0, .ref 15), (1, .int k), (2, .int other)], [.int (k + y3), .int other])) rfl ?_
    refine Ev.if2 rfl (fun c4 => ?_) (fun c4 => ?_)
    · have c4 : (k + y3) < other := c4
      rw [if_pos c4] at H
      refine Ev.go 1 (s' := (h, 21, [(0, .ref 15), (1, .int k), (2, .int other)], [.int 0])) rfl ?_
      have H := Option.some.inj H
      subst H
      exact Ev.ret rfl rfl (p_retZ rfl) ⟨rfl, rfl⟩
    · have c4 : ¬ ((k + y3) < other) := c4
      rw [if_neg c4] at H
      refine Ev.go 2 (s' := (h, 21, [(0, .ref 15), (1, .int k), (2, .int other)], [.int 1])) rfl ?_
      have H := Option.some.inj H
      subst H
      exact Ev.ret rfl rfl (p_retZ rfl) ⟨rfl, rfl⟩
def lX3_bitsFrom_4 (n : Nat) (O : tO) : Nat → Int32 → Int32 → Int32 → Option (Int32)
  | 0, _, _, _ => none
  | m + 1, x1, x2, x3 => ((fX3_belowAt O x1).bind fun y2 => (if (x1 + y2) < x3 then some x2 else (if (fX3_isRank O x3) = 0 then some x2 else (if x3 < 0 ∨ 24 ≤ x3.toNatClampNeg then none else lX3_bitsFrom_4 n O m x1 (x2 ||| (1 <<< ((O.2.1 x3.toNatClampNeg) &&& 31))) (x3 + 1)))))
theorem llX3_bitsFrom_4 {d n : Nat} {O : tO} : ∀ (m : Nat) (h : pH) (x1 : Int32) (x2 : Int32) (x3 : Int32) (res : Int32), lX3_bitsFrom_4 n O m x1 x2 x3 = some res → isO h O → Ev (d + 2) mX3_bitsFrom (h, 4, [(0, .ref 15), (1, .int x1), (2, .int x2), (3, .int x3)], []) (fun r h1 => r = some (.int res) ∧ h1 = h)
  | 0, h, x1, x2, x3, res, H, _ => by cases H
  | m + 1, h, x1, x2, x3, res, H, xO => by
    have H : ((fX3_belowAt O x1).bind fun y2 => (if (x1 + y2) < x3 then some x2 else (if (fX3_isRank O x3) = 0 then some x2 else (if x3 < 0 ∨ 24 ≤ x3.toNatClampNeg then none else lX3_bitsFrom_4 n O m x1 (x2 ||| (1 <<< ((O.2.1 x3.toNatClampNeg) &&& 31))) (x3 + 1))))) = some res := H
    refine Ev.go 4 (s' := (h, 8, [(0, .ref 15), (1, .int x1), (2, .int x2), (3, .int x3)], [.int x1, .ref 15, .int x1, .int x3])) rfl ?_
    obtain ⟨y2, e1, H⟩ := Option.bind_eq_some_iff.mp H
    refine Ev.callE rfl rfl rfl (p_argsV (by decide) xO.1 (Nat.le_of_ble_eq_true rfl)) rfl (Nat.le_of_ble_eq_true rfl) (spX3_belowAt xO x1 e1) ?_
    refine Ev.go 1 (s' := (h, 12, [(0, .ref 15), (1, .int x1), (2, .int x2), (3, .int x3)], [.int (x1 + y2), .int x3])) rfl ?_
    refine Ev.if2 rfl (fun c3 => ?_) (fun c3 => ?_)
    · have c3 : (x1 + y2) < x3 := c3
      rw [if_pos c3] at H
      refine Ev.go 1 (s' := (h, 41, [(0, .ref 15), (1, .int x1), (2, .int x2), (3, .int x3)], [.int x2])) rfl ?_
      have H := Option.some.inj H
      subst H
      exact Ev.ret rfl rfl (p_retZ rfl) ⟨rfl, rfl⟩
    · have c3 : ¬ ((x1 + y2) < x3) := c3
      rw [if_neg c3] at H
      refine Ev.go 2 (s' := (h, 17, [(0, .ref 15), (1, .int x1), (2, .int x2), (3, .int x3)], [.int x3, .ref 15])) rfl ?_
      refine Ev.callE rfl rfl rfl (p_argsV (by decide) xO.1 (Nat.le_of_ble_eq_true rfl)) rfl (Nat.le_of_ble_eq_true rfl) (spX3_isRank xO x3) ?_
      refine Ev.if1 rfl (fun c4 => ?_) (fun c4 => ?_)
      · have c4 : (fX3_isRank O x3) = 0 := c4
        rw [if_pos c4] at H
        refine Ev.go 1 (s' := (h, 41, [(0, .ref 15), (1, .int x1), (2, .int x2), (3, .int x3)], [.int x2])) rfl ?_
        have H := Option.some.inj H
        subst H
        exact Ev.ret rfl rfl (p_retZ rfl) ⟨rfl, rfl⟩
      · have c4 : ¬ ((fX3_isRank O x3) = 0) := c4
        rw [if_neg c4] at H
        refine Ev.go 3 (s' := (h, 26, [(0, .ref 15), (1, .int x1), (2, .int x2), (3, .int x3)], [.ref 15, .int 1, .int x2])) rfl ?_
        refine Ev.get rfl (by decide) xO.1 rfl ?_
        refine Ev.go 1 (s' := (h, 30, [(0, .ref 15), (1, .int x1), (2, .int x2), (3, .int x3)], [.int x3, .ref 17, .int 1, .int x2])) rfl ?_
        have v5 : vp_in x3 24 := fun q => by rw [if_pos q] at H; cases H
        rw [if_neg v5] at H
        refine Ev.iald rfl (by decide) xO.2.2.1 v5 ?_
        refine Ev.go 5 (s' := (h, 4, [(0, .ref 15), (1, .int x1), (2, .int (x2 ||| (1 <<< ((O.2.1 x3.toNatClampNeg) &&& 31)))), (3, .int (x3 + 1))], [])) rfl ?_
        refine Ev.live rfl (lv' := [(0, .ref 15), (1, .int x1), (2, .int (x2 ||| (1 <<< ((O.2.1 x3.toNatClampNeg) &&& 31)))), (3, .int (x3 + 1))]) rfl ?_
        exact llX3_bitsFrom_4 m h x1 (x2 ||| (1 <<< ((O.2.1 x3.toNatClampNeg) &&& 31))) (x3 + 1) _ H xO
def fX3_bitsFrom (n : Nat) (O : tO) (rank : Int32) : Option (Int32) := lX3_bitsFrom_4 n O n rank 0 rank
theorem spX3_bitsFrom {d n : Nat} {h : pH} {O : tO} (xO : isO h O) (rank : Int32) {res : Int32} (H : fX3_bitsFrom n O rank = some res) : Ev (d + 2) mX3_bitsFrom (h, 0, [(0, .ref 15), (1, .int rank)], []) (fun r h1 => r = some (.int res) ∧ h1 = h) := by
  unfold fX3_bitsFrom at H
  refine Ev.go 4 (s' := (h, 4, [(0, .ref 15), (1, .int rank), (2, .int 0), (3, .int rank)], [])) rfl ?_
  refine Ev.live rfl (lv' := [(0, .ref 15), (1, .int rank), (2, .int 0), (3, .int rank)]) rfl ?_
  exact llX3_bitsFrom_4 n h rank 0 rank _ H xO
def lX3_mostLevels_4 (n : Nat) (O : tO) : Nat → Int32 → Int32 → Option (Int32)
  | 0, _, _ => none
  | m + 1, x1, x2 => (if O.2.2.2.2.2.2.2 ≤ x2 then some x1 else (if 24 ≤ x2 then some x1 else (if x2 < 0 ∨ 24 ≤ x2.toNatClampNeg then none else lX3_mostLevels_4 n O m (if x1 < (O.2.2.2.2.1 x2.toNatClampNeg) then (O.2.2.2.2.1 x2.toNatClampNeg) else x1) (x2 + 1))))
theorem llX3_mostLevels_4 {d n : Nat} {O : tO} : ∀ (m : Nat) (h : pH) (x1 : Int32) (x2 : Int32) (res : Int32), lX3_mostLevels_4 n O m x1 x2 = some res → isO h O → Ev (d + 1) mX3_mostLevels (h, 4, [(0, .ref 15), (1, .int x1), (2, .int x2)], []) (fun r h1 => r = some (.int res) ∧ h1 = h)
  | 0, h, x1, x2, res, H, _ => by cases H
  | m + 1, h, x1, x2, res, H, xO => by
    have H : (if O.2.2.2.2.2.2.2 ≤ x2 then some x1 else (if 24 ≤ x2 then some x1 else (if x2 < 0 ∨ 24 ≤ x2.toNatClampNeg then none else lX3_mostLevels_4 n O m (if x1 < (O.2.2.2.2.1 x2.toNatClampNeg) then (O.2.2.2.2.1 x2.toNatClampNeg) else x1) (x2 + 1)))) = some res := H
    refine Ev.go 2 (s' := (h, 6, [(0, .ref 15), (1, .int x1), (2, .int x2)], [.ref 15, .int x2])) rfl ?_
    refine Ev.get rfl (by decide) xO.1 rfl ?_
    refine Ev.if2 rfl (fun c1 => ?_) (fun c1 => ?_)
    · have c1 : O.2.2.2.2.2.2.2 ≤ x2 := c1
      rw [if_pos c1] at H
      refine Ev.go 1 (s' := (h, 36, [(0, .ref 15), (1, .int x1), (2, .int x2)], [.int x1])) rfl ?_
      have H := Option.some.inj H
      subst H
      exact Ev.ret rfl rfl (p_retZ rfl) ⟨rfl, rfl⟩
    · have c1 : ¬ (O.2.2.2.2.2.2.2 ≤ x2) := c1
      rw [if_neg c1] at H
      refine Ev.go 2 (s' := (h, 15, [(0, .ref 15), (1, .int x1), (2, .int x2)], [.int 24, .int x2])) rfl ?_
      refine Ev.if2 rfl (fun c2 => ?_) (fun c2 => ?_)
      · have c2 : 24 ≤ x2 := c2
        rw [if_pos c2] at H
        refine Ev.go 1 (s' := (h, 36, [(0, .ref 15), (1, .int x1), (2, .int x2)], [.int x1])) rfl ?_
        have H := Option.some.inj H
        subst H
        exact Ev.ret rfl rfl (p_retZ rfl) ⟨rfl, rfl⟩
      · have c2 : ¬ (24 ≤ x2) := c2
        rw [if_neg c2] at H
        refine Ev.go 2 (s' := (h, 20, [(0, .ref 15), (1, .int x1), (2, .int x2)], [.ref 15, .int x1])) rfl ?_
        refine Ev.get rfl (by decide) xO.1 rfl ?_
        refine Ev.go 1 (s' := (h, 24, [(0, .ref 15), (1, .int x1), (2, .int x2)], [.int x2, .ref 20, .int x1])) rfl ?_
        have v3 : vp_in x2 24 := fun q => by rw [if_pos q] at H; cases H
        rw [if_neg v3] at H
        refine Ev.iald rfl (by decide) xO.2.2.2.2.2.1 v3 ?_
        refine Ev.mmax rfl rfl (Nat.le_of_ble_eq_true rfl) ?_
        refine Ev.go 3 (s' := (h, 4, [(0, .ref 15), (1, .int (if x1 < (O.2.2.2.2.1 x2.toNatClampNeg) then (O.2.2.2.2.1 x2.toNatClampNeg) else x1)), (2, .int (x2 + 1))], [])) rfl ?_
        refine Ev.live rfl (lv' := [(0, .ref 15), (1, .int (if x1 < (O.2.2.2.2.1 x2.toNatClampNeg) then (O.2.2.2.2.1 x2.toNatClampNeg) else x1)), (2, .int (x2 + 1))]) rfl ?_
        exact llX3_mostLevels_4 m h (if x1 < (O.2.2.2.2.1 x2.toNatClampNeg) then (O.2.2.2.2.1 x2.toNatClampNeg) else x1) (x2 + 1) _ H xO
def fX3_mostLevels (n : Nat) (O : tO) : Option (Int32) := lX3_mostLevels_4 n O n 0 0
theorem spX3_mostLevels {d n : Nat} {h : pH} {O : tO} (xO : isO h O) {res : Int32} (H : fX3_mostLevels n O = some res) : Ev (d + 1) mX3_mostLevels (h, 0, [(0, .ref 15)], []) (fun r h1 => r = some (.int res) ∧ h1 = h) := by
  unfold fX3_mostLevels at H
  refine Ev.go 4 (s' := (h, 4, [(0, .ref 15), (1, .int 0), (2, .int 0)], [])) rfl ?_
  refine Ev.live rfl (lv' := [(0, .ref 15), (1, .int 0), (2, .int 0)]) rfl ?_
  exact llX3_mostLevels_4 n h 0 0 _ H xO
def fX3_take (O : tO) (v : Int32) (parent : Int32) (elder : Int32) : Option (tO) := (if 24 ≤ O.2.2.2.2.2.2.2 then some O else (if v < 0 then some O else (if v < 24 then (if v < 0 ∨ 24 ≤ v.toNatClampNeg then none else (if O.2.2.2.2.2.2.2 < 0 ∨ 24 ≤ O.2.2.2.2.2.2.2.toNatClampNeg then none else (if 0 ≤ parent then ((fX3_levelAt (upd O.1 v.toNatClampNeg O.2.2.2.2.2.2.2, upd O.2.1 O.2.2.2.2.2.2.2.toNatClampNeg v, upd O.2.2.1 O.2.2.2.2.2.2.2.toNatClampNeg parent, upd O.2.2.2.1 O.2.2.2.2.2.2.2.toNatClampNeg elder, O.2.2.2.2.1, O.2.2.2.2.2.1, O.2.2.2.2.2.2.1, O.2.2.2.2.2.2.2) parent).bind fun y8 => some (upd O.1 v.toNatClampNeg O.2.2.2.2.2.2.2, upd O.2.1 O.2.2.2.2.2.2.2.toNatClampNeg v, upd O.2.2.1 O.2.2.2.2.2.2.2.toNatClampNeg parent, upd O.2.2.2.1 O.2.2.2.2.2.2.2.toNatClampNeg elder, upd O.2.2.2.2.1 O.2.2.2.2.2.2.2.toNatClampNeg (y8 + 1), upd O.2.2.2.2.2.1 O.2.2.2.2.2.2.2.toNatClampNeg 0, upd O.2.2.2.2.2.2.1 O.2.2.2.2.2.2.2.toNatClampNeg 0, O.2.2.2.2.2.2.2 + 1)) else some (upd O.1 v.toNatClampNeg O.2.2.2.2.2.2.2, upd O.2.1 O.2.2.2.2.2.2.2.toNatClampNeg v, upd O.2.2.1 O.2.2.2.2.2.2.2.toNatClampNeg parent, upd O.2.2.2.1 O.2.2.2.2.2.2.2.toNatClampNeg elder, upd O.2.2.2.2.1 O.2.2.2.2.2.2.2.toNatClampNeg 0, upd O.2.2.2.2.2.1 O.2.2.2.2.2.2.2.toNatClampNeg 0, upd O.2.2.2.2.2.2.1 O.2.2.2.2.2.2.2.toNatClampNeg 0, O.2.2.2.2.2.2.2 + 1)))) else some O)))
theorem spX3_take {d : Nat} {h : pH} {O : tO} (xO : isO h O) (v : Int32) (parent : Int32) (elder : Int32) {res : tO} (H : fX3_take O v parent elder = some res) : Ev (d + 2) mX3_take (h, 0, [(0, .ref 15), (1, .int v), (2, .int parent), (3, .int elder)], []) (fun r h1 => r = none ∧ isO h1 res ∧ fr [(15, 23)] h h1) := by
  unfold fX3_take at H
  refine Ev.go 1 (s' := (h, 1, [(0, .ref 15), (1, .int v), (2, .int parent), (3, .int elder)], [.ref 15])) rfl ?_
  refine Ev.get rfl (by decide) xO.1 rfl ?_
  refine Ev.go 1 (s' := (h, 6, [(0, .ref 15), (1, .int v), (2, .int parent), (3, .int elder)], [.int 24, .int O.2.2.2.2.2.2.2])) rfl ?_
  refine Ev.if2 rfl (fun c1 => ?_) (fun c1 => ?_)
  · have c1 : 24 ≤ O.2.2.2.2.2.2.2 := c1
    rw [if_pos c1] at H
    have H := Option.some.inj H
    subst H
    exact Ev.ret rfl rfl rfl ⟨rfl, xO, (fun k _ => rfl)⟩
  · have c1 : ¬ (24 ≤ O.2.2.2.2.2.2.2) := c1
    rw [if_neg c1] at H
    refine Ev.go 1 (s' := (h, 10, [(0, .ref 15), (1, .int v), (2, .int parent), (3, .int elder)], [.int v])) rfl ?_
    refine Ev.if1 rfl (fun c2 => ?_) (fun c2 => ?_)
    · have c2 : v < 0 := c2
      rw [if_pos c2] at H
      have H := Option.some.inj H
      subst H
      exact Ev.ret rfl rfl rfl ⟨rfl, xO, (fun k _ => rfl)⟩
    · have c2 : ¬ (v < 0) := c2
      rw [if_neg c2] at H
      refine Ev.go 2 (s' := (h, 16, [(0, .ref 15), (1, .int v), (2, .int parent), (3, .int elder)], [.int 24, .int v])) rfl ?_
      refine Ev.if2 rfl (fun c3 => ?_) (fun c3 => ?_)
      · have c3 : v < 24 := c3
        rw [if_pos c3] at H
        refine Ev.go 1 (s' := (h, 21, [(0, .ref 15), (1, .int v), (2, .int parent), (3, .int elder)], [.ref 15])) rfl ?_
        refine Ev.get rfl (by decide) xO.1 rfl ?_
        refine Ev.go 2 (s' := (h, 26, [(0, .ref 15), (1, .int v), (2, .int parent), (3, .int elder)], [.ref 15, .int v, .ref 16])) rfl ?_
        refine Ev.get rfl (by decide) xO.1 rfl ?_
        have v4 : vp_in v 24 := fun q => by rw [if_pos q] at H; cases H
        rw [if_neg v4] at H
        refine Ev.iast rfl (by decide) xO.2.1 v4 ?_
        refine Ev.go 1 (s' := ((pu h 16 (eI 24 (upd O.1 v.toNatClampNeg O.2.2.2.2.2.2.2))), 31, [(0, .ref 15), (1, .int v), (2, .int parent), (3, .int elder)], [.ref 15])) rfl ?_
        refine Ev.get rfl (by decide) (pu_n (by decide) xO.1) rfl ?_
        refine Ev.go 1 (s' := ((pu h 16 (eI 24 (upd O.1 v.toNatClampNeg O.2.2.2.2.2.2.2))), 35, [(0, .ref 15), (1, .int v), (2, .int parent), (3, .int elder)], [.ref 15, .ref 17])) rfl ?_
        refine Ev.get rfl (by decide) (pu_n (by decide) xO.1) rfl ?_
        refine Ev.go 1 (s' := ((pu h 16 (eI 24 (upd O.1 v.toNatClampNeg O.2.2.2.2.2.2.2))), 39, [(0, .ref 15), (1, .int v), (2, .int parent), (3, .int elder)], [.int v, .int O.2.2.2.2.2.2.2, .ref 17])) rfl ?_
        have v5 : vp_in O.2.2.2.2.2.2.2 24 := fun q => by rw [if_pos q] at H; cases H
        rw [if_neg v5] at H
        refine Ev.iast rfl (by decide) (pu_n (by decide) xO.2.2.1) v5 ?_
        refine Ev.go 1 (s' := ((pu (pu h 16 (eI 24 (upd O.1 v.toNatClampNeg O.2.2.2.2.2.2.2))) 17 (eI 24 (upd O.2.1 O.2.2.2.2.2.2.2.toNatClampNeg v))), 41, [(0, .ref 15), (1, .int v), (2, .int parent), (3, .int elder)], [.ref 15])) rfl ?_
        refine Ev.get rfl (by decide) (pu_n (by decide) (pu_n (by decide) xO.1)) rfl ?_
        refine Ev.go 1 (s' := ((pu (pu h 16 (eI 24 (upd O.1 v.toNatClampNeg O.2.2.2.2.2.2.2))) 17 (eI 24 (upd O.2.1 O.2.2.2.2.2.2.2.toNatClampNeg v))), 45, [(0, .ref 15), (1, .int v), (2, .int parent), (3, .int elder)], [.ref 15, .ref 18])) rfl ?_
        refine Ev.get rfl (by decide) (pu_n (by decide) (pu_n (by decide) xO.1)) rfl ?_
        refine Ev.go 1 (s' := ((pu (pu h 16 (eI 24 (upd O.1 v.toNatClampNeg O.2.2.2.2.2.2.2))) 17 (eI 24 (upd O.2.1 O.2.2.2.2.2.2.2.toNatClampNeg v))), 49, [(0, .ref 15), (1, .int v), (2, .int parent), (3, .int elder)], [.int parent, .int O.2.2.2.2.2.2.2, .ref 18])) rfl ?_
        refine Ev.iast rfl (by decide) (pu_n (by decide) (pu_n (by decide) xO.2.2.2.1)) v5 ?_
        refine Ev.go 1 (s' := ((pu (pu (pu h 16 (eI 24 (upd O.1 v.toNatClampNeg O.2.2.2.2.2.2.2))) 17 (eI 24 (upd O.2.1 O.2.2.2.2.2.2.2.toNatClampNeg v))) 18 (eI 24 (upd O.2.2.1 O.2.2.2.2.2.2.2.toNatClampNeg parent))), 51, [(0, .ref 15), (1, .int v), (2, .int parent), (3, .int elder)], [.ref 15])) rfl ?_
        refine Ev.get rfl (by decide) (pu_n (by decide) (pu_n (by decide) (pu_n (by decide) xO.1))) rfl ?_
        refine Ev.go 1 (s' := ((pu (pu (pu h 16 (eI 24 (upd O.1 v.toNatClampNeg O.2.2.2.2.2.2.2))) 17 (eI 24 (upd O.2.1 O.2.2.2.2.2.2.2.toNatClampNeg v))) 18 (eI 24 (upd O.2.2.1 O.2.2.2.2.2.2.2.toNatClampNeg parent))), 55, [(0, .ref 15), (1, .int v), (2, .int parent), (3, .int elder)], [.ref 15, .ref 19])) rfl ?_
        refine Ev.get rfl (by decide) (pu_n (by decide) (pu_n (by decide) (pu_n (by decide) xO.1))) rfl ?_
        refine Ev.go 1 (s' := ((pu (pu (pu h 16 (eI 24 (upd O.1 v.toNatClampNeg O.2.2.2.2.2.2.2))) 17 (eI 24 (upd O.2.1 O.2.2.2.2.2.2.2.toNatClampNeg v))) 18 (eI 24 (upd O.2.2.1 O.2.2.2.2.2.2.2.toNatClampNeg parent))), 59, [(0, .ref 15), (1, .int v), (2, .int parent), (3, .int elder)], [.int elder, .int O.2.2.2.2.2.2.2, .ref 19])) rfl ?_
        refine Ev.iast rfl (by decide) (pu_n (by decide) (pu_n (by decide) (pu_n (by decide) xO.2.2.2.2.1))) v5 ?_
        refine Ev.go 1 (s' := ((pu (pu (pu (pu h 16 (eI 24 (upd O.1 v.toNatClampNeg O.2.2.2.2.2.2.2))) 17 (eI 24 (upd O.2.1 O.2.2.2.2.2.2.2.toNatClampNeg v))) 18 (eI 24 (upd O.2.2.1 O.2.2.2.2.2.2.2.toNatClampNeg parent))) 19 (eI 24 (upd O.2.2.2.1 O.2.2.2.2.2.2.2.toNatClampNeg elder))), 61, [(0, .ref 15), (1, .int v), (2, .int parent), (3, .int elder)], [.ref 15])) rfl ?_
        refine Ev.get rfl (by decide) (pu_n (by decide) (pu_n (by decide) (pu_n (by decide) (pu_n (by decide) xO.1)))) rfl ?_
        refine Ev.go 1 (s' := ((pu (pu (pu (pu h 16 (eI 24 (upd O.1 v.toNatClampNeg O.2.2.2.2.2.2.2))) 17 (eI 24 (upd O.2.1 O.2.2.2.2.2.2.2.toNatClampNeg v))) 18 (eI 24 (upd O.2.2.1 O.2.2.2.2.2.2.2.toNatClampNeg parent))) 19 (eI 24 (upd O.2.2.2.1 O.2.2.2.2.2.2.2.toNatClampNeg elder))), 65, [(0, .ref 15), (1, .int v), (2, .int parent), (3, .int elder)], [.ref 15, .ref 20])) rfl ?_
        refine Ev.get rfl (by decide) (pu_n (by decide) (pu_n (by decide) (pu_n (by decide) (pu_n (by decide) xO.1)))) rfl ?_
        refine Ev.go 1 (s' := ((pu (pu (pu (pu h 16 (eI 24 (upd O.1 v.toNatClampNeg O.2.2.2.2.2.2.2))) 17 (eI 24 (upd O.2.1 O.2.2.2.2.2.2.2.toNatClampNeg v))) 18 (eI 24 (upd O.2.2.1 O.2.2.2.2.2.2.2.toNatClampNeg parent))) 19 (eI 24 (upd O.2.2.2.1 O.2.2.2.2.2.2.2.toNatClampNeg elder))), 69, [(0, .ref 15), (1, .int v), (2, .int parent), (3, .int elder)], [.int parent, .int O.2.2.2.2.2.2.2, .ref 20])) rfl ?_
        refine Ev.if1 rfl (fun c6 => ?_) (fun c6 => ?_)
        · have c6 : 0 ≤ parent := c6
          rw [if_pos c6] at H
          refine Ev.go 2 (s' := ((pu (pu (pu (pu h 16 (eI 24 (upd O.1 v.toNatClampNeg O.2.2.2.2.2.2.2))) 17 (eI 24 (upd O.2.1 O.2.2.2.2.2.2.2.toNatClampNeg v))) 18 (eI 24 (upd O.2.2.1 O.2.2.2.2.2.2.2.toNatClampNeg parent))) 19 (eI 24 (upd O.2.2.2.1 O.2.2.2.2.2.2.2.toNatClampNeg elder))), 78, [(0, .ref 15), (1, .int v), (2, .int parent), (3, .int elder)], [.int parent, .ref 15, .int O.2.2.2.2.2.2.2, .ref 20])) rfl ?_
          obtain ⟨y8, e7, H⟩ := Option.bind_eq_some_iff.mp H
          refine Ev.callE rfl rfl rfl (p_argsV (by decide) (pu_n (by decide) (pu_n (by decide) (pu_n (by decide) (pu_n (by decide) xO.1)))) (Nat.le_of_ble_eq_true rfl)) rfl (Nat.le_of_ble_eq_true rfl) (spX3_levelAt (h := (pu (pu (pu (pu h 16 (eI 24 (upd O.1 v.toNatClampNeg O.2.2.2.2.2.2.2))) 17 (eI 24 (upd O.2.1 O.2.2.2.2.2.2.2.toNatClampNeg v))) 18 (eI 24 (upd O.2.2.1 O.2.2.2.2.2.2.2.toNatClampNeg parent))) 19 (eI 24 (upd O.2.2.2.1 O.2.2.2.2.2.2.2.toNatClampNeg elder)))) (O := (upd O.1 v.toNatClampNeg O.2.2.2.2.2.2.2, upd O.2.1 O.2.2.2.2.2.2.2.toNatClampNeg v, upd O.2.2.1 O.2.2.2.2.2.2.2.toNatClampNeg parent, upd O.2.2.2.1 O.2.2.2.2.2.2.2.toNatClampNeg elder, O.2.2.2.2.1, O.2.2.2.2.2.1, O.2.2.2.2.2.2.1, O.2.2.2.2.2.2.2)) ⟨(pu_n (by decide) (pu_n (by decide) (pu_n (by decide) (pu_n (by decide) xO.1)))), (pu_n (by decide) (pu_n (by decide) (pu_n (by decide) pu_s))), (pu_n (by decide) (pu_n (by decide) pu_s)), (pu_n (by decide) pu_s), pu_s, (pu_n (by decide) (pu_n (by decide) (pu_n (by decide) (pu_n (by decide) xO.2.2.2.2.2.1)))), (pu_n (by decide) (pu_n (by decide) (pu_n (by decide) (pu_n (by decide) xO.2.2.2.2.2.2.1)))), (pu_n (by decide) (pu_n (by decide) (pu_n (by decide) (pu_n (by decide) xO.2.2.2.2.2.2.2))))⟩ parent e7) ?_
          refine Ev.go 2 (s' := ((pu (pu (pu (pu h 16 (eI 24 (upd O.1 v.toNatClampNeg O.2.2.2.2.2.2.2))) 17 (eI 24 (upd O.2.1 O.2.2.2.2.2.2.2.toNatClampNeg v))) 18 (eI 24 (upd O.2.2.1 O.2.2.2.2.2.2.2.toNatClampNeg parent))) 19 (eI 24 (upd O.2.2.2.1 O.2.2.2.2.2.2.2.toNatClampNeg elder))), 83, [(0, .ref 15), (1, .int v), (2, .int parent), (3, .int elder)], [.int (y8 + 1), .int O.2.2.2.2.2.2.2, .ref 20])) rfl ?_
          refine Ev.iast rfl (by decide) (pu_n (by decide) (pu_n (by decide) (pu_n (by decide) (pu_n (by decide) xO.2.2.2.2.2.1)))) v5 ?_
          refine Ev.go 1 (s' := ((pu (pu (pu (pu (pu h 16 (eI 24 (upd O.1 v.toNatClampNeg O.2.2.2.2.2.2.2))) 17 (eI 24 (upd O.2.1 O.2.2.2.2.2.2.2.toNatClampNeg v))) 18 (eI 24 (upd O.2.2.1 O.2.2.2.2.2.2.2.toNatClampNeg parent))) 19 (eI 24 (upd O.2.2.2.1 O.2.2.2.2.2.2.2.toNatClampNeg elder))) 20 (eI 24 (upd O.2.2.2.2.1 O.2.2.2.2.2.2.2.toNatClampNeg (y8 + 1)))), 85, [(0, .ref 15), (1, .int v), (2, .int parent), (3, .int elder)], [.ref 15])) rfl ?_
          refine Ev.get rfl (by decide) (pu_n (by decide) (pu_n (by decide) (pu_n (by decide) (pu_n (by decide) (pu_n (by decide) xO.1))))) rfl ?_
          refine Ev.go 1 (s' := ((pu (pu (pu (pu (pu h 16 (eI 24 (upd O.1 v.toNatClampNeg O.2.2.2.2.2.2.2))) 17 (eI 24 (upd O.2.1 O.2.2.2.2.2.2.2.toNatClampNeg v))) 18 (eI 24 (upd O.2.2.1 O.2.2.2.2.2.2.2.toNatClampNeg parent))) 19 (eI 24 (upd O.2.2.2.1 O.2.2.2.2.2.2.2.toNatClampNeg elder))) 20 (eI 24 (upd O.2.2.2.2.1 O.2.2.2.2.2.2.2.toNatClampNeg (y8 + 1)))), 89, [(0, .ref 15), (1, .int v), (2, .int parent), (3, .int elder)], [.ref 15, .ref 21])) rfl ?_
          refine Ev.get rfl (by decide) (pu_n (by decide) (pu_n (by decide) (pu_n (by decide) (pu_n (by decide) (pu_n (by decide) xO.1))))) rfl ?_
          refine Ev.go 1 (s' := ((pu (pu (pu (pu (pu h 16 (eI 24 (upd O.1 v.toNatClampNeg O.2.2.2.2.2.2.2))) 17 (eI 24 (upd O.2.1 O.2.2.2.2.2.2.2.toNatClampNeg v))) 18 (eI 24 (upd O.2.2.1 O.2.2.2.2.2.2.2.toNatClampNeg parent))) 19 (eI 24 (upd O.2.2.2.1 O.2.2.2.2.2.2.2.toNatClampNeg elder))) 20 (eI 24 (upd O.2.2.2.2.1 O.2.2.2.2.2.2.2.toNatClampNeg (y8 + 1)))), 93, [(0, .ref 15), (1, .int v), (2, .int parent), (3, .int elder)], [.int 0, .int O.2.2.2.2.2.2.2, .ref 21])) rfl ?_
          refine Ev.iast rfl (by decide) (pu_n (by decide) (pu_n (by decide) (pu_n (by decide) (pu_n (by decide) (pu_n (by decide) xO.2.2.2.2.2.2.1))))) v5 ?_
          refine Ev.go 1 (s' := ((pu (pu (pu (pu (pu (pu h 16 (eI 24 (upd O.1 v.toNatClampNeg O.2.2.2.2.2.2.2))) 17 (eI 24 (upd O.2.1 O.2.2.2.2.2.2.2.toNatClampNeg v))) 18 (eI 24 (upd O.2.2.1 O.2.2.2.2.2.2.2.toNatClampNeg parent))) 19 (eI 24 (upd O.2.2.2.1 O.2.2.2.2.2.2.2.toNatClampNeg elder))) 20 (eI 24 (upd O.2.2.2.2.1 O.2.2.2.2.2.2.2.toNatClampNeg (y8 + 1)))) 21 (eI 24 (upd O.2.2.2.2.2.1 O.2.2.2.2.2.2.2.toNatClampNeg 0))), 95, [(0, .ref 15), (1, .int v), (2, .int parent), (3, .int elder)], [.ref 15])) rfl ?_
          refine Ev.get rfl (by decide) (pu_n (by decide) (pu_n (by decide) (pu_n (by decide) (pu_n (by decide) (pu_n (by decide) (pu_n (by decide) xO.1)))))) rfl ?_
          refine Ev.go 1 (s' := ((pu (pu (pu (pu (pu (pu h 16 (eI 24 (upd O.1 v.toNatClampNeg O.2.2.2.2.2.2.2))) 17 (eI 24 (upd O.2.1 O.2.2.2.2.2.2.2.toNatClampNeg v))) 18 (eI 24 (upd O.2.2.1 O.2.2.2.2.2.2.2.toNatClampNeg parent))) 19 (eI 24 (upd O.2.2.2.1 O.2.2.2.2.2.2.2.toNatClampNeg elder))) 20 (eI 24 (upd O.2.2.2.2.1 O.2.2.2.2.2.2.2.toNatClampNeg (y8 + 1)))) 21 (eI 24 (upd O.2.2.2.2.2.1 O.2.2.2.2.2.2.2.toNatClampNeg 0))), 99, [(0, .ref 15), (1, .int v), (2, .int parent), (3, .int elder)], [.ref 15, .ref 22])) rfl ?_
          refine Ev.get rfl (by decide) (pu_n (by decide) (pu_n (by decide) (pu_n (by decide) (pu_n (by decide) (pu_n (by decide) (pu_n (by decide) xO.1)))))) rfl ?_
          refine Ev.go 1 (s' := ((pu (pu (pu (pu (pu (pu h 16 (eI 24 (upd O.1 v.toNatClampNeg O.2.2.2.2.2.2.2))) 17 (eI 24 (upd O.2.1 O.2.2.2.2.2.2.2.toNatClampNeg v))) 18 (eI 24 (upd O.2.2.1 O.2.2.2.2.2.2.2.toNatClampNeg parent))) 19 (eI 24 (upd O.2.2.2.1 O.2.2.2.2.2.2.2.toNatClampNeg elder))) 20 (eI 24 (upd O.2.2.2.2.1 O.2.2.2.2.2.2.2.toNatClampNeg (y8 + 1)))) 21 (eI 24 (upd O.2.2.2.2.2.1 O.2.2.2.2.2.2.2.toNatClampNeg 0))), 103, [(0, .ref 15), (1, .int v), (2, .int parent), (3, .int elder)], [.int 0, .int O.2.2.2.2.2.2.2, .ref 22])) rfl ?_
          refine Ev.iast rfl (by decide) (pu_n (by decide) (pu_n (by decide) (pu_n (by decide) (pu_n (by decide) (pu_n (by decide) (pu_n (by decide) xO.2.2.2.2.2.2.2)))))) v5 ?_
          refine Ev.go 2 (s' := ((pu (pu (pu (pu (pu (pu (pu h 16 (eI 24 (upd O.1 v.toNatClampNeg O.2.2.2.2.2.2.2))) 17 (eI 24 (upd O.2.1 O.2.2.2.2.2.2.2.toNatClampNeg v))) 18 (eI 24 (upd O.2.2.1 O.2.2.2.2.2.2.2.toNatClampNeg parent))) 19 (eI 24 (upd O.2.2.2.1 O.2.2.2.2.2.2.2.toNatClampNeg elder))) 20 (eI 24 (upd O.2.2.2.2.1 O.2.2.2.2.2.2.2.toNatClampNeg (y8 + 1)))) 21 (eI 24 (upd O.2.2.2.2.2.1 O.2.2.2.2.2.2.2.toNatClampNeg 0))) 22 (eI 24 (upd O.2.2.2.2.2.2.1 O.2.2.2.2.2.2.2.toNatClampNeg 0))), 106, [(0, .ref 15), (1, .int v), (2, .int parent), (3, .int elder)], [.ref 15, .ref 15])) rfl ?_
          refine Ev.get rfl (by decide) (pu_n (by decide) (pu_n (by decide) (pu_n (by decide) (pu_n (by decide) (pu_n (by decide) (pu_n (by decide) (pu_n (by decide) xO.1))))))) rfl ?_
          refine Ev.go 2 (s' := ((pu (pu (pu (pu (pu (pu (pu h 16 (eI 24 (upd O.1 v.toNatClampNeg O.2.2.2.2.2.2.2))) 17 (eI 24 (upd O.2.1 O.2.2.2.2.2.2.2.toNatClampNeg v))) 18 (eI 24 (upd O.2.2.1 O.2.2.2.2.2.2.2.toNatClampNeg parent))) 19 (eI 24 (upd O.2.2.2.1 O.2.2.2.2.2.2.2.toNatClampNeg elder))) 20 (eI 24 (upd O.2.2.2.2.1 O.2.2.2.2.2.2.2.toNatClampNeg (y8 + 1)))) 21 (eI 24 (upd O.2.2.2.2.2.1 O.2.2.2.2.2.2.2.toNatClampNeg 0))) 22 (eI 24 (upd O.2.2.2.2.2.2.1 O.2.2.2.2.2.2.2.toNatClampNeg 0))), 111, [(0, .ref 15), (1, .int v), (2, .int parent), (3, .int elder)], [.int (O.2.2.2.2.2.2.2 + 1), .ref 15])) rfl ?_
          refine Ev.put rfl rfl (by decide) (pu_n (by decide) (pu_n (by decide) (pu_n (by decide) (pu_n (by decide) (pu_n (by decide) (pu_n (by decide) (pu_n (by decide) xO.1))))))) (Nat.le_of_ble_eq_true rfl) rfl rfl (fs' := [.ref 16, .ref 17, .ref 18, .ref 19, .ref 20, .ref 21, .ref 22, .int (O.2.2.2.2.2.2.2 + 1)]) rfl ?_
          have H := Option.some.inj H
          subst H
          exact Ev.ret rfl rfl rfl ⟨rfl, ⟨pu_s, (pu_n (by decide) (pu_n (by decide) (pu_n (by decide) (pu_n (by decide) (pu_n (by decide) (pu_n (by decide) (pu_n (by decide) pu_s))))))), (pu_n (by decide) (pu_n (by decide) (pu_n (by decide) (pu_n (by decide) (pu_n (by decide) (pu_n (by decide) pu_s)))))), (pu_n (by decide) (pu_n (by decide) (pu_n (by decide) (pu_n (by decide) (pu_n (by decide) pu_s))))), (pu_n (by decide) (pu_n (by decide) (pu_n (by decide) (pu_n (by decide) pu_s)))), (pu_n (by decide) (pu_n (by decide) (pu_n (by decide) pu_s))), (pu_n (by decide) (pu_n (by decide) pu_s)), (pu_n (by decide) pu_s)⟩, (fun k hk => by rw [pu_x (show k ≠ 15 from fun e => by have := hk; simp at this; omega)]; rw [pu_x (show k ≠ 22 from fun e => by have := hk; simp at this; omega)]; rw [pu_x (show k ≠ 21 from fun e => by have := hk; simp at this; omega)]; rw [pu_x (show k ≠ 20 from fun e => by have := hk; simp at this; omega)]; rw [pu_x (show k ≠ 19 from fun e => by have := hk; simp at this; omega)]; rw [pu_x (show k ≠ 18 from fun e => by have := hk; simp at this; omega)]; rw [pu_x (show k ≠ 17 from fun e => by have := hk; simp at this; omega)]; rw [pu_x (show k ≠ 16 from fun e => by have := hk; simp at this; omega)])⟩
        · have c6 : ¬ (0 ≤ parent) := c6
          rw [if_neg c6] at H
          refine Ev.go 2 (s' := ((pu (pu (pu (pu h 16 (eI 24 (upd O.1 v.toNatClampNeg O.2.2.2.2.2.2.2))) 17 (eI 24 (upd O.2.1 O.2.2.2.2.2.2.2.toNatClampNeg v))) 18 (eI 24 (upd O.2.2.1 O.2.2.2.2.2.2.2.toNatClampNeg parent))) 19 (eI 24 (upd O.2.2.2.1 O.2.2.2.2.2.2.2.toNatClampNeg elder))), 83, [(0, .ref 15), (1, .int v), (2, .int parent), (3, .int elder)], [.int 0, .int O.2.2.2.2.2.2.2, .ref 20])) rfl ?_
          refine Ev.iast rfl (by decide) (pu_n (by decide) (pu_n (by decide) (pu_n (by decide) (pu_n (by decide) xO.2.2.2.2.2.1)))) v5 ?_
          refine Ev.go 1 (s' := ((pu (pu (pu (pu (pu h 16 (eI 24 (upd O.1 v.toNatClampNeg O.2.2.2.2.2.2.2))) 17 (eI 24 (upd O.2.1 O.2.2.2.2.2.2.2.toNatClampNeg v))) 18 (eI 24 (upd O.2.2.1 O.2.2.2.2.2.2.2.toNatClampNeg parent))) 19 (eI 24 (upd O.2.2.2.1 O.2.2.2.2.2.2.2.toNatClampNeg elder))) 20 (eI 24 (upd O.2.2.2.2.1 O.2.2.2.2.2.2.2.toNatClampNeg 0))), 85, [(0, .ref 15), (1, .int v), (2, .int parent), (3, .int elder)], [.ref 15])) rfl ?_
          refine Ev.get rfl (by decide) (pu_n (by decide) (pu_n (by decide) (pu_n (by decide) (pu_n (by decide) (pu_n (by decide) xO.1))))) rfl ?_
          refine Ev.go 1 (s' := ((pu (pu (pu (pu (pu h 16 (eI 24 (upd O.1 v.toNatClampNeg O.2.2.2.2.2.2.2))) 17 (eI 24 (upd O.2.1 O.2.2.2.2.2.2.2.toNatClampNeg v))) 18 (eI 24 (upd O.2.2.1 O.2.2.2.2.2.2.2.toNatClampNeg parent))) 19 (eI 24 (upd O.2.2.2.1 O.2.2.2.2.2.2.2.toNatClampNeg elder))) 20 (eI 24 (upd O.2.2.2.2.1 O.2.2.2.2.2.2.2.toNatClampNeg 0))), 89, [(0, .ref 15), (1, .int v), (2, .int parent), (3, .int elder)], [.ref 15, .ref 21])) rfl ?_
          refine Ev.get rfl (by decide) (pu_n (by decide) (pu_n (by decide) (pu_n (by decide) (pu_n (by decide) (pu_n (by decide) xO.1))))) rfl ?_
          refine Ev.go 1 (s' := ((pu (pu (pu (pu (pu h 16 (eI 24 (upd O.1 v.toNatClampNeg O.2.2.2.2.2.2.2))) 17 (eI 24 (upd O.2.1 O.2.2.2.2.2.2.2.toNatClampNeg v))) 18 (eI 24 (upd O.2.2.1 O.2.2.2.2.2.2.2.toNatClampNeg parent))) 19 (eI 24 (upd O.2.2.2.1 O.2.2.2.2.2.2.2.toNatClampNeg elder))) 20 (eI 24 (upd O.2.2.2.2.1 O.2.2.2.2.2.2.2.toNatClampNeg 0))), 93, [(0, .ref 15), (1, .int v), (2, .int parent), (3, .int elder)], [.int 0, .int O.2.2.2.2.2.2.2, .ref 21])) rfl ?_
          refine Ev.iast rfl (by decide) (pu_n (by decide) (pu_n (by decide) (pu_n (by decide) (pu_n (by decide) (pu_n (by decide) xO.2.2.2.2.2.2.1))))) v5 ?_
          refine Ev.go 1 (s' := ((pu (pu (pu (pu (pu (pu h 16 (eI 24 (upd O.1 v.toNatClampNeg O.2.2.2.2.2.2.2))) 17 (eI 24 (upd O.2.1 O.2.2.2.2.2.2.2.toNatClampNeg v))) 18 (eI 24 (upd O.2.2.1 O.2.2.2.2.2.2.2.toNatClampNeg parent))) 19 (eI 24 (upd O.2.2.2.1 O.2.2.2.2.2.2.2.toNatClampNeg elder))) 20 (eI 24 (upd O.2.2.2.2.1 O.2.2.2.2.2.2.2.toNatClampNeg 0))) 21 (eI 24 (upd O.2.2.2.2.2.1 O.2.2.2.2.2.2.2.toNatClampNeg 0))), 95, [(0, .ref 15), (1, .int v), (2, .int parent), (3, .int elder)], [.ref 15])) rfl ?_
          refine Ev.get rfl (by decide) (pu_n (by decide) (pu_n (by decide) (pu_n (by decide) (pu_n (by decide) (pu_n (by decide) (pu_n (by decide) xO.1)))))) rfl ?_
          refine Ev.go 1 (s' := ((pu (pu (pu (pu (pu (pu h 16 (eI 24 (upd O.1 v.toNatClampNeg O.2.2.2.2.2.2.2))) 17 (eI 24 (upd O.2.1 O.2.2.2.2.2.2.2.toNatClampNeg v))) 18 (eI 24 (upd O.2.2.1 O.2.2.2.2.2.2.2.toNatClampNeg parent))) 19 (eI 24 (upd O.2.2.2.1 O.2.2.2.2.2.2.2.toNatClampNeg elder))) 20 (eI 24 (upd O.2.2.2.2.1 O.2.2.2.2.2.2.2.toNatClampNeg 0))) 21 (eI 24 (upd O.2.2.2.2.2.1 O.2.2.2.2.2.2.2.toNatClampNeg 0))), 99, [(0, .ref 15), (1, .int v), (2, .int parent), (3, .int elder)], [.ref 15, .ref 22])) rfl ?_
          refine Ev.get rfl (by decide) (pu_n (by decide) (pu_n (by decide) (pu_n (by decide) (pu_n (by decide) (pu_n (by decide) (pu_n (by decide) xO.1)))))) rfl ?_
          refine Ev.go 1 (s' := ((pu (pu (pu (pu (pu (pu h 16 (eI 24 (upd O.1 v.toNatClampNeg O.2.2.2.2.2.2.2))) 17 (eI 24 (upd O.2.1 O.2.2.2.2.2.2.2.toNatClampNeg v))) 18 (eI 24 (upd O.2.2.1 O.2.2.2.2.2.2.2.toNatClampNeg parent))) 19 (eI 24 (upd O.2.2.2.1 O.2.2.2.2.2.2.2.toNatClampNeg elder))) 20 (eI 24 (upd O.2.2.2.2.1 O.2.2.2.2.2.2.2.toNatClampNeg 0))) 21 (eI 24 (upd O.2.2.2.2.2.1 O.2.2.2.2.2.2.2.toNatClampNeg 0))), 103, [(0, .ref 15), (1, .int v), (2, .int parent), (3, .int elder)], [.int 0, .int O.2.2.2.2.2.2.2, .ref 22])) rfl ?_
          refine Ev.iast rfl (by decide) (pu_n (by decide) (pu_n (by decide) (pu_n (by decide) (pu_n (by decide) (pu_n (by decide) (pu_n (by decide) xO.2.2.2.2.2.2.2)))))) v5 ?_
          refine Ev.go 2 (s' := ((pu (pu (pu (pu (pu (pu (pu h 16 (eI 24 (upd O.1 v.toNatClampNeg O.2.2.2.2.2.2.2))) 17 (eI 24 (upd O.2.1 O.2.2.2.2.2.2.2.toNatClampNeg v))) 18 (eI 24 (upd O.2.2.1 O.2.2.2.2.2.2.2.toNatClampNeg parent))) 19 (eI 24 (upd O.2.2.2.1 O.2.2.2.2.2.2.2.toNatClampNeg elder))) 20 (eI 24 (upd O.2.2.2.2.1 O.2.2.2.2.2.2.2.toNatClampNeg 0))) 21 (eI 24 (upd O.2.2.2.2.2.1 O.2.2.2.2.2.2.2.toNatClampNeg 0))) 22 (eI 24 (upd O.2.2.2.2.2.2.1 O.2.2.2.2.2.2.2.toNatClampNeg 0))), 106, [(0, .ref 15), (1, .int v), (2, .int parent), (3, .int elder)], [.ref 15, .ref 15])) rfl ?_
          refine Ev.get rfl (by decide) (pu_n (by decide) (pu_n (by decide) (pu_n (by decide) (pu_n (by decide) (pu_n (by decide) (pu_n (by decide) (pu_n (by decide) xO.1))))))) rfl ?_
          refine Ev.go 2 (s' := ((pu (pu (pu (pu (pu (pu (pu h 16 (eI 24 (upd O.1 v.toNatClampNeg O.2.2.2.2.2.2.2))) 17 (eI 24 (upd O.2.1 O.2.2.2.2.2.2.2.toNatClampNeg v))) 18 (eI 24 (upd O.2.2.1 O.2.2.2.2.2.2.2.toNatClampNeg parent))) 19 (eI 24 (upd O.2.2.2.1 O.2.2.2.2.2.2.2.toNatClampNeg elder))) 20 (eI 24 (upd O.2.2.2.2.1 O.2.2.2.2.2.2.2.toNatClampNeg 0))) 21 (eI 24 (upd O.2.2.2.2.2.1 O.2.2.2.2.2.2.2.toNatClampNeg 0))) 22 (eI 24 (upd O.2.2.2.2.2.2.1 O.2.2.2.2.2.2.2.toNatClampNeg 0))), 111, [(0, .ref 15), (1, .int v), (2, .int parent), (3, .int elder)], [.int (O.2.2.2.2.2.2.2 + 1), .ref 15])) rfl ?_
          refine Ev.put rfl rfl (by decide) (pu_n (by decide) (pu_n (by decide) (pu_n (by decide) (pu_n (by decide) (pu_n (by decide) (pu_n (by decide) (pu_n (by decide) xO.1))))))) (Nat.le_of_ble_eq_true rfl) rfl rfl (fs' := [.ref 16, .ref 17, .ref 18, .ref 19, .ref 20, .ref 21, .ref 22, .int (O.2.2.2.2.2.2.2 + 1)]) rfl ?_
          have H := Option.some.inj H
          subst H
          exact Ev.ret rfl rfl rfl ⟨rfl, ⟨pu_s, (pu_n (by decide) (pu_n (by decide) (pu_n (by decide) (pu_n (by decide) (pu_n (by decide) (pu_n (by decide) (pu_n (by decide) pu_s))))))), (pu_n (by decide) (pu_n (by decide) (pu_n (by decide) (pu_n (by decide) (pu_n (by decide) (pu_n (by decide) pu_s)))))), (pu_n (by decide) (pu_n (by decide) (pu_n (by decide) (pu_n (by decide) (pu_n (by decide) pu_s))))), (pu_n (by decide) (pu_n (by decide) (pu_n (by decide) (pu_n (by decide) pu_s)))), (pu_n (by decide) (pu_n (by decide) (pu_n (by decide) pu_s))), (pu_n (by decide) (pu_n (by decide) pu_s)), (pu_n (by decide) pu_s)⟩, (fun k hk => by rw [pu_x (show k ≠ 15 from fun e => by have := hk; simp at this; omega)]; rw [pu_x (show k ≠ 22 from fun e => by have := hk; simp at this; omega)]; rw [pu_x (show k ≠ 21 from fun e => by have := hk; simp at this; omega)]; rw [pu_x (show k ≠ 20 from fun e => by have := hk; simp at this; omega)]; rw [pu_x (show k ≠ 19 from fun e => by have := hk; simp at this; omega)]; rw [pu_x (show k ≠ 18 from fun e => by have := hk; simp at this; omega)]; rw [pu_x (show k ≠ 17 from fun e => by have := hk; simp at this; omega)]; rw [pu_x (show k ≠ 16 from fun e => by have := hk; simp at this; omega)])⟩
      · have c3 : ¬ (v < 24) := c3
        rw [if_neg c3] at H
        have H := Option.some.inj H
        subst H
        exact Ev.ret rfl rfl rfl ⟨rfl, xO, (fun k _ => rfl)⟩
def lX3_takeFollower_29 (n : Nat) (T : tT) : Nat → Int32 → Int32 → tO → Option (tO)
  | 0, _, _, _ => none
  | m + 1, x4, x5, O => (if 24 ≤ x5 then some O else (if x4 ≤ 0 then some O else ((fX3_parentAt O x4).bind fun y14 => ((fX3_nodeAt O y14).bind fun y16 => ((fX3_nodeAt O x4).bind fun y18 => ((fX7_nextKid n T y16 (fX7_spotOf T y18)).bind fun y20 => (if y20 < 0 then lX3_takeFollower_29 n T m y14 (x5 + 1) O else ((fX3_take O y20 y14 x4).bind fun y23 => some y23))))))))
theorem llX3_takeFollower_29 {d n : Nat} {T : tT} : ∀ (m : Nat) (h : pH) (x4 : Int32) (x5 : Int32) (O : tO) (res : tO), lX3_takeFollower_29 n T m x4 x5 O = some res → isT h 7 T → isO h O → Ev (d + 3) mX3_takeFollower (h, 29, [(0, .ref 15), (1, .ref 7), (4, .int x4), (5, .int x5)], []) (fun r h1 => r = none ∧ isO h1 res ∧ fr [(15, 23)] h h1)
  | 0, h, x4, x5, O, res, H, _, _ => by cases H
  | m + 1, h, x4, x5, O, res, H, xT, xO => by
    have H : (if 24 ≤ x5 then some O else (if x4 ≤ 0 then some O else ((fX3_parentAt O x4).bind fun y14 => ((fX3_nodeAt O y14).bind fun y16 => ((fX3_nodeAt O x4).bind fun y18 => ((fX7_nextKid n T y16 (fX7_spotOf T y18)).bind fun y20 => (if y20 < 0 then lX3_takeFollower_29 n T m y14 (x5 + 1) O else ((fX3_take O y20 y14 x4).bind fun y23 => some y23)))))))) = some res := H
    refine Ev.go 2 (s' := (h, 33, [(0, .ref 15), (1, .ref 7), (4, .int x4), (5, .int x5)], [.int 24, .int x5])) rfl ?_
    refine Ev.if2 rfl (fun c11 => ?_) (fun c11 => ?_)
    · have c11 : 24 ≤ x5 := c11
      rw [if_pos c11] at H
      have H := Option.some.inj H
      subst H
      exact Ev.ret rfl rfl rfl ⟨rfl, xO, (fun k _ => rfl)⟩
    · have c11 : ¬ (24 ≤ x5) := c11
      rw [if_neg c11] at H
      refine Ev.go 1 (s' := (h, 38, [(0, .ref 15), (1, .ref 7), (4, .int x4), (5, .int x5)], [.int x4])) rfl ?_
      refine Ev.if1 rfl (fun c12 => ?_) (fun c12 => ?_)
      · have c12 : x4 ≤ 0 := c12
        rw [if_pos c12] at H
        have H := Option.some.inj H
        subst H
        exact Ev.ret rfl rfl rfl ⟨rfl, xO, (fun k _ => rfl)⟩
      · have c12 : ¬ (x4 ≤ 0) := c12
        rw [if_neg c12] at H
        refine Ev.go 2 (s' := (h, 44, [(0, .ref 15), (1, .ref 7), (4, .int x4), (5, .int x5)], [.int x4, .ref 15])) rfl ?_
        obtain ⟨y14, e13, H⟩ := Option.bind_eq_some_iff.mp H
        refine Ev.callE rfl rfl rfl (p_argsV (by decide) xO.1 (Nat.le_of_ble_eq_true rfl)) rfl (Nat.le_of_ble_eq_true rfl) (spX3_parentAt xO x4 e13) ?_
        refine Ev.go 4 (s' := (h, 53, [(0, .ref 15), (1, .ref 7), (4, .int x4), (5, .int x5), (6, .int y14)], [.int y14, .ref 15, .ref 7])) rfl ?_
        obtain ⟨y16, e15, H⟩ := Option.bind_eq_some_iff.mp H
        refine Ev.callE rfl rfl rfl (p_argsV (by decide) xO.1 (Nat.le_of_ble_eq_true rfl)) rfl (Nat.le_of_ble_eq_true rfl) (spX3_nodeAt xO y14 e15) ?_
        refine Ev.go 3 (s' := (h, 60, [(0, .ref 15), (1, .ref 7), (4, .int x4), (5, .int x5), (6, .int y14)], [.int x4, .ref 15, .ref 7, .int y16, .ref 7])) rfl ?_
        obtain ⟨y18, e17, H⟩ := Option.bind_eq_some_iff.mp H
        refine Ev.callE rfl rfl rfl (p_argsV (by decide) xO.1 (Nat.le_of_ble_eq_true rfl)) rfl (Nat.le_of_ble_eq_true rfl) (spX3_nodeAt xO x4 e17) ?_
        refine Ev.callE rfl rfl rfl (p_argsV (by decide) xT.1 (Nat.le_of_ble_eq_true rfl)) rfl (Nat.le_of_ble_eq_true rfl) (spX7_spotOf xT y18) ?_
        obtain ⟨y20, e19, H⟩ := Option.bind_eq_some_iff.mp H
        refine Ev.callE rfl rfl rfl (p_argsV (by decide) xT.1 (Nat.le_of_ble_eq_true rfl)) rfl (Nat.le_of_ble_eq_true rfl) (spX7_nextKid xT y16 (fX7_spotOf T y18) e19) ?_
        refine Ev.go 2 (s' := (h, 73, [(0, .ref 15), (1, .ref 7), (4, .int x4), (5, .int x5), (6, .int y14), (7, .int y20)], [.int y20])) rfl ?_
        refine Ev.if1 rfl (fun c21 => ?_) (fun c21 => ?_)
        · have c21 : y20 < 0 := c21
          rw [if_pos c21] at H
          refine Ev.go 4 (s' := (h, 29, [(0, .ref 15), (1, .ref 7), (4, .int y14), (5, .int (x5 + 1)), (6, .int y14), (7, .int y20)], [])) rfl ?_
          refine Ev.live rfl (lv' := [(0, .ref 15), (1, .ref 7), (4, .int y14), (5, .int (x5 + 1))]) rfl ?_
          exact llX3_takeFollower_29 m h y14 (x5 + 1) O _ H xT xO
        · have c21 : ¬ (y20 < 0) := c21
          rw [if_neg c21] at H
          refine Ev.go 4 (s' := (h, 83, [(0, .ref 15), (1, .ref 7), (4, .int x4), (5, .int x5), (6, .int y14), (7, .int y20)], [.int x4, .int y14, .int y20, .ref 15])) rfl ?_
          obtain ⟨y23, e22, H⟩ := Option.bind_eq_some_iff.mp H
          refine Ev.call rfl rfl rfl (p_argsV (by decide) xO.1 (Nat.le_of_ble_eq_true rfl)) rfl (Nat.le_of_ble_eq_true rfl) ((spX3_take xO y20 y14 x4 e22).mono (fun r h24 q25 => ?_))
          obtain ⟨rfl, q25_O, q25_f⟩ := q25
          have i26 : isT h24 7 T := isT.fr q25_f (fr1 (by omega)) xT
          have H := Option.some.inj H
          subst H
          exact Ev.ret rfl rfl rfl ⟨rfl, q25_O, (fun k hk => by rw [q25_f k (by have := hk; simp at this ⊢; omega)])⟩
def fX3_takeFollower (n : Nat) (O : tO) (T : tT) (rank : Int32) : Option (tO) := ((fX3_nodeAt O rank).bind fun y2 => ((fX7_nextKid n T y2 0).bind fun y4 => (if y4 < 0 then lX3_takeFollower_29 n T n rank 0 O else ((fX3_take O y4 rank (-1)).bind fun y7 => some y7))))
theorem spX3_takeFollower {d n : Nat} {h : pH} {O : tO} {T : tT} (xO : isO h O) (xT : isT h 7 T) (rank : Int32) {res : tO} (H : fX3_takeFollower n O T rank = some res) : Ev (d + 3) mX3_takeFollower (h, 0, [(0, .ref 15), (1, .ref 7), (2, .int rank)], []) (fun r h1 => r = none ∧ isO h1 res ∧ fr [(15, 23)] h h1) := by
  unfold fX3_takeFollower at H
  refine Ev.go 3 (s' := (h, 3, [(0, .ref 15), (1, .ref 7), (2, .int rank)], [.int rank, .ref 15, .ref 7])) rfl ?_
  obtain ⟨y2, e1, H⟩ := Option.bind_eq_some_iff.mp H
  refine Ev.callE rfl rfl rfl (p_argsV (by decide) xO.1 (Nat.le_of_ble_eq_true rfl)) rfl (Nat.le_of_ble_eq_true rfl) (spX3_nodeAt xO rank e1) ?_
  refine Ev.go 1 (s' := (h, 7, [(0, .ref 15), (1, .ref 7), (2, .int rank)], [.int 0, .int y2, .ref 7])) rfl ?_
  obtain ⟨y4, e3, H⟩ := Option.bind_eq_some_iff.mp H
  refine Ev.callE rfl rfl rfl (p_argsV (by decide) xT.1 (Nat.le_of_ble_eq_true rfl)) rfl (Nat.le_of_ble_eq_true rfl) (spX7_nextKid xT y2 0 e3) ?_
  refine Ev.go 2 (s' := (h, 12, [(0, .ref 15), (1, .ref 7), (2, .int rank), (3, .int y4)], [.int y4])) rfl ?_
  refine Ev.if1 rfl (fun c5 => ?_) (fun c5 => ?_)
  · have c5 : y4 < 0 := c5
    rw [if_pos c5] at H
    refine Ev.go 4 (s' := (h, 29, [(0, .ref 15), (1, .ref 7), (2, .int rank), (3, .int y4), (4, .int rank), (5, .int 0)], [])) rfl ?_
    refine Ev.live rfl (lv' := [(0, .ref 15), (1, .ref 7), (4, .int rank), (5, .int 0)]) rfl ?_
    exact llX3_takeFollower_29 n h rank 0 O _ H xT xO
  · have c5 : ¬ (y4 < 0) := c5
    rw [if_neg c5] at H
    refine Ev.go 4 (s' := (h, 19, [(0, .ref 15), (1, .ref 7), (2, .int rank), (3, .int y4)], [.int ((-1)), .int rank, .int y4, .ref 15])) rfl ?_
    obtain ⟨y7, e6, H⟩ := Option.bind_eq_some_iff.mp H
    refine Ev.call rfl rfl rfl (p_argsV (by decide) xO.1 (Nat.le_of_ble_eq_true rfl)) rfl (Nat.le_of_ble_eq_true rfl) ((spX3_take xO y4 rank (-1) e6).mono (fun r h8 q9 => ?_))
    obtain ⟨rfl, q9_O, q9_f⟩ := q9
    have i10 : isT h8 7 T := isT.fr q9_f (fr1 (by omega)) xT
    have H := Option.some.inj H
    subst H
    exact Ev.ret rfl rfl rfl ⟨rfl, q9_O, (fun k hk => by rw [q9_f k (by have := hk; simp at this ⊢; omega)])⟩
def lX3_read_55 (n : Nat) (T : tT) : Nat → Int32 → tO → Option (tO)
  | 0, _, _ => none
  | m + 1, x2, O => (if x2 ≤ 0 then some O else (if x2 < 0 ∨ 24 ≤ x2.toNatClampNeg then none else (if (fX3_isRank O (O.2.2.1 x2.toNatClampNeg)) = 0 then lX3_read_55 n T m (x2 + (-1)) O else (if (O.2.2.1 x2.toNatClampNeg) < 0 ∨ 24 ≤ (O.2.2.1 x2.toNatClampNeg).toNatClampNeg then none else lX3_read_55 n T m (x2 + (-1)) (O.1, O.2.1, O.2.2.1, O.2.2.2.1, O.2.2.2.2.1, upd O.2.2.2.2.2.1 (O.2.2.1 x2.toNatClampNeg).toNatClampNeg ((O.2.2.2.2.2.1 (O.2.2.1 x2.toNatClampNeg).toNatClampNeg) + 1), upd O.2.2.2.2.2.2.1 (O.2.2.1 x2.toNatClampNeg).toNatClampNeg ((O.2.2.2.2.2.2.1 (O.2.2.1 x2.toNatClampNeg).toNatClampNeg) + ((O.2.2.2.2.2.2.1 x2.toNatClampNeg) + 1)), O.2.2.2.2.2.2.2)))))
theorem llX3_read_55 {d n : Nat} {T : tT} : ∀ (m : Nat) (h : pH) (x2 : Int32) (O : tO) (res : tO), lX3_read_55 n T m x2 O = some res → isT h 7 T → isO h O → Ev (d + 4) mX3_read (h, 55, [(0, .ref 15), (2, .int x2)], []) (fun r h1 => r = none ∧ isO h1 res ∧ fr [(15, 23)] h h1)
  | 0, h, x2, O, res, H, _, _ => by cases H
  | m + 1, h, x2, O, res, H, xT, xO => by
    have H : (if x2 ≤ 0 then some O else (if x2 < 0 ∨ 24 ≤ x2.toNatClampNeg then none else (if (fX3_isRank O (O.2.2.1 x2.toNatClampNeg)) = 0 then lX3_read_55 n T m (x2 + (-1)) O else (if (O.2.2.1 x2.toNatClampNeg) < 0 ∨ 24 ≤ (O.2.2.1 x2.toNatClampNeg).toNatClampNeg then none else lX3_read_55 n T m (x2 + (-1)) (O.1, O.2.1, O.2.2.1, O.2.2.2.1, O.2.2.2.2.1, upd O.2.2.2.2.2.1 (O.2.2.1 x2.toNatClampNeg).toNatClampNeg ((O.2.2.2.2.2.1 (O.2.2.1 x2.toNatClampNeg).toNatClampNeg) + 1), upd O.2.2.2.2.2.2.1 (O.2.2.1 x2.toNatClampNeg).toNatClampNeg ((O.2.2.2.2.2.2.1 (O.2.2.1 x2.toNatClampNeg).toNatClampNeg) + ((O.2.2.2.2.2.2.1 x2.toNatClampNeg) + 1)), O.2.2.2.2.2.2.2))))) = some res := H
    refine Ev.go 1 (s' := (h, 56, [(0, .ref 15), (2, .int x2)], [.int x2])) rfl ?_
    refine Ev.if1 rfl (fun c14 => ?_) (fun c14 => ?_)
    · have c14 : x2 ≤ 0 := c14
      rw [if_pos c14] at H
      have H := Option.some.inj H
      subst H
      exact Ev.ret rfl rfl rfl ⟨rfl, xO, (fun k _ => rfl)⟩
    · have c14 : ¬ (x2 ≤ 0) := c14
      rw [if_neg c14] at H
      refine Ev.go 1 (s' := (h, 60, [(0, .ref 15), (2, .int x2)], [.ref 15])) rfl ?_
      refine Ev.get rfl (by decide) xO.1 rfl ?_
      refine Ev.go 1 (s' := (h, 64, [(0, .ref 15), (2, .int x2)], [.int x2, .ref 18])) rfl ?_
      have v15 : vp_in x2 24 := fun q => by rw [if_pos q] at H; cases H
      rw [if_neg v15] at H
      refine Ev.iald rfl (by decide) xO.2.2.2.1 v15 ?_
      refine Ev.go 3 (s' := (h, 68, [(0, .ref 15), (2, .int x2), (3, .int (O.2.2.1 x2.toNatClampNeg))], [.int (O.2.2.1 x2.toNatClampNeg), .ref 15])) rfl ?_
      refine Ev.callE rfl rfl rfl (p_argsV (by decide) xO.1 (Nat.le_of_ble_eq_true rfl)) rfl (Nat.le_of_ble_eq_true rfl) (spX3_isRank xO (O.2.2.1 x2.toNatClampNeg)) ?_
      refine Ev.if1 rfl (fun c16 => ?_) (fun c16 => ?_)
      · have c16 : (fX3_isRank O (O.2.2.1 x2.toNatClampNeg)) = 0 := c16
        rw [if_pos c16] at H
        refine Ev.go 2 (s' := (h, 55, [(0, .ref 15), (2, .int (x2 + (-1))), (3, .int (O.2.2.1 x2.toNatClampNeg))], [])) rfl ?_
        refine Ev.live rfl (lv' := [(0, .ref 15), (2, .int (x2 + (-1)))]) rfl ?_
        exact llX3_read_55 m h (x2 + (-1)) O _ H xT xO
      · have c16 : ¬ ((fX3_isRank O (O.2.2.1 x2.toNatClampNeg)) = 0) := c16
        rw [if_neg c16] at H
        refine Ev.go 1 (s' := (h, 75, [(0, .ref 15), (2, .int x2), (3, .int (O.2.2.1 x2.toNatClampNeg))], [.ref 15])) rfl ?_
        refine Ev.get rfl (by decide) xO.1 rfl ?_
        refine Ev.go 2 (s' := (h, 80, [(0, .ref 15), (2, .int x2), (3, .int (O.2.2.1 x2.toNatClampNeg))], [.int (O.2.2.1 x2.toNatClampNeg), .ref 21, .int (O.2.2.1 x2.toNatClampNeg), .ref 21])) rfl ?_
        have v17 : vp_in (O.2.2.1 x2.toNatClampNeg) 24 := fun q => by rw [if_pos q] at H; cases H
        rw [if_neg v17] at H
        refine Ev.iald rfl (by decide) xO.2.2.2.2.2.2.1 v17 ?_
        refine Ev.go 2 (s' := (h, 83, [(0, .ref 15), (2, .int x2), (3, .int (O.2.2.1 x2.toNatClampNeg))], [.int ((O.2.2.2.2.2.1 (O.2.2.1 x2.toNatClampNeg).toNatClampNeg) + 1), .int (O.2.2.1 x2.toNatClampNeg), .ref 21])) rfl ?_
        refine Ev.iast rfl (by decide) xO.2.2.2.2.2.2.1 v17 ?_
        refine Ev.go 1 (s' := ((pu h 21 (eI 24 (upd O.2.2.2.2.2.1 (O.2.2.1 x2.toNatClampNeg).toNatClampNeg ((O.2.2.2.2.2.1 (O.2.2.1 x2.toNatClampNeg).toNatClampNeg) + 1)))), 85, [(0, .ref 15), (2, .int x2), (3, .int (O.2.2.1 x2.toNatClampNeg))], [.ref 15])) rfl ?_
        refine Ev.get rfl (by decide) (pu_n (by decide) xO.1) rfl ?_
        refine Ev.go 2 (s' := ((pu h 21 (eI 24 (upd O.2.2.2.2.2.1 (O.2.2.1 x2.toNatClampNeg).toNatClampNeg ((O.2.2.2.2.2.1 (O.2.2.1 x2.toNatClampNeg).toNatClampNeg) + 1)))), 90, [(0, .ref 15), (2, .int x2), (3, .int (O.2.2.1 x2.toNatClampNeg))], [.int (O.2.2.1 x2.toNatClampNeg), .ref 22, .int (O.2.2.1 x2.toNatClampNeg), .ref 22])) rfl ?_
        refine Ev.iald rfl (by decide) (pu_n (by decide) xO.2.2.2.2.2.2.2) v17 ?_
        refine Ev.go 1 (s' := ((pu h 21 (eI 24 (upd O.2.2.2.2.2.1 (O.2.2.1 x2.toNatClampNeg).toNatClampNeg ((O.2.2.2.2.2.1 (O.2.2.1 x2.toNatClampNeg).toNatClampNeg) + 1)))), 92, [(0, .ref 15), (2, .int x2), (3, .int (O.2.2.1 x2.toNatClampNeg))], [.ref 15, .int (O.2.2.2.2.2.2.1 (O.2.2.1 x2.toNatClampNeg).toNatClampNeg), .int (O.2.2.1 x2.toNatClampNeg), .ref 22])) rfl ?_
        refine Ev.get rfl (by decide) (pu_n (by decide) xO.1) rfl ?_
        refine Ev.go 1 (s' := ((pu h 21 (eI 24 (upd O.2.2.2.2.2.1 (O.2.2.1 x2.toNatClampNeg).toNatClampNeg ((O.2.2.2.2.2.1 (O.2.2.1 x2.toNatClampNeg).toNatClampNeg) + 1)))), 96, [(0, .ref 15), (2, .int x2), (3, .int (O.2.2.1 x2.toNatClampNeg))], [.int x2, .ref 22, .int (O.2.2.2.2.2.2.1 (O.2.2.1 x2.toNatClampNeg).toNatClampNeg), .int (O.2.2.1 x2.toNatClampNeg), .ref 22])) rfl ?_
        refine Ev.iald rfl (by decide) (pu_n (by decide) xO.2.2.2.2.2.2.2) v15 ?_
        refine Ev.go 3 (s' := ((pu h 21 (eI 24 (upd O.2.2.2.2.2.1 (O.2.2.1 x2.toNatClampNeg).toNatClampNeg ((O.2.2.2.2.2.1 (O.2.2.1 x2.toNatClampNeg).toNatClampNeg) + 1)))), 100, [(0, .ref 15), (2, .int x2), (3, .int (O.2.2.1 x2.toNatClampNeg))], [.int ((O.2.2.2.2.2.2.1 (O.2.2.1 x2.toNatClampNeg).toNatClampNeg) + ((O.2.2.2.2.2.2.1 x2.toNatClampNeg) + 1)), .int (O.2.2.1 x2.toNatClampNeg), .ref 22])) rfl ?_
        refine Ev.iast rfl (by decide) (pu_n (by decide) xO.2.2.2.2.2.2.2) v17 ?_
        refine Ev.go 2 (s' := ((pu (pu h 21 (eI 24 (upd O.2.2.2.2.2.1 (O.2.2.1 x2.toNatClampNeg).toNatClampNeg ((O.2.2.2.2.2.1 (O.2.2.1 x2.toNatClampNeg).toNatClampNeg) + 1)))) 22 (eI 24 (upd O.2.2.2.2.2.2.1 (O.2.2.1 x2.toNatClampNeg).toNatClampNeg ((O.2.2.2.2.2.2.1 (O.2.2.1 x2.toNatClampNeg).toNatClampNeg) + ((O.2.2.2.2.2.2.1 x2.toNatClampNeg) + 1))))), 55, [(0, .ref 15), (2, .int (x2 + (-1))), (3, .int (O.2.2.1 x2.toNatClampNeg))], [])) rfl ?_
        refine Ev.live rfl (lv' := [(0, .ref 15), (2, .int (x2 + (-1)))]) rfl ?_
        refine (llX3_read_55 m (pu (pu h 21 (eI 24 (upd O.2.2.2.2.2.1 (O.2.2.1 x2.toNatClampNeg).toNatClampNeg ((O.2.2.2.2.2.1 (O.2.2.1 x2.toNatClampNeg).toNatClampNeg) + 1)))) 22 (eI 24 (upd O.2.2.2.2.2.2.1 (O.2.2.1 x2.toNatClampNeg).toNatClampNeg ((O.2.2.2.2.2.2.1 (O.2.2.1 x2.toNatClampNeg).toNatClampNeg) + ((O.2.2.2.2.2.2.1 x2.toNatClampNeg) + 1))))) (x2 + (-1)) (O.1, O.2.1, O.2.2.1, O.2.2.2.1, O.2.2.2.2.1, upd O.2.2.2.2.2.1 (O.2.2.1 x2.toNatClampNeg).toNatClampNeg ((O.2.2.2.2.2.1 (O.2.2.1 x2.toNatClampNeg).toNatClampNeg) + 1), upd O.2.2.2.2.2.2.1 (O.2.2.1 x2.toNatClampNeg).toNatClampNeg ((O.2.2.2.2.2.2.1 (O.2.2.1 x2.toNatClampNeg).toNatClampNeg) + ((O.2.2.2.2.2.2.1 x2.toNatClampNeg) + 1)), O.2.2.2.2.2.2.2) _ H ⟨(pu_n (by decide) (pu_n (by decide) xT.1)), (pu_n (by decide) (pu_n (by decide) xT.2.1)), (pu_n (by decide) (pu_n (by decide) xT.2.2.1)), (pu_n (by decide) (pu_n (by decide) xT.2.2.2.1)), (by decide)⟩ ⟨(pu_n (by decide) (pu_n (by decide) xO.1)), (pu_n (by decide) (pu_n (by decide) xO.2.1)), (pu_n (by decide) (pu_n (by decide) xO.2.2.1)), (pu_n (by decide) (pu_n (by decide) xO.2.2.2.1)), (pu_n (by decide) (pu_n (by decide) xO.2.2.2.2.1)), (pu_n (by decide) (pu_n (by decide) xO.2.2.2.2.2.1)), (pu_n (by decide) pu_s), pu_s⟩).mono (fun r h9 q9 => ?_)
        obtain ⟨q9r, q9_0, q9f⟩ := q9
        exact ⟨q9r, q9_0, fun k hk => (q9f k hk).trans (by rw [pu_x (show k ≠ 22 from fun e => by have := hk; simp at this; omega)]; rw [pu_x (show k ≠ 21 from fun e => by have := hk; simp at this; omega)])⟩
def lX3_read_22 (n : Nat) (T : tT) : Nat → Int32 → tO → Option (tO)
  | 0, _, _ => none
  | m + 1, x2, O => (if O.2.2.2.2.2.2.2 ≤ x2 then lX3_read_55 n T n (O.2.2.2.2.2.2.2 - 1) O else (if 24 ≤ x2 then lX3_read_55 n T n (O.2.2.2.2.2.2.2 - 1) O else ((fX3_takeFollower n O T x2).bind fun y10 => lX3_read_22 n T m (x2 + 1) y10)))
theorem llX3_read_22 {d n : Nat} {T : tT} : ∀ (m : Nat) (h : pH) (x2 : Int32) (O : tO) (res : tO), lX3_read_22 n T m x2 O = some res → isT h 7 T → isO h O → Ev (d + 4) mX3_read (h, 22, [(0, .ref 15), (1, .ref 7), (2, .int x2)], []) (fun r h1 => r = none ∧ isO h1 res ∧ fr [(15, 23)] h h1)
  | 0, h, x2, O, res, H, _, _ => by cases H
  | m + 1, h, x2, O, res, H, xT, xO => by
    have H : (if O.2.2.2.2.2.2.2 ≤ x2 then lX3_read_55 n T n (O.2.2.2.2.2.2.2 - 1) O else (if 24 ≤ x2 then lX3_read_55 n T n (O.2.2.2.2.2.2.2 - 1) O else ((fX3_takeFollower n O T x2).bind fun y10 => lX3_read_22 n T m (x2 + 1) y10))) = some res := H
    refine Ev.go 2 (s' := (h, 24, [(0, .ref 15), (1, .ref 7), (2, .int x2)], [.ref 15, .int x2])) rfl ?_
    refine Ev.get rfl (by decide) xO.1 rfl ?_
    refine Ev.if2 rfl (fun c7 => ?_) (fun c7 => ?_)
    · have c7 : O.2.2.2.2.2.2.2 ≤ x2 := c7
      rw [if_pos c7] at H
      refine Ev.go 1 (s' := (h, 49, [(0, .ref 15), (1, .ref 7), (2, .int x2)], [.ref 15])) rfl ?_
      refine Ev.get rfl (by decide) xO.1 rfl ?_
      refine Ev.go 3 (s' := (h, 55, [(0, .ref 15), (1, .ref 7), (2, .int (O.2.2.2.2.2.2.2 - 1))], [])) rfl ?_
      refine Ev.live rfl (lv' := [(0, .ref 15), (2, .int (O.2.2.2.2.2.2.2 - 1))]) rfl ?_
      exact llX3_read_55 n h (O.2.2.2.2.2.2.2 - 1) O _ H xT xO
    · have c7 : ¬ (O.2.2.2.2.2.2.2 ≤ x2) := c7
      rw [if_neg c7] at H
      refine Ev.go 2 (s' := (h, 33, [(0, .ref 15), (1, .ref 7), (2, .int x2)], [.int 24, .int x2])) rfl ?_
      refine Ev.if2 rfl (fun c8 => ?_) (fun c8 => ?_)
      · have c8 : 24 ≤ x2 := c8
        rw [if_pos c8] at H
        refine Ev.go 1 (s' := (h, 49, [(0, .ref 15), (1, .ref 7), (2, .int x2)], [.ref 15])) rfl ?_
        refine Ev.get rfl (by decide) xO.1 rfl ?_
        refine Ev.go 3 (s' := (h, 55, [(0, .ref 15), (1, .ref 7), (2, .int (O.2.2.2.2.2.2.2 - 1))], [])) rfl ?_
        refine Ev.live rfl (lv' := [(0, .ref 15), (2, .int (O.2.2.2.2.2.2.2 - 1))]) rfl ?_
        exact llX3_read_55 n h (O.2.2.2.2.2.2.2 - 1) O _ H xT xO
      · have c8 : ¬ (24 ≤ x2) := c8
        rw [if_neg c8] at H
        refine Ev.go 3 (s' := (h, 39, [(0, .ref 15), (1, .ref 7), (2, .int x2)], [.int x2, .ref 7, .ref 15])) rfl ?_
        obtain ⟨y10, e9, H⟩ := Option.bind_eq_some_iff.mp H
        refine Ev.call rfl rfl rfl (p_argsV (by decide) xO.1 (Nat.le_of_ble_eq_true rfl)) rfl (Nat.le_of_ble_eq_true rfl) ((spX3_takeFollower xO xT x2 e9).mono (fun r h11 q12 => ?_))
        obtain ⟨rfl, q12_O, q12_f⟩ := q12
        have i13 : isT h11 7 T := isT.fr q12_f (fr1 (by omega)) xT
        refine Ev.go 2 (s' := (h11, 22, [(0, .ref 15), (1, .ref 7), (2, .int (x2 + 1))], [])) rfl ?_
        refine Ev.live rfl (lv' := [(0, .ref 15), (1, .ref 7), (2, .int (x2 + 1))]) rfl ?_
        refine (llX3_read_22 m h11 (x2 + 1) y10 _ H i13 q12_O).mono (fun r h9 q9 => ?_)
        obtain ⟨q9r, q9_0, q9f⟩ := q9
        exact ⟨q9r, q9_0, fun k hk => (q9f k hk).trans (by rw [q12_f k (by have := hk; simp at this ⊢; omega)])⟩
def fX3_read (n : Nat) (O : tO) (T : tT) : Option (tO) := (if (fX7_isThere T 0) = 0 then lX3_read_22 n T n 0 (O.1, O.2.1, O.2.2.1, O.2.2.2.1, O.2.2.2.2.1, O.2.2.2.2.2.1, O.2.2.2.2.2.2.1, 0) else ((fX3_take (O.1, O.2.1, O.2.2.1, O.2.2.2.1, O.2.2.2.2.1, O.2.2.2.2.2.1, O.2.2.2.2.2.2.1, 0) 0 (-1) (-1)).bind fun y3 => lX3_read_22 n T n 0 y3))
theorem spX3_read {d n : Nat} {h : pH} {O : tO} {T : tT} (xO : isO h O) (xT : isT h 7 T) {res : tO} (H : fX3_read n O T = some res) : Ev (d + 4) mX3_read (h, 0, [(0, .ref 15), (1, .ref 7)], []) (fun r h1 => r = none ∧ isO h1 res ∧ fr [(15, 23)] h h1) := by
  unfold fX3_read at H
  refine Ev.go 2 (s' := (h, 2, [(0, .ref 15), (1, .ref 7)], [.int 0, .ref 15])) rfl ?_
  refine Ev.put rfl rfl (by decide) xO.1 (Nat.le_of_ble_eq_true rfl) rfl rfl (fs' := [.ref 16, .ref 17, .ref 18, .ref 19, .ref 20, .ref 21, .ref 22, .int 0]) rfl ?_
  refine Ev.go 2 (s' := ((pu h 15 (eO 2 [.ref 16, .ref 17, .ref 18, .ref 19, .ref 20, .ref 21, .ref 22, .int 0])), 7, [(0, .ref 15), (1, .ref 7)], [.int 0, .ref 7])) rfl ?_
  refine Ev.callE rfl rfl rfl (p_argsV (by decide) (pu_n (by decide) xT.1) (Nat.le_of_ble_eq_true rfl)) rfl (Nat.le_of_ble_eq_true rfl) (spX7_isThere (h := (pu h 15 (eO 2 [.ref 16, .ref 17, .ref 18, .ref 19, .ref 20, .ref 21, .ref 22, .int 0]))) (T := T) ⟨(pu_n (by decide) xT.1), (pu_n (by decide) xT.2.1), (pu_n (by decide) xT.2.2.1), (pu_n (by decide) xT.2.2.2.1), (by decide)⟩ 0) ?_
  refine Ev.if1 rfl (fun c1 => ?_) (fun c1 => ?_)
  · have c1 : (fX7_isThere T 0) = 0 := c1
    rw [if_pos c1] at H
    refine Ev.go 2 (s' := ((pu h 15 (eO 2 [.ref 16, .ref 17, .ref 18, .ref 19, .ref 20, .ref 21, .ref 22, .int 0])), 22, [(0, .ref 15), (1, .ref 7), (2, .int 0)], [])) rfl ?_
    refine Ev.live rfl (lv' := [(0, .ref 15), (1, .ref 7), (2, .int 0)]) rfl ?_
    refine (llX3_read_22 n (pu h 15 (eO 2 [.ref 16, .ref 17, .ref 18, .ref 19, .ref 20, .ref 21, .ref 22, .int 0])) 0 (O.1, O.2.1, O.2.2.1, O.2.2.2.1, O.2.2.2.2.1, O.2.2.2.2.2.1, O.2.2.2.2.2.2.1, 0) _ H ⟨(pu_n (by decide) xT.1), (pu_n (by decide) xT.2.1), (pu_n (by decide) xT.2.2.1), (pu_n (by decide) xT.2.2.2.1), (by decide)⟩ ⟨pu_s, (pu_n (by decide) xO.2.1), (pu_n (by decide) xO.2.2.1), (pu_n (by decide) xO.2.2.2.1), (pu_n (by decide) xO.2.2.2.2.1), (pu_n (by decide) xO.2.2.2.2.2.1), (pu_n (by decide) xO.2.2.2.2.2.2.1), (pu_n (by decide) xO.2.2.2.2.2.2.2)⟩).mono (fun r h9 q9 => ?_)
    obtain ⟨q9r, q9_0, q9f⟩ := q9
    exact ⟨q9r, q9_0, fun k hk => (q9f k hk).trans (by rw [pu_x (show k ≠ 15 from fun e => by have := hk; simp at this; omega)])⟩
  · have c1 : ¬ ((fX7_isThere T 0) = 0) := c1
    rw [if_neg c1] at H
    refine Ev.go 4 (s' := ((pu h 15 (eO 2 [.ref 16, .ref 17, .ref 18, .ref 19, .ref 20, .ref 21, .ref 22, .int 0])), 17, [(0, .ref 15), (1, .ref 7)], [.int ((-1)), .int ((-1)), .int 0, .ref 15])) rfl ?_
    obtain ⟨y3, e2, H⟩ := Option.bind_eq_some_iff.mp H
    refine Ev.call rfl rfl rfl (p_argsV (by decide) pu_s (Nat.le_of_ble_eq_true rfl)) rfl (Nat.le_of_ble_eq_true rfl) ((spX3_take (h := (pu h 15 (eO 2 [.ref 16, .ref 17, .ref 18, .ref 19, .ref 20, .ref 21, .ref 22, .int 0]))) (O := (O.1, O.2.1, O.2.2.1, O.2.2.2.1, O.2.2.2.2.1, O.2.2.2.2.2.1, O.2.2.2.2.2.2.1, 0)) ⟨pu_s, (pu_n (by decide) xO.2.1), (pu_n (by decide) xO.2.2.1), (pu_n (by decide) xO.2.2.2.1), (pu_n (by decide) xO.2.2.2.2.1), (pu_n (by decide) xO.2.2.2.2.2.1), (pu_n (by decide) xO.2.2.2.2.2.2.1), (pu_n (by decide) xO.2.2.2.2.2.2.2)⟩ 0 (-1) (-1) e2).mono (fun r h4 q5 => ?_))
    obtain ⟨rfl, q5_O, q5_f⟩ := q5
    have i6 : isT h4 7 T := isT.fr q5_f (fr1 (by omega)) ⟨(pu_n (by decide) xT.1), (pu_n (by decide) xT.2.1), (pu_n (by decide) xT.2.2.1), (pu_n (by decide) xT.2.2.2.1), (by decide)⟩
    refine Ev.go 2 (s' := (h4, 22, [(0, .ref 15), (1, .ref 7), (2, .int 0)], [])) rfl ?_
    refine Ev.live rfl (lv' := [(0, .ref 15), (1, .ref 7), (2, .int 0)]) rfl ?_
    refine (llX3_read_22 n h4 0 y3 _ H i6 q5_O).mono (fun r h9 q9 => ?_)
    obtain ⟨q9r, q9_0, q9f⟩ := q9
    exact ⟨q9r, q9_0, fun k hk => (q9f k hk).trans (by rw [q5_f k (by have := hk; simp at this ⊢; omega)]; rw [pu_x (show k ≠ 15 from fun e => by have := hk; simp at this; omega)])⟩
def fX4_size (P : tP) : Int32 := P.2.2.2.2
theorem spX4_size {d : Nat} {h : pH} {P : tP} (xP : isP h P) : Ev d mX4_size (h, 0, [(0, .ref 23)], []) (fun r h1 => r = some (.int (fX4_size P)) ∧ h1 = h) := by
  refine Ev.go 1 (s' := (h, 1, [(0, .ref 23)], [.ref 23])) rfl ?_
  refine Ev.get rfl (by decide) xP.1 rfl ?_
  exact Ev.ret rfl rfl (p_retZ rfl) ⟨congrArg (fun z => some (Value.int z)) (by rw [fX4_size]), rfl⟩
def fX4_clear (P : tP) : Option (tP) := some (P.1, P.2.1, P.2.2.1, P.2.2.2.1, 0)
theorem spX4_clear {d : Nat} {h : pH} {P : tP} (xP : isP h P) {res : tP} (H : fX4_clear P = some res) : Ev d mX4_clear (h, 0, [(0, .ref 23)], []) (fun r h1 => r = none ∧ isP h1 res ∧ fr [(23, 28)] h h1) := by
  unfold fX4_clear at H
  refine Ev.go 2 (s' := (h, 2, [(0, .ref 23)], [.int 0, .ref 23])) rfl ?_
  refine Ev.put rfl rfl (by decide) xP.1 (Nat.le_of_ble_eq_true rfl) rfl rfl (fs' := [.ref 24, .ref 25, .ref 26, .ref 27, .int 0]) rfl ?_
  have H := Option.some.inj H
  subst H
  exact Ev.ret rfl rfl rfl ⟨rfl, ⟨pu_s, (pu_n (by decide) xP.2.1), (pu_n (by decide) xP.2.2.1), (pu_n (by decide) xP.2.2.2.1), (pu_n (by decide) xP.2.2.2.2)⟩, (fun k hk => by rw [pu_x (show k ≠ 23 from fun e => by have := hk; simp at this; omega)])⟩
def fX4_forgetFirst (P : tP) : Option (tP) := some (va_cpy P.1 P.1 1 0 7, va_cpy P.2.1 P.2.1 1 0 7, va_cpy P.2.2.1 P.2.2.1 1 0 7, va_cpy P.2.2.2.1 P.2.2.2.1 1 0 7, 7)
theorem spX4_forgetFirst {d : Nat} {h : pH} {P : tP} (xP : isP h P) {res : tP} (H : fX4_forgetFirst P = some res) : Ev (d + 1) mX4_forgetFirst (h, 0, [(0, .ref 23)], []) (fun r h1 => r = none ∧ isP h1 res ∧ fr [(23, 28)] h h1) := by
  unfold fX4_forgetFirst at H
  refine Ev.go 2 (s' := (h, 3, [(0, .ref 23)], [.int 7, .ref 23])) rfl ?_
  refine Ev.put rfl rfl (by decide) xP.1 (Nat.le_of_ble_eq_true rfl) rfl rfl (fs' := [.ref 24, .ref 25, .ref 26, .ref 27, .int 7]) rfl ?_
  refine Ev.go 1 (s' := ((pu h 23 (eO 3 [.ref 24, .ref 25, .ref 26, .ref 27, .int 7])), 7, [(0, .ref 23)], [.ref 23])) rfl ?_
  refine Ev.get rfl (by decide) pu_s rfl ?_
  refine Ev.go 2 (s' := ((pu h 23 (eO 3 [.ref 24, .ref 25, .ref 26, .ref 27, .int 7])), 12, [(0, .ref 23)], [.ref 23, .int 1, .ref 24])) rfl ?_
  refine Ev.get rfl (by decide) pu_s rfl ?_
  refine Ev.go 2 (s' := ((pu h 23 (eO 3 [.ref 24, .ref 25, .ref 26, .ref 27, .int 7])), 17, [(0, .ref 23)], [.ref 23, .int 0, .ref 24, .int 1, .ref 24])) rfl ?_
  refine Ev.get rfl (by decide) pu_s rfl ?_
  refine Ev.cpy rfl rfl (by decide) (by decide) (pu_n (by decide) xP.2.1) (pu_n (by decide) xP.2.1) (by decide) (by decide) (by decide) (by decide) (by decide) (Nat.le_of_ble_eq_true rfl) ?_
  refine Ev.go 1 (s' := ((pu (pu h 23 (eO 3 [.ref 24, .ref 25, .ref 26, .ref 27, .int 7])) 24 (eI 8 (va_cpy P.1 P.1 1 0 7))), 24, [(0, .ref 23)], [.ref 23])) rfl ?_
  refine Ev.get rfl (by decide) (pu_n (by decide) pu_s) rfl ?_
  refine Ev.go 2 (s' := ((pu (pu h 23 (eO 3 [.ref 24, .ref 25, .ref 26, .ref 27, .int 7])) 24 (eI 8 (va_cpy P.1 P.1 1 0 7))), 29, [(0, .ref 23)], [.ref 23, .int 1, .ref 25])) rfl ?_
  refine Ev.get rfl (by decide) (pu_n (by decide) pu_s) rfl ?_
  refine Ev.go 2 (s' := ((pu (pu h 23 (eO 3 [.ref 24, .ref 25, .ref 26, .ref 27, .int 7])) 24 (eI 8 (va_cpy P.1 P.1 1 0 7))), 34, [(0, .ref 23)], [.ref 23, .int 0, .ref 25, .int 1, .ref 25])) rfl ?_
  refine Ev.get rfl (by decide) (pu_n (by decide) pu_s) rfl ?_
  refine Ev.cpy rfl rfl (by decide) (by decide) (pu_n (by decide) (pu_n (by decide) xP.2.2.1)) (pu_n (by decide) (pu_n (by decide) xP.2.2.1)) (by decide) (by decide) (by decide) (by decide) (by decide) (Nat.le_of_ble_eq_true rfl) ?_
  refine Ev.go 1 (s' := ((pu (pu (pu h 23 (eO 3 [.ref 24, .ref 25, .ref 26, .ref 27, .int 7])) 24 (eI 8 (va_cpy P.1 P.1 1 0 7))) 25 (eI 8 (va_cpy P.2.1 P.2.1 1 0 7))), 41, [(0, .ref 23)], [.ref 23])) rfl ?_
  refine Ev.get rfl (by decide) (pu_n (by decide) (pu_n (by decide) pu_s)) rfl ?_
  refine Ev.go 2 (s' := ((pu (pu (pu h 23 (eO 3 [.ref 24, .ref 25, .ref 26, .ref 27, .int 7])) 24 (eI 8 (va_cpy P.1 P.1 1 0 7))) 25 (eI 8 (va_cpy P.2.1 P.2.1 1 0 7))), 46, [(0, .ref 23)], [.ref 23, .int 1, .ref 26])) rfl ?_
  refine Ev.get rfl (by decide) (pu_n (by decide) (pu_n (by decide) pu_s)) rfl ?_
  refine Ev.go 2 (s' := ((pu (pu (pu h 23 (eO 3 [.ref 24, .ref 25, .ref 26, .ref 27, .int 7])) 24 (eI 8 (va_cpy P.1 P.1 1 0 7))) 25 (eI 8 (va_cpy P.2.1 P.2.1 1 0 7))), 51, [(0, .ref 23)], [.ref 23, .int 0, .ref 26, .int 1, .ref 26])) rfl ?_
  refine Ev.get rfl (by decide) (pu_n (by decide) (pu_n (by decide) pu_s)) rfl ?_
  refine Ev.cpy rfl rfl (by decide) (by decide) (pu_n (by decide) (pu_n (by decide) (pu_n (by decide) xP.2.2.2.1))) (pu_n (by decide) (pu_n (by decide) (pu_n (by decide) xP.2.2.2.1))) (by decide) (by decide) (by decide) (by decide) (by decide) (Nat.le_of_ble_eq_true rfl) ?_
  refine Ev.go 1 (s' := ((pu (pu (pu (pu h 23 (eO 3 [.ref 24, .ref 25, .ref 26, .ref 27, .int 7])) 24 (eI 8 (va_cpy P.1 P.1 1 0 7))) 25 (eI 8 (va_cpy P.2.1 P.2.1 1 0 7))) 26 (eI 8 (va_cpy P.2.2.1 P.2.2.1 1 0 7))), 58, [(0, .ref 23)], [.ref 23])) rfl ?_
  refine Ev.get rfl (by decide) (pu_n (by decide) (pu_n (by decide) (pu_n (by decide) pu_s))) rfl ?_
  refine Ev.go 2 (s' := ((pu (pu (pu (pu h 23 (eO 3 [.ref 24, .ref 25, .ref 26, .ref 27, .int 7])) 24 (eI 8 (va_cpy P.1 P.1 1 0 7))) 25 (eI 8 (va_cpy P.2.1 P.2.1 1 0 7))) 26 (eI 8 (va_cpy P.2.2.1 P.2.2.1 1 0 7))), 63, [(0, .ref 23)], [.ref 23, .int 1, .ref 27])) rfl ?_
  refine Ev.get rfl (by decide) (pu_n (by decide) (pu_n (by decide) (pu_n (by decide) pu_s))) rfl ?_
  refine Ev.go 2 (s' := ((pu (pu (pu (pu h 23 (eO 3 [.ref 24, .ref 25, .ref 26, .ref 27, .int 7])) 24 (eI 8 (va_cpy P.1 P.1 1 0 7))) 25 (eI 8 (va_cpy P.2.1 P.2.1 1 0 7))) 26 (eI 8 (va_cpy P.2.2.1 P.2.2.1 1 0 7))), 68, [(0, .ref 23)], [.ref 23, .int 0, .ref 27, .int 1, .ref 27])) rfl ?_
  refine Ev.get rfl (by decide) (pu_n (by decide) (pu_n (by decide) (pu_n (by decide) pu_s))) rfl ?_
  refine Ev.cpy rfl rfl (by decide) (by decide) (pu_n (by decide) (pu_n (by decide) (pu_n (by decide) (pu_n (by decide) xP.2.2.2.2)))) (pu_n (by decide) (pu_n (by decide) (pu_n (by decide) (pu_n (by decide) xP.2.2.2.2)))) (by decide) (by decide) (by decide) (by decide) (by decide) (Nat.le_of_ble_eq_true rfl) ?_
  have H := Option.some.inj H
  subst H
  exact Ev.ret rfl rfl rfl ⟨rfl, ⟨(pu_n (by decide) (pu_n (by decide) (pu_n (by decide) (pu_n (by decide) pu_s)))), (pu_n (by decide) (pu_n (by decide) (pu_n (by decide) pu_s))), (pu_n (by decide) (pu_n (by decide) pu_s)), (pu_n (by decide) pu_s), pu_s⟩, (fun k hk => by rw [pu_x (show k ≠ 27 from fun e => by have := hk; simp at this; omega)]; rw [pu_x (show k ≠ 26 from fun e => by have := hk; simp at this; omega)]; rw [pu_x (show k ≠ 25 from fun e => by have := hk; simp at this; omega)]; rw [pu_x (show k ≠ 24 from fun e => by have := hk; simp at this; omega)]; rw [pu_x (show k ≠ 23 from fun e => by have := hk; simp at this; omega)])⟩
def fX4_record (P : tP) (T : tT) (toBeTagged : Int32) : Option (tP) := (if P.2.2.2.2 < 8 then (if P.2.2.2.2 < 0 ∨ 8 ≤ P.2.2.2.2.toNatClampNeg then none else some (upd P.1 P.2.2.2.2.toNatClampNeg (fX7_bits T), upd P.2.1 P.2.2.2.2.toNatClampNeg (fX7_came T), upd P.2.2.1 P.2.2.2.2.toNatClampNeg toBeTagged, upd P.2.2.2.1 P.2.2.2.2.toNatClampNeg (fX7_tagOf T toBeTagged), P.2.2.2.2 + 1)) else ((fX4_forgetFirst P).bind fun y4 => (if y4.2.2.2.2 < 0 ∨ 8 ≤ y4.2.2.2.2.toNatClampNeg then none else some (upd y4.1 y4.2.2.2.2.toNatClampNeg (fX7_bits T), upd y4.2.1 y4.2.2.2.2.toNatClampNeg (fX7_came T), upd y4.2.2.1 y4.2.2.2.2.toNatClampNeg toBeTagged, upd y4.2.2.2.1 y4.2.2.2.2.toNatClampNeg (fX7_tagOf T toBeTagged), y4.2.2.2.2 + 1))))
theorem spX4_record {d : Nat} {h : pH} {P : tP} {T : tT} (xP : isP h P) (xT : isT h 7 T) (toBeTagged : Int32) {res : tP} (H : fX4_record P T toBeTagged = some res) : Ev (d + 2) mX4_record (h, 0, [(0, .ref 23), (1, .ref 7), (2, .int toBeTagged)], []) (fun r h1 => r = none ∧ isP h1 res ∧ fr [(23, 28)] h h1) := by
  unfold fX4_record at H
  refine Ev.go 1 (s' := (h, 1, [(0, .ref 23), (1, .ref 7), (2, .int toBeTagged)], [.ref 23])) rfl ?_
  refine Ev.get rfl (by decide) xP.1 rfl ?_
  refine Ev.go 1 (s' := (h, 6, [(0, .ref 23), (1, .ref 7), (2, .int toBeTagged)], [.int 8, .int P.2.2.2.2])) rfl ?_
  refine Ev.if2 rfl (fun c1 => ?_) (fun c1 => ?_)
  · have c1 : P.2.2.2.2 < 8 := c1
    rw [if_pos c1] at H
    refine Ev.go 1 (s' := (h, 14, [(0, .ref 23), (1, .ref 7), (2, .int toBeTagged)], [.ref 23])) rfl ?_
    refine Ev.get rfl (by decide) xP.1 rfl ?_
    refine Ev.go 1 (s' := (h, 18, [(0, .ref 23), (1, .ref 7), (2, .int toBeTagged)], [.ref 23, .ref 24])) rfl ?_
    refine Ev.get rfl (by decide) xP.1 rfl ?_
    refine Ev.go 1 (s' := (h, 22, [(0, .ref 23), (1, .ref 7), (2, .int toBeTagged)], [.ref 7, .int P.2.2.2.2, .ref 24])) rfl ?_
    refine Ev.callE rfl rfl rfl (p_argsV (by decide) xT.1 (Nat.le_of_ble_eq_true rfl)) rfl (Nat.le_of_ble_eq_true rfl) (spX7_bits xT ) ?_
    have v2 : vp_in P.2.2.2.2 8 := fun q => by rw [if_pos q] at H; cases H
    rw [if_neg v2] at H
    refine Ev.iast rfl (by decide) xP.2.1 v2 ?_
    refine Ev.go 1 (s' := ((pu h 24 (eI 8 (upd P.1 P.2.2.2.2.toNatClampNeg (fX7_bits T)))), 27, [(0, .ref 23), (1, .ref 7), (2, .int toBeTagged)], [.ref 23])) rfl ?_
    refine Ev.get rfl (by decide) (pu_n (by decide) xP.1) rfl ?_
    refine Ev.go 1 (s' := ((pu h 24 (eI 8 (upd P.1 P.2.2.2.2.toNatClampNeg (fX7_bits T)))), 31, [(0, .ref 23), (1, .ref 7), (2, .int toBeTagged)], [.ref 23, .ref 25])) rfl ?_
    refine Ev.get rfl (by decide) (pu_n (by decide) xP.1) rfl ?_
    refine Ev.go 1 (s' := ((pu h 24 (eI 8 (upd P.1 P.2.2.2.2.toNatClampNeg (fX7_bits T)))), 35, [(0, .ref 23), (1, .ref 7), (2, .int toBeTagged)], [.ref 7, .int P.2.2.2.2, .ref 25])) rfl ?_
    refine Ev.callE rfl rfl rfl (p_argsV (by decide) (pu_n (by decide) xT.1) (Nat.le_of_ble_eq_true rfl)) rfl (Nat.le_of_ble_eq_true rfl) (spX7_came (h := (pu h 24 (eI 8 (upd P.1 P.2.2.2.2.toNatClampNeg (fX7_bits T))))) (T := T) ⟨(pu_n (by decide) xT.1), (pu_n (by decide) xT.2.1), (pu_n (by decide) xT.2.2.1), (pu_n (by decide) xT.2.2.2.1), (by decide)⟩ ) ?_
    refine Ev.iast rfl (by decide) (pu_n (by decide) xP.2.2.1) v2 ?_
    refine Ev.go 1 (s' := ((pu (pu h 24 (eI 8 (upd P.1 P.2.2.2.2.toNatClampNeg (fX7_bits T)))) 25 (eI 8 (upd P.2.1 P.2.2.2.2.toNatClampNeg (fX7_came T)))), 40, [(0, .ref 23), (1, .ref 7), (2, .int toBeTagged)], [.ref 23])) rfl ?_
    refine Ev.get rfl (by decide) (pu_n (by decide) (pu_n (by decide) xP.1)) rfl ?_
    refine Ev.go 1 (s' := ((pu (pu h 24 (eI 8 (upd P.1 P.2.2.2.2.toNatClampNeg (fX7_bits T)))) 25 (eI 8 (upd P.2.1 P.2.2.2.2.toNatClampNeg (fX7_came T)))), 44, [(0, .ref 23), (1, .ref 7), (2, .int toBeTagged)], [.ref 23, .ref 26])) rfl ?_
    refine Ev.get rfl (by decide) (pu_n (by decide) (pu_n (by decide) xP.1)) rfl ?_
    refine Ev.go 1 (s' := ((pu (pu h 24 (eI 8 (upd P.1 P.2.2.2.2.toNatClampNeg (fX7_bits T)))) 25 (eI 8 (upd P.2.1 P.2.2.2.2.toNatClampNeg (fX7_came T)))), 48, [(0, .ref 23), (1, .ref 7), (2, .int toBeTagged)], [.int toBeTagged, .int P.2.2.2.2, .ref 26])) rfl ?_
    refine Ev.iast rfl (by decide) (pu_n (by decide) (pu_n (by decide) xP.2.2.2.1)) v2 ?_
    refine Ev.go 1 (s' := ((pu (pu (pu h 24 (eI 8 (upd P.1 P.2.2.2.2.toNatClampNeg (fX7_bits T)))) 25 (eI 8 (upd P.2.1 P.2.2.2.2.toNatClampNeg (fX7_came T)))) 26 (eI 8 (upd P.2.2.1 P.2.2.2.2.toNatClampNeg toBeTagged))), 50, [(0, .ref 23), (1, .ref 7), (2, .int toBeTagged)], [.ref 23])) rfl ?_
    refine Ev.get rfl (by decide) (pu_n (by decide) (pu_n (by decide) (pu_n (by decide) xP.1))) rfl ?_
    refine Ev.go 1 (s' := ((pu (pu (pu h 24 (eI 8 (upd P.1 P.2.2.2.2.toNatClampNeg (fX7_bits T)))) 25 (eI 8 (upd P.2.1 P.2.2.2.2.toNatClampNeg (fX7_came T)))) 26 (eI 8 (upd P.2.2.1 P.2.2.2.2.toNatClampNeg toBeTagged))), 54, [(0, .ref 23), (1, .ref 7), (2, .int toBeTagged)], [.ref 23, .ref 27])) rfl ?_
    refine Ev.get rfl (by decide) (pu_n (by decide) (pu_n (by decide) (pu_n (by decide) xP.1))) rfl ?_
    refine Ev.go 2 (s' := ((pu (pu (pu h 24 (eI 8 (upd P.1 P.2.2.2.2.toNatClampNeg (fX7_bits T)))) 25 (eI 8 (upd P.2.1 P.2.2.2.2.toNatClampNeg (fX7_came T)))) 26 (eI 8 (upd P.2.2.1 P.2.2.2.2.toNatClampNeg toBeTagged))), 59, [(0, .ref 23), (1, .ref 7), (2, .int toBeTagged)], [.int toBeTagged, .ref 7, .int P.2.2.2.2, .ref 27])) rfl ?_
    refine Ev.callE rfl rfl rfl (p_argsV (by decide) (pu_n (by decide) (pu_n (by decide) (pu_n (by decide) xT.1))) (Nat.le_of_ble_eq_true rfl)) rfl (Nat.le_of_ble_eq_true rfl) (spX7_tagOf (h := (pu (pu (pu h 24 (eI 8 (upd P.1 P.2.2.2.2.toNatClampNeg (fX7_bits T)))) 25 (eI 8 (upd P.2.1 P.2.2.2.2.toNatClampNeg (fX7_came T)))) 26 (eI 8 (upd P.2.2.1 P.2.2.2.2.toNatClampNeg toBeTagged)))) (T := T) ⟨(pu_n (by decide) (pu_n (by decide) (pu_n (by decide) xT.1))), (pu_n (by decide) (pu_n (by decide) (pu_n (by decide) xT.2.1))), (pu_n (by decide) (pu_n (by decide) (pu_n (by decide) xT.2.2.1))), (pu_n (by decide) (pu_n (by decide) (pu_n (by decide) xT.2.2.2.1))), (by decide)⟩ toBeTagged) ?_
    refine Ev.iast rfl (by decide) (pu_n (by decide) (pu_n (by decide) (pu_n (by decide) xP.2.2.2.2))) v2 ?_
    refine Ev.go 2 (s' := ((pu (pu (pu (pu h 24 (eI 8 (upd P.1 P.2.2.2.2.toNatClampNeg (fX7_bits T)))) 25 (eI 8 (upd P.2.1 P.2.2.2.2.toNatClampNeg (fX7_came T)))) 26 (eI 8 (upd P.2.2.1 P.2.2.2.2.toNatClampNeg toBeTagged))) 27 (eI 8 (upd P.2.2.2.1 P.2.2.2.2.toNatClampNeg (fX7_tagOf T toBeTagged)))), 65, [(0, .ref 23), (1, .ref 7), (2, .int toBeTagged)], [.ref 23, .ref 23])) rfl ?_
    refine Ev.get rfl (by decide) (pu_n (by decide) (pu_n (by decide) (pu_n (by decide) (pu_n (by decide) xP.1)))) rfl ?_
    refine Ev.go 2 (s' := ((pu (pu (pu (pu h 24 (eI 8 (upd P.1 P.2.2.2.2.toNatClampNeg (fX7_bits T)))) 25 (eI 8 (upd P.2.1 P.2.2.2.2.toNatClampNeg (fX7_came T)))) 26 (eI 8 (upd P.2.2.1 P.2.2.2.2.toNatClampNeg toBeTagged))) 27 (eI 8 (upd P.2.2.2.1 P.2.2.2.2.toNatClampNeg (fX7_tagOf T toBeTagged)))), 70, [(0, .ref 23), (1, .ref 7), (2, .int toBeTagged)], [.int (P.2.2.2.2 + 1), .ref 23])) rfl ?_
    refine Ev.put rfl rfl (by decide) (pu_n (by decide) (pu_n (by decide) (pu_n (by decide) (pu_n (by decide) xP.1)))) (Nat.le_of_ble_eq_true rfl) rfl rfl (fs' := [.ref 24, .ref 25, .ref 26, .ref 27, .int (P.2.2.2.2 + 1)]) rfl ?_
    have H := Option.some.inj H
    subst H
    exact Ev.ret rfl rfl rfl ⟨rfl, ⟨pu_s, (pu_n (by decide) (pu_n (by decide) (pu_n (by decide) (pu_n (by decide) pu_s)))), (pu_n (by decide) (pu_n (by decide) (pu_n (by decide) pu_s))), (pu_n (by decide) (pu_n (by decide) pu_s)), (pu_n (by decide) pu_s)⟩, (fun k hk => by rw [pu_x (show k ≠ 23 from fun e => by have := hk; simp at this; omega)]; rw [pu_x (show k ≠ 27 from fun e => by have := hk; simp at this; omega)]; rw [pu_x (show k ≠ 26 from fun e => by have := hk; simp at this; omega)]; rw [pu_x (show k ≠ 25 from fun e => by have := hk; simp at this; omega)]; rw [pu_x (show k ≠ 24 from fun e => by have := hk; simp at this; omega)])⟩
  · have c1 : ¬ (P.2.2.2.2 < 8) := c1
    rw [if_neg c1] at H
    refine Ev.go 1 (s' := (h, 10, [(0, .ref 23), (1, .ref 7), (2, .int toBeTagged)], [.ref 23])) rfl ?_
    obtain ⟨y4, e3, H⟩ := Option.bind_eq_some_iff.mp H
    refine Ev.call rfl rfl rfl (p_argsV (by decide) xP.1 (Nat.le_of_ble_eq_true rfl)) rfl (Nat.le_of_ble_eq_true rfl) ((spX4_forgetFirst xP  e3).mono (fun r h5 q6 => ?_))
    obtain ⟨rfl, q6_P, q6_f⟩ := q6
    have i7 : isT h5 7 T := isT.fr q6_f (fr1 (by omega)) xT
    refine Ev.go 1 (s' := (h5, 14, [(0, .ref 23), (1, .ref 7), (2, .int toBeTagged)], [.ref 23])) rfl ?_
    refine Ev.get rfl (by decide) q6_P.1 rfl ?_
    refine Ev.go 1 (s' := (h5, 18, [(0, .ref 23), (1, .ref 7), (2, .int toBeTagged)], [.ref 23, .ref 24])) rfl ?_
    refine Ev.get rfl (by decide) q6_P.1 rfl ?_
    refine Ev.go 1 (s' := (h5, 22, [(0, .ref 23), (1, .ref 7), (2, .int toBeTagged)], [.ref 7, .int y4.2.2.2.2, .ref 24])) rfl ?_
    refine Ev.callE rfl rfl rfl (p_argsV (by decide) i7.1 (Nat.le_of_ble_eq_true rfl)) rfl (Nat.le_of_ble_eq_true rfl) (spX7_bits i7 ) ?_
    have v8 : vp_in y4.2.2.2.2 8 := fun q => by rw [if_pos q] at H; cases H
    rw [if_neg v8] at H
    refine Ev.iast rfl (by decide) q6_P.2.1 v8 ?_
    refine Ev.go 1 (s' := ((pu h5 24 (eI 8 (upd y4.1 y4.2.2.2.2.toNatClampNeg (fX7_bits T)))), 27, [(0, .ref 23), (1, .ref 7), (2, .int toBeTagged)], [.ref 23])) rfl ?_
    refine Ev.get rfl (by decide) (pu_n (by decide) q6_P.1) rfl ?_
    refine Ev.go 1 (s' := ((pu h5 24 (eI 8 (upd y4.1 y4.2.2.2.2.toNatClampNeg (fX7_bits T)))), 31, [(0, .ref 23), (1, .ref 7), (2, .int toBeTagged)], [.ref 23, .ref 25])) rfl ?_
    refine Ev.get rfl (by decide) (pu_n (by decide) q6_P.1) rfl ?_
    refine Ev.go 1 (s' := ((pu h5 24 (eI 8 (upd y4.1 y4.2.2.2.2.toNatClampNeg (fX7_bits T)))), 35, [(0, .ref 23), (1, .ref 7), (2, .int toBeTagged)], [.ref 7, .int y4.2.2.2.2, .ref 25])) rfl ?_
    refine Ev.callE rfl rfl rfl (p_argsV (by decide) (pu_n (by decide) i7.1) (Nat.le_of_ble_eq_true rfl)) rfl (Nat.le_of_ble_eq_true rfl) (spX7_came (h := (pu h5 24 (eI 8 (upd y4.1 y4.2.2.2.2.toNatClampNeg (fX7_bits T))))) (T := T) ⟨(pu_n (by decide) i7.1), (pu_n (by decide) i7.2.1), (pu_n (by decide) i7.2.2.1), (pu_n (by decide) i7.2.2.2.1), (by decide)⟩ ) ?_
    refine Ev.iast rfl (by decide) (pu_n (by decide) q6_P.2.2.1) v8 ?_
    refine Ev.go 1 (s' := ((pu (pu h5 24 (eI 8 (upd y4.1 y4.2.2.2.2.toNatClampNeg (fX7_bits T)))) 25 (eI 8 (upd y4.2.1 y4.2.2.2.2.toNatClampNeg (fX7_came T)))), 40, [(0, .ref 23), (1, .ref 7), (2, .int toBeTagged)], [.ref 23])) rfl ?_
    refine Ev.get rfl (by decide) (pu_n (by decide) (pu_n (by decide) q6_P.1)) rfl ?_
    refine Ev.go 1 (s' := ((pu (pu h5 24 (eI 8 (upd y4.1 y4.2.2.2.2.toNatClampNeg (fX7_bits T)))) 25 (eI 8 (upd y4.2.1 y4.2.2.2.2.toNatClampNeg (fX7_came T)))), 44, [(0, .ref 23), (1, .ref 7), (2, .int toBeTagged)], [.ref 23, .ref 26])) rfl ?_
    refine Ev.get rfl (by decide) (pu_n (by decide) (pu_n (by decide) q6_P.1)) rfl ?_
    refine Ev.go 1 (s' := ((pu (pu h5 24 (eI 8 (upd y4.1 y4.2.2.2.2.toNatClampNeg (fX7_bits T)))) 25 (eI 8 (upd y4.2.1 y4.2.2.2.2.toNatClampNeg (fX7_came T)))), 48, [(0, .ref 23), (1, .ref 7), (2, .int toBeTagged)], [.int toBeTagged, .int y4.2.2.2.2, .ref 26])) rfl ?_
    refine Ev.iast rfl (by decide) (pu_n (by decide) (pu_n (by decide) q6_P.2.2.2.1)) v8 ?_
    refine Ev.go 1 (s' := ((pu (pu (pu h5 24 (eI 8 (upd y4.1 y4.2.2.2.2.toNatClampNeg (fX7_bits T)))) 25 (eI 8 (upd y4.2.1 y4.2.2.2.2.toNatClampNeg (fX7_came T)))) 26 (eI 8 (upd y4.2.2.1 y4.2.2.2.2.toNatClampNeg toBeTagged))), 50, [(0, .ref 23), (1, .ref 7), (2, .int toBeTagged)], [.ref 23])) rfl ?_
    refine Ev.get rfl (by decide) (pu_n (by decide) (pu_n (by decide) (pu_n (by decide) q6_P.1))) rfl ?_
    refine Ev.go 1 (s' := ((pu (pu (pu h5 24 (eI 8 (upd y4.1 y4.2.2.2.2.toNatClampNeg (fX7_bits T)))) 25 (eI 8 (upd y4.2.1 y4.2.2.2.2.toNatClampNeg (fX7_came T)))) 26 (eI 8 (upd y4.2.2.1 y4.2.2.2.2.toNatClampNeg toBeTagged))), 54, [(0, .ref 23), (1, .ref 7), (2, .int toBeTagged)], [.ref 23, .ref 27])) rfl ?_
    refine Ev.get rfl (by decide) (pu_n (by decide) (pu_n (by decide) (pu_n (by decide) q6_P.1))) rfl ?_
    refine Ev.go 2 (s' := ((pu (pu (pu h5 24 (eI 8 (upd y4.1 y4.2.2.2.2.toNatClampNeg (fX7_bits T)))) 25 (eI 8 (upd y4.2.1 y4.2.2.2.2.toNatClampNeg (fX7_came T)))) 26 (eI 8 (upd y4.2.2.1 y4.2.2.2.2.toNatClampNeg toBeTagged))), 59, [(0, .ref 23), (1, .ref 7), (2, .int toBeTagged)], [.int toBeTagged, .ref 7, .int y4.2.2.2.2, .ref 27])) rfl ?_
    refine Ev.callE rfl rfl rfl (p_argsV (by decide) (pu_n (by decide) (pu_n (by decide) (pu_n (by decide) i7.1))) (Nat.le_of_ble_eq_true rfl)) rfl (Nat.le_of_ble_eq_true rfl) (spX7_tagOf (h := (pu (pu (pu h5 24 (eI 8 (upd y4.1 y4.2.2.2.2.toNatClampNeg (fX7_bits T)))) 25 (eI 8 (upd y4.2.1 y4.2.2.2.2.toNatClampNeg (fX7_came T)))) 26 (eI 8 (upd y4.2.2.1 y4.2.2.2.2.toNatClampNeg toBeTagged)))) (T := T) ⟨(pu_n (by decide) (pu_n (by decide) (pu_n (by decide) i7.1))), (pu_n (by decide) (pu_n (by decide) (pu_n (by decide) i7.2.1))), (pu_n (by decide) (pu_n (by decide) (pu_n (by decide) i7.2.2.1))), (pu_n (by decide) (pu_n (by decide) (pu_n (by decide) i7.2.2.2.1))), (by decide)⟩ toBeTagged) ?_
    refine Ev.iast rfl (by decide) (pu_n (by decide) (pu_n (by decide) (pu_n (by decide) q6_P.2.2.2.2))) v8 ?_
    refine Ev.go 2 (s' := ((pu (pu (pu (pu h5 24 (eI 8 (upd y4.1 y4.2.2.2.2.toNatClampNeg (fX7_bits T)))) 25 (eI 8 (upd y4.2.1 y4.2.2.2.2.toNatClampNeg (fX7_came T)))) 26 (eI 8 (upd y4.2.2.1 y4.2.2.2.2.toNatClampNeg toBeTagged))) 27 (eI 8 (upd y4.2.2.2.1 y4.2.2.2.2.toNatClampNeg (fX7_tagOf T toBeTagged)))), 65, [(0, .ref 23), (1, .ref 7), (2, .int toBeTagged)], [.ref 23, .ref 23])) rfl ?_
    refine Ev.get rfl (by decide) (pu_n (by decide) (pu_n (by decide) (pu_n (by decide) (pu_n (by decide) q6_P.1)))) rfl ?_
    refine Ev.go 2 (s' := ((pu (pu (pu (pu h5 24 (eI 8 (upd y4.1 y4.2.2.2.2.toNatClampNeg (fX7_bits T)))) 25 (eI 8 (upd y4.2.1 y4.2.2.2.2.toNatClampNeg (fX7_came T)))) 26 (eI 8 (upd y4.2.2.1 y4.2.2.2.2.toNatClampNeg toBeTagged))) 27 (eI 8 (upd y4.2.2.2.1 y4.2.2.2.2.toNatClampNeg (fX7_tagOf T toBeTagged)))), 70, [(0, .ref 23), (1, .ref 7), (2, .int toBeTagged)], [.int (y4.2.2.2.2 + 1), .ref 23])) rfl ?_
    refine Ev.put rfl rfl (by decide) (pu_n (by decide) (pu_n (by decide) (pu_n (by decide) (pu_n (by decide) q6_P.1)))) (Nat.le_of_ble_eq_true rfl) rfl rfl (fs' := [.ref 24, .ref 25, .ref 26, .ref 27, .int (y4.2.2.2.2 + 1)]) rfl ?_
    have H := Option.some.inj H
    subst H
    exact Ev.ret rfl rfl rfl ⟨rfl, ⟨pu_s, (pu_n (by decide) (pu_n (by decide) (pu_n (by decide) (pu_n (by decide) pu_s)))), (pu_n (by decide) (pu_n (by decide) (pu_n (by decide) pu_s))), (pu_n (by decide) (pu_n (by decide) pu_s)), (pu_n (by decide) pu_s)⟩, (fun k hk => by rw [pu_x (show k ≠ 23 from fun e => by have := hk; simp at this; omega)]; rw [pu_x (show k ≠ 27 from fun e => by have := hk; simp at this; omega)]; rw [pu_x (show k ≠ 26 from fun e => by have := hk; simp at this; omega)]; rw [pu_x (show k ≠ 25 from fun e => by have := hk; simp at this; omega)]; rw [pu_x (show k ≠ 24 from fun e => by have := hk; simp at this; omega)]; rw [q6_f k (by have := hk; simp at this ⊢; omega)])⟩
def fX4_restore (P : tP) (T : tT) : Option (tP × tT) := (if P.2.2.2.2 ≤ 0 then some (P, T) else (if (P.2.2.2.2 - 1) < 0 ∨ 8 ≤ (P.2.2.2.2 - 1).toNatClampNeg then none else ((fX7_rewind T (P.1 (P.2.2.2.2 - 1).toNatClampNeg) (P.2.1 (P.2.2.2.2 - 1).toNatClampNeg)).bind fun y4 => (if ((P.1, P.2.1, P.2.2.1, P.2.2.2.1, P.2.2.2.2 - 1).2.2.2.2) < 0 ∨ 8 ≤ ((P.1, P.2.1, P.2.2.1, P.2.2.2.1, P.2.2.2.2 - 1).2.2.2.2).toNatClampNeg then none else ((fX7_setTag y4 (((P.1, P.2.1, P.2.2.1, P.2.2.2.1, P.2.2.2.2 - 1).2.2.1) ((P.1, P.2.1, P.2.2.1, P.2.2.2.1, P.2.2.2.2 - 1).2.2.2.2).toNatClampNeg) (((P.1, P.2.1, P.2.2.1, P.2.2.2.1, P.2.2.2.2 - 1).2.2.2.1) ((P.1, P.2.1, P.2.2.1, P.2.2.2.1, P.2.2.2.2 - 1).2.2.2.2).toNatClampNeg)).bind fun y10 => some ((P.1, P.2.1, P.2.2.1, P.2.2.2.1, P.2.2.2.2 - 1), y10))))))
theorem spX4_restore {d : Nat} {h : pH} {P : tP} {T : tT} (xP : isP h P) (xT : isT h 7 T) {res : tP × tT} (H : fX4_restore P T = some res) : Ev (d + 2) mX4_restore (h, 0, [(0, .ref 23), (1, .ref 7)], []) (fun r h1 => r = none ∧ isP h1 res.1 ∧ isT h1 7 res.2 ∧ fr [(23, 28), (7, 11)] h h1) := by
  unfold fX4_restore at H
  refine Ev.go 1 (s' := (h, 1, [(0, .ref 23), (1, .ref 7)], [.ref 23])) rfl ?_
  refine Ev.get rfl (by decide) xP.1 rfl ?_
  refine Ev.if1 rfl (fun c1 => ?_) (fun c1 => ?_)
  · have c1 : P.2.2.2.2 ≤ 0 := c1
    rw [if_pos c1] at H
    have H := Option.some.inj H
    subst H
    exact Ev.ret rfl rfl rfl ⟨rfl, xP, xT, (fun k _ => rfl)⟩
  · have c1 : ¬ (P.2.2.2.2 ≤ 0) := c1
    rw [if_neg c1] at H
    refine Ev.go 2 (s' := (h, 9, [(0, .ref 23), (1, .ref 7)], [.ref 23, .ref 23])) rfl ?_
    refine Ev.get rfl (by decide) xP.1 rfl ?_
    refine Ev.go 2 (s' := (h, 14, [(0, .ref 23), (1, .ref 7)], [.int (P.2.2.2.2 - 1), .ref 23])) rfl ?_
    refine Ev.put rfl rfl (by decide) xP.1 (Nat.le_of_ble_eq_true rfl) rfl rfl (fs' := [.ref 24, .ref 25, .ref 26, .ref 27, .int (P.2.2.2.2 - 1)]) rfl ?_
    refine Ev.go 2 (s' := ((pu h 23 (eO 3 [.ref 24, .ref 25, .ref 26, .ref 27, .int (P.2.2.2.2 - 1)])), 19, [(0, .ref 23), (1, .ref 7)], [.ref 23, .ref 7])) rfl ?_
    refine Ev.get rfl (by decide) pu_s rfl ?_
    refine Ev.go 1 (s' := ((pu h 23 (eO 3 [.ref 24, .ref 25, .ref 26, .ref 27, .int (P.2.2.2.2 - 1)])), 23, [(0, .ref 23), (1, .ref 7)], [.ref 23, .ref 24, .ref 7])) rfl ?_
    refine Ev.get rfl (by decide) pu_s rfl ?_
    have v2 : vp_in (P.2.2.2.2 - 1) 8 := fun q => by rw [if_pos q] at H; cases H
    rw [if_neg v2] at H
    refine Ev.iald rfl (by decide) (pu_n (by decide) xP.2.1) v2 ?_
    refine Ev.go 1 (s' := ((pu h 23 (eO 3 [.ref 24, .ref 25, .ref 26, .ref 27, .int (P.2.2.2.2 - 1)])), 28, [(0, .ref 23), (1, .ref 7)], [.ref 23, .int (P.1 (P.2.2.2.2 - 1).toNatClampNeg), .ref 7])) rfl ?_
    refine Ev.get rfl (by decide) pu_s rfl ?_
    refine Ev.go 1 (s' := ((pu h 23 (eO 3 [.ref 24, .ref 25, .ref 26, .ref 27, .int (P.2.2.2.2 - 1)])), 32, [(0, .ref 23), (1, .ref 7)], [.ref 23, .ref 25, .int (P.1 (P.2.2.2.2 - 1).toNatClampNeg), .ref 7])) rfl ?_
    refine Ev.get rfl (by decide) pu_s rfl ?_
    refine Ev.iald rfl (by decide) (pu_n (by decide) xP.2.2.1) v2 ?_
    obtain ⟨y4, e3, H⟩ := Option.bind_eq_some_iff.mp H
    refine Ev.call rfl rfl rfl (p_argsV (by decide) (pu_n (by decide) xT.1) (Nat.le_of_ble_eq_true rfl)) rfl (Nat.le_of_ble_eq_true rfl) ((spX7_rewind (h := (pu h 23 (eO 3 [.ref 24, .ref 25, .ref 26, .ref 27, .int (P.2.2.2.2 - 1)]))) (T := T) ⟨(pu_n (by decide) xT.1), (pu_n (by decide) xT.2.1), (pu_n (by decide) xT.2.2.1), (pu_n (by decide) xT.2.2.2.1), (by decide)⟩ (P.1 (P.2.2.2.2 - 1).toNatClampNeg) (P.2.1 (P.2.2.2.2 - 1).toNatClampNeg) e3).mono (fun r h5 q6 => ?_))
    obtain ⟨rfl, q6_T, q6_f⟩ := q6
    have i7 : isP h5 (P.1, P.2.1, P.2.2.1, P.2.2.2.1, P.2.2.2.2 - 1) := isP.fr q6_f (fr1 (by omega)) ⟨pu_s, (pu_n (by decide) xP.2.1), (pu_n (by decide) xP.2.2.1), (pu_n (by decide) xP.2.2.2.1), (pu_n (by decide) xP.2.2.2.2)⟩
    refine Ev.go 2 (s' := (h5, 41, [(0, .ref 23), (1, .ref 7)], [.ref 23, .ref 7])) rfl ?_
    refine Ev.get rfl (by decide) i7.1 rfl ?_
    refine Ev.go 1 (s' := (h5, 45, [(0, .ref 23), (1, .ref 7)], [.ref 23, .ref 26, .ref 7])) rfl ?_
    refine Ev.get rfl (by decide) i7.1 rfl ?_
    have v8 : vp_in ((P.1, P.2.1, P.2.2.1, P.2.2.2.1, P.2.2.2.2 - 1).2.2.2.2) 8 := fun q => by rw [if_pos q] at H; cases H
    rw [if_neg v8] at H
    refine Ev.iald rfl (by decide) i7.2.2.2.1 v8 ?_
    refine Ev.go 1 (s' := (h5, 50, [(0, .ref 23), (1, .ref 7)], [.ref 23, .int (((P.1, P.2.1, P.2.2.1, P.2.2.2.1, P.2.2.2.2 - 1).2.2.1) ((P.1, P.2.1, P.2.2.1, P.2.2.2.1, P.2.2.2.2 - 1).2.2.2.2).toNatClampNeg), .ref 7])) rfl ?_
    refine Ev.get rfl (by decide) i7.1 rfl ?_
    refine Ev.go 1 (s' := (h5, 54, [(0, .ref 23), (1, .ref 7)], [.ref 23, .ref 27, .int (((P.1, P.2.1, P.2.2.1, P.2.2.2.1, P.2.2.2.2 - 1).2.2.1) ((P.1, P.2.1, P.2.2.1, P.2.2.2.1, P.2.2.2.2 - 1).2.2.2.2).toNatClampNeg), .ref 7])) rfl ?_
    refine Ev.get rfl (by decide) i7.1 rfl ?_
    refine Ev.iald rfl (by decide) i7.2.2.2.2 v8 ?_
    obtain ⟨y10, e9, H⟩ := Option.bind_eq_some_iff.mp H
    refine Ev.call rfl rfl rfl (p_argsV (by decide) q6_T.1 (Nat.le_of_ble_eq_true rfl)) rfl (Nat.le_of_ble_eq_true rfl) ((spX7_setTag q6_T (((P.1, P.2.1, P.2.2.1, P.2.2.2.1, P.2.2.2.2 - 1).2.2.1) ((P.1, P.2.1, P.2.2.1, P.2.2.2.1, P.2.2.2.2 - 1).2.2.2.2).toNatClampNeg) (((P.1, P.2.1, P.2.2.1, P.2.2.2.1, P.2.2.2.2 - 1).2.2.2.1) ((P.1, P.2.1, P.2.2.1, P.2.2.2.1, P.2.2.2.2 - 1).2.2.2.2).toNatClampNeg) e9).mono (fun r h11 q12 => ?_))
    obtain ⟨rfl, q12_T, q12_f⟩ := q12
    have i13 : isP h11 (P.1, P.2.1, P.2.2.1, P.2.2.2.1, P.2.2.2.2 - 1) := isP.fr q12_f (fr1 (by omega)) i7
    have H := Option.some.inj H
    subst H
    exact Ev.ret rfl rfl rfl ⟨rfl, i13, q12_T, (fun k hk => by rw [q12_f k (by have := hk; simp at this ⊢; omega)]; rw [q6_f k (by have := hk; simp at this ⊢; omega)]; rw [pu_x (show k ≠ 23 from fun e => by have := hk; simp at this; omega)])⟩
