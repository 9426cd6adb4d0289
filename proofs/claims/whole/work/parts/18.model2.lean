/-! the reference: texts, patterns -/
def fX10_write (M : tM) (letter : Int32) : Option (Int32 × tM) := (if ¬ (fX10_in letter 32 126) = 0 then (if ¬ (M.1 11) = 200 then (if (M.1 11) < 0 ∨ 200 ≤ (M.1 11).toNatClampNeg then none else some ((M.1 11) + 1, (va_up M.1 11 ((M.1 11) + 1), va_up M.2.1 10 (upd (M.2.1 10) (M.1 11).toNatClampNeg letter), M.2.2))) else some ((-3), M)) else some ((-1), M))
theorem spX10_write {d : Nat} {h : pH} {M : tM} (xM : isM h M) (letter : Int32) {res : Int32 × tM} (H : fX10_write M letter = some res) : Ev (d + 1) mX10_write (h, 0, [(0, .ref 73), (1, .int letter)], []) (fun r h1 => r = some (.int res.1) ∧ isM h1 res.2 ∧ fr [(73, 89)] h h1) := by
  unfold fX10_write at H
  refine Ev.go 3 (s' := (h, 5, [(0, .ref 73), (1, .int letter)], [.int 126, .int 32, .int letter])) rfl ?_
  refine Ev.callE rfl rfl rfl rfl rfl (Nat.le_of_ble_eq_true rfl) (spX10_in  letter 32 126) ?_
  refine Ev.if1 rfl (fun c1 => ?_) (fun c1 => ?_)
  · have c1 : ¬ (fX10_in letter 32 126) = 0 := c1
    rw [if_pos c1] at H
    refine Ev.go 1 (s' := (h, 14, [(0, .ref 73), (1, .int letter)], [.ref 73])) rfl ?_
    refine Ev.get rfl (by decide) xM.1 rfl ?_
    refine Ev.go 1 (s' := (h, 20, [(0, .ref 73), (1, .int letter)], [.int 200, .int (M.1 11)])) rfl ?_
    refine Ev.if2 rfl (fun c2 => ?_) (fun c2 => ?_)
    · have c2 : ¬ (M.1 11) = 200 := c2
      rw [if_pos c2] at H
      refine Ev.go 1 (s' := (h, 27, [(0, .ref 73), (1, .int letter)], [.ref 73])) rfl ?_
      refine Ev.get rfl (by decide) xM.1 rfl ?_
      refine Ev.go 1 (s' := (h, 31, [(0, .ref 73), (1, .int letter)], [.ref 73, .ref 79])) rfl ?_
      refine Ev.get rfl (by decide) xM.1 rfl ?_
      refine Ev.go 1 (s' := (h, 35, [(0, .ref 73), (1, .int letter)], [.int letter, .int (M.1 11), .ref 79])) rfl ?_
      have v3 : vp_in (M.1 11) 200 := fun q => by rw [if_pos q] at H; cases H
      rw [if_neg v3] at H
      refine Ev.iast rfl (by decide) xM.2.2.2.2.2.2.1 v3 ?_
      refine Ev.go 2 (s' := ((pu h 79 (eI 200 (upd (M.2.1 10) (M.1 11).toNatClampNeg letter))), 38, [(0, .ref 73), (1, .int letter)], [.ref 73, .ref 73])) rfl ?_
      refine Ev.get rfl (by decide) (pu_n (by decide) xM.1) rfl ?_
      refine Ev.go 2 (s' := ((pu h 79 (eI 200 (upd (M.2.1 10) (M.1 11).toNatClampNeg letter))), 43, [(0, .ref 73), (1, .int letter)], [.int ((M.1 11) + 1), .ref 73])) rfl ?_
      refine Ev.put rfl rfl (by decide) (pu_n (by decide) xM.1) (Nat.le_of_ble_eq_true rfl) rfl rfl (fs' := [.int (M.1 0), .int (M.1 1), .int (M.1 2), .ref 74, .ref 75, .ref 76, .ref 77, .int (M.1 7), .ref 78, .int (M.1 9), .ref 79, .int ((M.1 11) + 1), .int (M.1 12), .int (M.1 13), .ref 80, .int (M.1 15), .int (M.1 16), .ref 81, .ref 82, .ref 83, .int (M.1 20), .int (M.1 21), .ref 84, .ref 85, .ref 86, .ref 87, .ref 88]) rfl ?_
      refine Ev.go 1 (s' := ((pu (pu h 79 (eI 200 (upd (M.2.1 10) (M.1 11).toNatClampNeg letter))) 73 (eO 9 [.int (M.1 0), .int (M.1 1), .int (M.1 2), .ref 74, .ref 75, .ref 76, .ref 77, .int (M.1 7), .ref 78, .int (M.1 9), .ref 79, .int ((M.1 11) + 1), .int (M.1 12), .int (M.1 13), .ref 80, .int (M.1 15), .int (M.1 16), .ref 81, .ref 82, .ref 83, .int (M.1 20), .int (M.1 21), .ref 84, .ref 85, .ref 86, .ref 87, .ref 88])), 47, [(0, .ref 73), (1, .int letter)], [.ref 73])) rfl ?_
      refine Ev.get rfl (by decide) pu_s rfl ?_
      have H := Option.some.inj H
      subst H
      exact Ev.ret rfl rfl (p_retZ rfl) ⟨rfl, ⟨pu_s, (pu_n (by decide) (pu_n (by decide) xM.2.1)), (pu_n (by decide) (pu_n (by decide) xM.2.2.1)), (pu_n (by decide) (pu_n (by decide) xM.2.2.2.1)), (pu_n (by decide) (pu_n (by decide) xM.2.2.2.2.1)), (pu_n (by decide) (pu_n (by decide) xM.2.2.2.2.2.1)), (pu_n (by decide) pu_s), (pu_n (by decide) (pu_n (by decide) xM.2.2.2.2.2.2.2.1)), (pu_n (by decide) (pu_n (by decide) xM.2.2.2.2.2.2.2.2.1)), (pu_n (by decide) (pu_n (by decide) xM.2.2.2.2.2.2.2.2.2.1)), (pu_n (by decide) (pu_n (by decide) xM.2.2.2.2.2.2.2.2.2.2.1)), (pu_n (by decide) (pu_n (by decide) xM.2.2.2.2.2.2.2.2.2.2.2.1)), (pu_n (by decide) (pu_n (by decide) xM.2.2.2.2.2.2.2.2.2.2.2.2.1)), (pu_n (by decide) (pu_n (by decide) xM.2.2.2.2.2.2.2.2.2.2.2.2.2.1)), (pu_n (by decide) (pu_n (by decide) xM.2.2.2.2.2.2.2.2.2.2.2.2.2.2.1)), (pu_n (by decide) (pu_n (by decide) xM.2.2.2.2.2.2.2.2.2.2.2.2.2.2.2))⟩, (fun k hk => by rw [pu_x (show k ≠ 73 from fun e => by have := hk; simp at this; omega)]; rw [pu_x (show k ≠ 79 from fun e => by have := hk; simp at this; omega)])⟩
    · have c2 : ¬ (¬ (M.1 11) = 200) := c2
      rw [if_neg c2] at H
      refine Ev.go 1 (s' := (h, 25, [(0, .ref 73), (1, .int letter)], [.int ((-3))])) rfl ?_
      have H := Option.some.inj H
      subst H
      exact Ev.ret rfl rfl (p_retZ rfl) ⟨rfl, xM, (fun k _ => rfl)⟩
  · have c1 : ¬ (¬ (fX10_in letter 32 126) = 0) := c1
    rw [if_neg c1] at H
    refine Ev.go 1 (s' := (h, 12, [(0, .ref 73), (1, .int letter)], [.int ((-1))])) rfl ?_
    have H := Option.some.inj H
    subst H
    exact Ev.ret rfl rfl (p_retZ rfl) ⟨rfl, xM, (fun k _ => rfl)⟩
def fX10_wipe (M : tM) : Option (Int32 × tM) := some (M.1 11, (va_up M.1 11 0, M.2.1, M.2.2))
theorem spX10_wipe {d : Nat} {h : pH} {M : tM} (xM : isM h M) {res : Int32 × tM} (H : fX10_wipe M = some res) : Ev d mX10_wipe (h, 0, [(0, .ref 73)], []) (fun r h1 => r = some (.int res.1) ∧ isM h1 res.2 ∧ fr [(73, 89)] h h1) := by
  unfold fX10_wipe at H
  refine Ev.go 1 (s' := (h, 1, [(0, .ref 73)], [.ref 73])) rfl ?_
  refine Ev.get rfl (by decide) xM.1 rfl ?_
  refine Ev.go 3 (s' := (h, 7, [(0, .ref 73), (1, .int (M.1 11))], [.int 0, .ref 73])) rfl ?_
  refine Ev.put rfl rfl (by decide) xM.1 (Nat.le_of_ble_eq_true rfl) rfl rfl (fs' := [.int (M.1 0), .int (M.1 1), .int (M.1 2), .ref 74, .ref 75, .ref 76, .ref 77, .int (M.1 7), .ref 78, .int (M.1 9), .ref 79, .int 0, .int (M.1 12), .int (M.1 13), .ref 80, .int (M.1 15), .int (M.1 16), .ref 81, .ref 82, .ref 83, .int (M.1 20), .int (M.1 21), .ref 84, .ref 85, .ref 86, .ref 87, .ref 88]) rfl ?_
  refine Ev.go 1 (s' := ((pu h 73 (eO 9 [.int (M.1 0), .int (M.1 1), .int (M.1 2), .ref 74, .ref 75, .ref 76, .ref 77, .int (M.1 7), .ref 78, .int (M.1 9), .ref 79, .int 0, .int (M.1 12), .int (M.1 13), .ref 80, .int (M.1 15), .int (M.1 16), .ref 81, .ref 82, .ref 83, .int (M.1 20), .int (M.1 21), .ref 84, .ref 85, .ref 86, .ref 87, .ref 88])), 11, [(0, .ref 73), (1, .int (M.1 11))], [.int (M.1 11)])) rfl ?_
  have H := Option.some.inj H
  subst H
  exact Ev.ret rfl rfl (p_retZ rfl) ⟨rfl, ⟨pu_s, (pu_n (by decide) xM.2.1), (pu_n (by decide) xM.2.2.1), (pu_n (by decide) xM.2.2.2.1), (pu_n (by decide) xM.2.2.2.2.1), (pu_n (by decide) xM.2.2.2.2.2.1), (pu_n (by decide) xM.2.2.2.2.2.2.1), (pu_n (by decide) xM.2.2.2.2.2.2.2.1), (pu_n (by decide) xM.2.2.2.2.2.2.2.2.1), (pu_n (by decide) xM.2.2.2.2.2.2.2.2.2.1), (pu_n (by decide) xM.2.2.2.2.2.2.2.2.2.2.1), (pu_n (by decide) xM.2.2.2.2.2.2.2.2.2.2.2.1), (pu_n (by decide) xM.2.2.2.2.2.2.2.2.2.2.2.2.1), (pu_n (by decide) xM.2.2.2.2.2.2.2.2.2.2.2.2.2.1), (pu_n (by decide) xM.2.2.2.2.2.2.2.2.2.2.2.2.2.2.1), (pu_n (by decide) xM.2.2.2.2.2.2.2.2.2.2.2.2.2.2.2)⟩, (fun k hk => by rw [pu_x (show k ≠ 73 from fun e => by have := hk; simp at this; omega)])⟩
def fX10_here (M : tM) : Option (Int32) := (if (M.1 11) ≤ (M.1 12) then some 0 else (if (M.1 12) < 0 ∨ 200 ≤ (M.1 12).toNatClampNeg then none else some ((M.2.1 10) (M.1 12).toNatClampNeg)))
theorem spX10_here {d : Nat} {h : pH} {M : tM} (xM : isM h M) {res : Int32} (H : fX10_here M = some res) : Ev d mX10_here (h, 0, [(0, .ref 73)], []) (fun r h1 => r = some (.int res) ∧ h1 = h) := by
  unfold fX10_here at H
  refine Ev.go 1 (s' := (h, 1, [(0, .ref 73)], [.ref 73])) rfl ?_
  refine Ev.get rfl (by decide) xM.1 rfl ?_
  refine Ev.go 1 (s' := (h, 5, [(0, .ref 73)], [.ref 73, .int (M.1 12)])) rfl ?_
  refine Ev.get rfl (by decide) xM.1 rfl ?_
  refine Ev.if2 rfl (fun c1 => ?_) (fun c1 => ?_)
  · have c1 : (M.1 11) ≤ (M.1 12) := c1
    rw [if_pos c1] at H
    refine Ev.go 1 (s' := (h, 24, [(0, .ref 73)], [.int 0])) rfl ?_
    have H := Option.some.inj H
    subst H
    exact Ev.ret rfl rfl (p_retZ rfl) ⟨rfl, rfl⟩
  · have c1 : ¬ ((M.1 11) ≤ (M.1 12)) := c1
    rw [if_neg c1] at H
    refine Ev.go 1 (s' := (h, 12, [(0, .ref 73)], [.ref 73])) rfl ?_
    refine Ev.get rfl (by decide) xM.1 rfl ?_
    refine Ev.go 1 (s' := (h, 16, [(0, .ref 73)], [.ref 73, .ref 79])) rfl ?_
    refine Ev.get rfl (by decide) xM.1 rfl ?_
    have v2 : vp_in (M.1 12) 200 := fun q => by rw [if_pos q] at H; cases H
    rw [if_neg v2] at H
    refine Ev.iald rfl (by decide) xM.2.2.2.2.2.2.1 v2 ?_
    refine Ev.go 1 (s' := (h, 24, [(0, .ref 73)], [.int ((M.2.1 10) (M.1 12).toNatClampNeg)])) rfl ?_
    have H := Option.some.inj H
    subst H
    exact Ev.ret rfl rfl (p_retZ rfl) ⟨rfl, rfl⟩
def fX10_isFigure (M : tM) : Option (Int32) := ((fX10_here M).bind fun y2 => (if (fX10_in y2 48 57) &&& 1 = (fX10_in y2 48 57) then some (fX10_in y2 48 57) else none))
theorem spX10_isFigure {d : Nat} {h : pH} {M : tM} (xM : isM h M) {res : Int32} (H : fX10_isFigure M = some res) : Ev (d + 1) mX10_isFigure (h, 0, [(0, .ref 73)], []) (fun r h1 => r = some (.int res) ∧ h1 = h) := by
  unfold fX10_isFigure at H
  refine Ev.go 1 (s' := (h, 1, [(0, .ref 73)], [.ref 73])) rfl ?_
  obtain ⟨y2, e1, H⟩ := Option.bind_eq_some_iff.mp H
  refine Ev.callE rfl rfl rfl (p_argsV (by decide) xM.1 (Nat.le_of_ble_eq_true rfl)) rfl (Nat.le_of_ble_eq_true rfl) (spX10_here xM  e1) ?_
  refine Ev.go 2 (s' := (h, 8, [(0, .ref 73)], [.int 57, .int 48, .int y2])) rfl ?_
  refine Ev.callE rfl rfl rfl rfl rfl (Nat.le_of_ble_eq_true rfl) (spX10_in  y2 48 57) ?_
  have v3 : (fX10_in y2 48 57) &&& 1 = (fX10_in y2 48 57) := Classical.byContradiction fun q => by rw [if_neg q] at H; cases H
  rw [if_pos v3] at H
  have H := Option.some.inj H
  subst H
  exact Ev.ret rfl rfl (p_retZ (t := .boolean) (congrArg Value.int v3)) ⟨rfl, rfl⟩
def fX10_number (M : tM) (low : Int32) (high : Int32) (end_ : Int32) : Option (Int32 × tM) := ((fX10_isFigure M).bind fun y2 => (if ¬ y2 = 0 then ((fX10_here M).bind fun y5 => ((fX10_isFigure (va_up M.1 12 ((M.1 12) + 1), M.2.1, M.2.2)).bind fun y7 => (if y7 = 0 then ((fX10_here (va_up (va_up M.1 12 ((M.1 12) + 1)) 13 (y5 - 48), M.2.1, M.2.2)).bind fun y10 => (if ¬ y10 = end_ then some (0, (va_up (va_up M.1 12 ((M.1 12) + 1)) 13 (y5 - 48), M.2.1, M.2.2)) else (if ¬ (fX10_in (y5 - 48) low high) = 0 then some (1, (va_up (va_up M.1 12 (((M.1 12) + 1) + 1)) 13 (y5 - 48), M.2.1, M.2.2)) else some (0, (va_up (va_up M.1 12 ((M.1 12) + 1)) 13 (y5 - 48), M.2.1, M.2.2))))) else ((fX10_here (va_up M.1 12 ((M.1 12) + 1), M.2.1, M.2.2)).bind fun y14 => ((fX10_here (va_up (va_up M.1 12 (((M.1 12) + 1) + 1)) 13 (((10 * (y5 - 48)) + y14) - 48), M.2.1, M.2.2)).bind fun y16 => (if ¬ y16 = end_ then some (0, (va_up (va_up M.1 12 (((M.1 12) + 1) + 1)) 13 (((10 * (y5 - 48)) + y14) - 48), M.2.1, M.2.2)) else (if ¬ (fX10_in (((10 * (y5 - 48)) + y14) - 48) low high) = 0 then some (1, (va_up (va_up M.1 12 ((((M.1 12) + 1) + 1) + 1)) 13 (((10 * (y5 - 48)) + y14) - 48), M.2.1, M.2.2)) else some (0, (va_up (va_up M.1 12 (((M.1 12) + 1) + 1)) 13 (((10 * (y5 - 48)) + y14) - 48), M.2.1, M.2.2))))))))) else some (0, M)))
theorem spX10_number {d : Nat} {h : pH} {M : tM} (xM : isM h M) (low : Int32) (high : Int32) (end_ : Int32) {res : Int32 × tM} (H : fX10_number M low high end_ = some res) : Ev (d + 2) mX10_number (h, 0, [(0, .ref 73), (1, .int low), (2, .int high), (3, .int end_)], []) (fun r h1 => r = some (.int res.1) ∧ isM h1 res.2 ∧ fr [(73, 89)] h h1) := by
  unfold fX10_number at H
  refine Ev.go 1 (s' := (h, 1, [(0, .ref 73), (1, .int low), (2, .int high), (3, .int end_)], [.ref 73])) rfl ?_
  obtain ⟨y2, e1, H⟩ := Option.bind_eq_some_iff.mp H
  refine Ev.callE rfl rfl rfl (p_argsV (by decide) xM.1 (Nat.le_of_ble_eq_true rfl)) rfl (Nat.le_of_ble_eq_true rfl) (spX10_isFigure xM  e1) ?_
  refine Ev.if1 rfl (fun c3 => ?_) (fun c3 => ?_)
  · have c3 : ¬ y2 = 0 := c3
    rw [if_pos c3] at H
    refine Ev.go 1 (s' := (h, 10, [(0, .ref 73), (1, .int low), (2, .int high), (3, .int end_)], [.ref 73])) rfl ?_
    obtain ⟨y5, e4, H⟩ := Option.bind_eq_some_iff.mp H
    refine Ev.callE rfl rfl rfl (p_argsV (by decide) xM.1 (Nat.le_of_ble_eq_true rfl)) rfl (Nat.le_of_ble_eq_true rfl) (spX10_here xM  e4) ?_
    refine Ev.go 5 (s' := (h, 20, [(0, .ref 73), (1, .int low), (2, .int high), (3, .int end_), (4, .int (y5 - 48))], [.ref 73, .ref 73])) rfl ?_
    refine Ev.get rfl (by decide) xM.1 rfl ?_
    refine Ev.go 2 (s' := (h, 25, [(0, .ref 73), (1, .int low), (2, .int high), (3, .int end_), (4, .int (y5 - 48))], [.int ((M.1 12) + 1), .ref 73])) rfl ?_
    refine Ev.put rfl rfl (by decide) xM.1 (Nat.le_of_ble_eq_true rfl) rfl rfl (fs' := [.int (M.1 0), .int (M.1 1), .int (M.1 2), .ref 74, .ref 75, .ref 76, .ref 77, .int (M.1 7), .ref 78, .int (M.1 9), .ref 79, .int (M.1 11), .int ((M.1 12) + 1), .int (M.1 13), .ref 80, .int (M.1 15), .int (M.1 16), .ref 81, .ref 82, .ref 83, .int (M.1 20), .int (M.1 21), .ref 84, .ref 85, .ref 86, .ref 87, .ref 88]) rfl ?_
    refine Ev.go 1 (s' := ((pu h 73 (eO 9 [.int (M.1 0), .int (M.1 1), .int (M.1 2), .ref 74, .ref 75, .ref 76, .ref 77, .int (M.1 7), .ref 78, .int (M.1 9), .ref 79, .int (M.1 11), .int ((M.1 12) + 1), .int (M.1 13), .ref 80, .int (M.1 15), .int (M.1 16), .ref 81, .ref 82, .ref 83, .int (M.1 20), .int (M.1 21), .ref 84, .ref 85, .ref 86, .ref 87, .ref 88])), 29, [(0, .ref 73), (1, .int low), (2, .int high), (3, .int end_), (4, .int (y5 - 48))], [.ref 73])) rfl ?_
    obtain ⟨y7, e6, H⟩ := Option.bind_eq_some_iff.mp H
    refine Ev.callE rfl rfl rfl (p_argsV (by decide) pu_s (Nat.le_of_ble_eq_true rfl)) rfl (Nat.le_of_ble_eq_true rfl) (spX10_isFigure (h := (pu h 73 (eO 9 [.int (M.1 0), .int (M.1 1), .int (M.1 2), .ref 74, .ref 75, .ref 76, .ref 77, .int (M.1 7), .ref 78, .int (M.1 9), .ref 79, .int (M.1 11), .int ((M.1 12) + 1), .int (M.1 13), .ref 80, .int (M.1 15), .int (M.1 16), .ref 81, .ref 82, .ref 83, .int (M.1 20), .int (M.1 21), .ref 84, .ref 85, .ref 86, .ref 87, .ref 88]))) (M := (va_up M.1 12 ((M.1 12) + 1), M.2.1, M.2.2)) ⟨pu_s, (pu_n (by decide) xM.2.1), (pu_n (by decide) xM.2.2.1), (pu_n (by decide) xM.2.2.2.1), (pu_n (by decide) xM.2.2.2.2.1), (pu_n (by decide) xM.2.2.2.2.2.1), (pu_n (by decide) xM.2.2.2.2.2.2.1), (pu_n (by decide) xM.2.2.2.2.2.2.2.1), (pu_n (by decide) xM.2.2.2.2.2.2.2.2.1), (pu_n (by decide) xM.2.2.2.2.2.2.2.2.2.1), (pu_n (by decide) xM.2.2.2.2.2.2.2.2.2.2.1), (pu_n (by decide) xM.2.2.2.2.2.2.2.2.2.2.2.1), (pu_n (by decide) xM.2.2.2.2.2.2.2.2.2.2.2.2.1), (pu_n (by decide) xM.2.2.2.2.2.2.2.2.2.2.2.2.2.1), (pu_n (by decide) xM.2.2.2.2.2.2.2.2.2.2.2.2.2.2.1), (pu_n (by decide) xM.2.2.2.2.2.2.2.2.2.2.2.2.2.2.2)⟩  e6) ?_
    refine Ev.if1 rfl (fun c8 => ?_) (fun c8 => ?_)
    · have c8 : y7 = 0 := c8
      rw [if_pos c8] at H
      refine Ev.go 2 (s' := ((pu h 73 (eO 9 [.int (M.1 0), .int (M.1 1), .int (M.1 2), .ref 74, .ref 75, .ref 76, .ref 77, .int (M.1 7), .ref 78, .int (M.1 9), .ref 79, .int (M.1 11), .int ((M.1 12) + 1), .int (M.1 13), .ref 80, .int (M.1 15), .int (M.1 16), .ref 81, .ref 82, .ref 83, .int (M.1 20), .int (M.1 21), .ref 84, .ref 85, .ref 86, .ref 87, .ref 88])), 63, [(0, .ref 73), (1, .int low), (2, .int high), (3, .int end_), (4, .int (y5 - 48))], [.int (y5 - 48), .ref 73])) rfl ?_
      refine Ev.put rfl rfl (by decide) pu_s (Nat.le_of_ble_eq_true rfl) rfl rfl (fs' := [.int (M.1 0), .int (M.1 1), .int (M.1 2), .ref 74, .ref 75, .ref 76, .ref 77, .int (M.1 7), .ref 78, .int (M.1 9), .ref 79, .int (M.1 11), .int ((M.1 12) + 1), .int (y5 - 48), .ref 80, .int (M.1 15), .int (M.1 16), .ref 81, .ref 82, .ref 83, .int (M.1 20), .int (M.1 21), .ref 84, .ref 85, .ref 86, .ref 87, .ref 88]) rfl ?_
      refine Ev.go 1 (s' := ((pu (pu h 73 (eO 9 [.int (M.1 0), .int (M.1 1), .int (M.1 2), .ref 74, .ref 75, .ref 76, .ref 77, .int (M.1 7), .ref 78, .int (M.1 9), .ref 79, .int (M.1 11), .int ((M.1 12) + 1), .int (M.1 13), .ref 80, .int (M.1 15), .int (M.1 16), .ref 81, .ref 82, .ref 83, .int (M.1 20), .int (M.1 21), .ref 84, .ref 85, .ref 86, .ref 87, .ref 88])) 73 (eO 9 [.int (M.1 0), .int (M.1 1), .int (M.1 2), .ref 74, .ref 75, .ref 76, .ref 77, .int (M.1 7), .ref 78, .int (M.1 9), .ref 79, .int (M.1 11), .int ((M.1 12) + 1), .int (y5 - 48), .ref 80, .int (M.1 15), .int (M.1 16), .ref 81, .ref 82, .ref 83, .int (M.1 20), .int (M.1 21), .ref 84, .ref 85, .ref 86, .ref 87, .ref 88])), 67, [(0, .ref 73), (1, .int low), (2, .int high), (3, .int end_), (4, .int (y5 - 48))], [.ref 73])) rfl ?_
      obtain ⟨y10, e9, H⟩ := Option.bind_eq_some_iff.mp H
      refine Ev.callE rfl rfl rfl (p_argsV (by decide) pu_s (Nat.le_of_ble_eq_true rfl)) rfl (Nat.le_of_ble_eq_true rfl) (spX10_here (h := (pu (pu h 73 (eO 9 [.int (M.1 0), .int (M.1 1), .int (M.1 2), .ref 74, .ref 75, .ref 76, .ref 77, .int (M.1 7), .ref 78, .int (M.1 9), .ref 79, .int (M.1 11), .int ((M.1 12) + 1), .int (M.1 13), .ref 80, .int (M.1 15), .int (M.1 16), .ref 81, .ref 82, .ref 83, .int (M.1 20), .int (M.1 21), .ref 84, .ref 85, .ref 86, .ref 87, .ref 88])) 73 (eO 9 [.int (M.1 0), .int (M.1 1), .int (M.1 2), .ref 74, .ref 75, .ref 76, .ref 77, .int (M.1 7), .ref 78, .int (M.1 9), .ref 79, .int (M.1 11), .int ((M.1 12) + 1), .int (y5 - 48), .ref 80, .int (M.1 15), .int (M.1 16), .ref 81, .ref 82, .ref 83, .int (M.1 20), .int (M.1 21), .ref 84, .ref 85, .ref 86, .ref 87, .ref 88]))) (M := (va_up (va_up M.1 12 ((M.1 12) + 1)) 13 (y5 - 48), M.2.1, M.2.2)) ⟨pu_s, (pu_n (by decide) (pu_n (by decide) xM.2.1)), (pu_n (by decide) (pu_n (by decide) xM.2.2.1)), (pu_n (by decide) (pu_n (by decide) xM.2.2.2.1)), (pu_n (by decide) (pu_n (by decide) xM.2.2.2.2.1)), (pu_n (by decide) (pu_n (by decide) xM.2.2.2.2.2.1)), (pu_n (by decide) (pu_n (by decide) xM.2.2.2.2.2.2.1)), (pu_n (by decide) (pu_n (by decide) xM.2.2.2.2.2.2.2.1)), (pu_n (by decide) (pu_n (by decide) xM.2.2.2.2.2.2.2.2.1)), (pu_n (by decide) (pu_n (by decide) xM.2.2.2.2.2.2.2.2.2.1)), (pu_n (by decide) (pu_n (by decide) xM.2.2.2.2.2.2.2.2.2.2.1)), (pu_n (by decide) (pu_n (by decide) xM.2.2.2.2.2.2.2.2.2.2.2.1)), (pu_n (by decide) (pu_n (by decide) xM.2.2.2.2.2.2.2.2.2.2.2.2.1)), (pu_n (by decide) (pu_n (by decide) xM.2.2.2.2.2.2.2.2.2.2.2.2.2.1)), (pu_n (by decide) (pu_n (by decide) xM.2.2.2.2.2.2.2.2.2.2.2.2.2.2.1)), (pu_n (by decide) (pu_n (by decide) xM.2.2.2.2.2.2.2.2.2.2.2.2.2.2.2))⟩  e9) ?_
      refine Ev.go 1 (s' := ((pu (pu h 73 (eO 9 [.int (M.1 0), .int (M.1 1), .int (M.1 2), .ref 74, .ref 75, .ref 76, .ref 77, .int (M.1 7), .ref 78, .int (M.1 9), .ref 79, .int (M.1 11), .int ((M.1 12) + 1), .int (M.1 13), .ref 80, .int (M.1 15), .int (M.1 16), .ref 81, .ref 82, .ref 83, .int (M.1 20), .int (M.1 21), .ref 84, .ref 85, .ref 86, .ref 87, .ref 88])) 73 (eO 9 [.int (M.1 0), .int (M.1 1), .int (M.1 2), .ref 74, .ref 75, .ref 76, .ref 77, .int (M.1 7), .ref 78, .int (M.1 9), .ref 79, .int (M.1 11), .int ((M.1 12) + 1), .int (y5 - 48), .ref 80, .int (M.1 15), .int (M.1 16), .ref 81, .ref 82, .ref 83, .int (M.1 20), .int (M.1 21), .ref 84, .ref 85, .ref 86, .ref 87, .ref 88])), 71, [(0, .ref 73), (1, .int low), (2, .int high), (3, .int end_), (4, .int (y5 - 48))], [.int end_, .int y10])) rfl ?_
      refine Ev.if2 rfl (fun c11 => ?_) (fun c11 => ?_)
      · have c11 : ¬ y10 = end_ := c11
        rw [if_pos c11] at H
        refine Ev.go 1 (s' := ((pu (pu h 73 (eO 9 [.int (M.1 0), .int (M.1 1), .int (M.1 2), .ref 74, .ref 75, .ref 76, .ref 77, .int (M.1 7), .ref 78, .int (M.1 9), .ref 79, .int (M.1 11), .int ((M.1 12) + 1), .int (M.1 13), .ref 80, .int (M.1 15), .int (M.1 16), .ref 81, .ref 82, .ref 83, .int (M.1 20), .int (M.1 21), .ref 84, .ref 85, .ref 86, .ref 87, .ref 88])) 73 (eO 9 [.int (M.1 0), .int (M.1 1), .int (M.1 2), .ref 74, .ref 75, .ref 76, .ref 77, .int (M.1 7), .ref 78, .int (M.1 9), .ref 79, .int (M.1 11), .int ((M.1 12) + 1), .int (y5 - 48), .ref 80, .int (M.1 15), .int (M.1 16), .ref 81, .ref 82, .ref 83, .int (M.1 20), .int (M.1 21), .ref 84, .ref 85, .ref 86, .ref 87, .ref 88])), 85, [(0, .ref 73), (1, .int low), (2, .int high), (3, .int end_), (4, .int (y5 - 48))], [.int 0])) rfl ?_
        have H := Option.some.inj H
        subst H
        exact Ev.ret rfl rfl (p_retZ rfl) ⟨rfl, ⟨pu_s, (pu_n (by decide) (pu_n (by decide) xM.2.1)), (pu_n (by decide) (pu_n (by decide) xM.2.2.1)), (pu_n (by decide) (pu_n (by decide) xM.2.2.2.1)), (pu_n (by decide) (pu_n (by decide) xM.2.2.2.2.1)), (pu_n (by decide) (pu_n (by decide) xM.2.2.2.2.2.1)), (pu_n (by decide) (pu_n (by decide) xM.2.2.2.2.2.2.1)), (pu_n (by decide) (pu_n (by decide) xM.2.2.2.2.2.2.2.1)), (pu_n (by decide) (pu_n (by decide) xM.2.2.2.2.2.2.2.2.1)), (pu_n (by decide) (pu_n (by decide) xM.2.2.2.2.2.2.2.2.2.1)), (pu_n (by decide) (pu_n (by decide) xM.2.2.2.2.2.2.2.2.2.2.1)), (pu_n (by decide) (pu_n (by decide) xM.2.2.2.2.2.2.2.2.2.2.2.1)), (pu_n (by decide) (pu_n (by decide) xM.2.2.2.2.2.2.2.2.2.2.2.2.1)), (pu_n (by decide) (pu_n (by decide) xM.2.2.2.2.2.2.2.2.2.2.2.2.2.1)), (pu_n (by decide) (pu_n (by decide) xM.2.2.2.2.2.2.2.2.2.2.2.2.2.2.1)), (pu_n (by decide) (pu_n (by decide) xM.2.2.2.2.2.2.2.2.2.2.2.2.2.2.2))⟩, (fun k hk => by rw [pu_x (show k ≠ 73 from fun e => by have := hk; simp at this; omega)]; rw [pu_x (show k ≠ 73 from fun e => by have := hk; simp at this; omega)])⟩
      · have c11 : ¬ (¬ y10 = end_) := c11
        rw [if_neg c11] at H
        refine Ev.go 3 (s' := ((pu (pu h 73 (eO 9 [.int (M.1 0), .int (M.1 1), .int (M.1 2), .ref 74, .ref 75, .ref 76, .ref 77, .int (M.1 7), .ref 78, .int (M.1 9), .ref 79, .int (M.1 11), .int ((M.1 12) + 1), .int (M.1 13), .ref 80, .int (M.1 15), .int (M.1 16), .ref 81, .ref 82, .ref 83, .int (M.1 20), .int (M.1 21), .ref 84, .ref 85, .ref 86, .ref 87, .ref 88])) 73 (eO 9 [.int (M.1 0), .int (M.1 1), .int (M.1 2), .ref 74, .ref 75, .ref 76, .ref 77, .int (M.1 7), .ref 78, .int (M.1 9), .ref 79, .int (M.1 11), .int ((M.1 12) + 1), .int (y5 - 48), .ref 80, .int (M.1 15), .int (M.1 16), .ref 81, .ref 82, .ref 83, .int (M.1 20), .int (M.1 21), .ref 84, .ref 85, .ref 86, .ref 87, .ref 88])), 78, [(0, .ref 73), (1, .int low), (2, .int high), (3, .int end_), (4, .int (y5 - 48))], [.int high, .int low, .int (y5 - 48)])) rfl ?_
        refine Ev.callE rfl rfl rfl rfl rfl (Nat.le_of_ble_eq_true rfl) (spX10_in  (y5 - 48) low high) ?_
        refine Ev.if1 rfl (fun c12 => ?_) (fun c12 => ?_)
        · have c12 : ¬ (fX10_in (y5 - 48) low high) = 0 := c12
          rw [if_pos c12] at H
          refine Ev.go 2 (s' := ((pu (pu h 73 (eO 9 [.int (M.1 0), .int (M.1 1), .int (M.1 2), .ref 74, .ref 75, .ref 76, .ref 77, .int (M.1 7), .ref 78, .int (M.1 9), .ref 79, .int (M.1 11), .int ((M.1 12) + 1), .int (M.1 13), .ref 80, .int (M.1 15), .int (M.1 16), .ref 81, .ref 82, .ref 83, .int (M.1 20), .int (M.1 21), .ref 84, .ref 85, .ref 86, .ref 87, .ref 88])) 73 (eO 9 [.int (M.1 0), .int (M.1 1), .int (M.1 2), .ref 74, .ref 75, .ref 76, .ref 77, .int (M.1 7), .ref 78, .int (M.1 9), .ref 79, .int (M.1 11), .int ((M.1 12) + 1), .int (y5 - 48), .ref 80, .int (M.1 15), .int (M.1 16), .ref 81, .ref 82, .ref 83, .int (M.1 20), .int (M.1 21), .ref 84, .ref 85, .ref 86, .ref 87, .ref 88])), 88, [(0, .ref 73), (1, .int low), (2, .int high), (3, .int end_), (4, .int (y5 - 48))], [.ref 73, .ref 73])) rfl ?_
          refine Ev.get rfl (by decide) pu_s rfl ?_
          refine Ev.go 2 (s' := ((pu (pu h 73 (eO 9 [.int (M.1 0), .int (M.1 1), .int (M.1 2), .ref 74, .ref 75, .ref 76, .ref 77, .int (M.1 7), .ref 78, .int (M.1 9), .ref 79, .int (M.1 11), .int ((M.1 12) + 1), .int (M.1 13), .ref 80, .int (M.1 15), .int (M.1 16), .ref 81, .ref 82, .ref 83, .int (M.1 20), .int (M.1 21), .ref 84, .ref 85, .ref 86, .ref 87, .ref 88])) 73 (eO 9 [.int (M.1 0), .int (M.1 1), .int (M.1 2), .ref 74, .ref 75, .ref 76, .ref 77, .int (M.1 7), .ref 78, .int (M.1 9), .ref 79, .int (M.1 11), .int ((M.1 12) + 1), .int (y5 - 48), .ref 80, .int (M.1 15), .int (M.1 16), .ref 81, .ref 82, .ref 83, .int (M.1 20), .int (M.1 21), .ref 84, .ref 85, .ref 86, .ref 87, .ref 88])), 93, [(0, .ref 73), (1, .int low), (2, .int high), (3, .int end_), (4, .int (y5 - 48))], [.int (((M.1 12) + 1) + 1), .ref 73])) rfl ?_
          refine Ev.put rfl rfl (by decide) pu_s (Nat.le_of_ble_eq_true rfl) rfl rfl (fs' := [.int (M.1 0), .int (M.1 1), .int (M.1 2), .ref 74, .ref 75, .ref 76, .ref 77, .int (M.1 7), .ref 78, .int (M.1 9), .ref 79, .int (M.1 11), .int (((M.1 12) + 1) + 1), .int (y5 - 48), .ref 80, .int (M.1 15), .int (M.1 16), .ref 81, .ref 82, .ref 83, .int (M.1 20), .int (M.1 21), .ref 84, .ref 85, .ref 86, .ref 87, .ref 88]) rfl ?_
          refine Ev.go 1 (s' := ((pu (pu (pu h 73 (eO 9 [.int (M.1 0), .int (M.1 1), .int (M.1 2), .ref 74, .ref 75, .ref 76, .ref 77, .int (M.1 7), .ref 78, .int (M.1 9), .ref 79, .int (M.1 11), .int ((M.1 12) + 1), .int (M.1 13), .ref 80, .int (M.1 15), .int (M.1 16), .ref 81, .ref 82, .ref 83, .int (M.1 20), .int (M.1 21), .ref 84, .ref 85, .ref 86, .ref 87, .ref 88])) 73 (eO 9 [.int (M.1 0), .int (M.1 1), .int (M.1 2), .ref 74, .ref 75, .ref 76, .ref 77, .int (M.1 7), .ref 78, .int (M.1 9), .ref 79, .int (M.1 11), .int ((M.1 12) + 1), .int (y5 - 48), .ref 80, .int (M.1 15), .int (M.1 16), .ref 81, .ref 82, .ref 83, .int (M.1 20), .int (M.1 21), .ref 84, .ref 85, .ref 86, .ref 87, .ref 88])) 73 (eO 9 [.int (M.1 0), .int (M.1 1), .int (M.1 2), .ref 74, .ref 75, .ref 76, .ref 77, .int (M.1 7), .ref 78, .int (M.1 9), .ref 79, .int (M.1 11), .int (((M.1 12) + 1) + 1), .int (y5 - 48), .ref 80, .int (M.1 15), .int (M.1 16), .ref 81, .ref 82, .ref 83, .int (M.1 20), .int (M.1 21), .ref 84, .ref 85, .ref 86, .ref 87, .ref 88])), 97, [(0, .ref 73), (1, .int low), (2, .int high), (3, .int end_), (4, .int (y5 - 48))], [.int 1])) rfl ?_
          have H := Option.some.inj H
          subst H
          exact Ev.ret rfl rfl (p_retZ rfl) ⟨rfl, ⟨pu_s, (pu_n (by decide) (pu_n (by decide) (pu_n (by decide) xM.2.1))), (pu_n (by decide) (pu_n (by decide) (pu_n (by decide) xM.2.2.1))), (pu_n (by decide) (pu_n (by decide) (pu_n (by decide) xM.2.2.2.1))), (pu_n (by decide) (pu_n (by decide) (pu_n (by decide) xM.2.2.2.2.1))), (pu_n (by decide) (pu_n (by decide) (pu_n (by decide) xM.2.2.2.2.2.1))), (pu_n (by decide) (pu_n (by decide) (pu_n (by decide) xM.2.2.2.2.2.2.1))), (pu_n (by decide) (pu_n (by decide) (pu_n (by decide) xM.2.2.2.2.2.2.2.1))), (pu_n (by decide) (pu_n (by decide) (pu_n (by decide) xM.2.2.2.2.2.2.2.2.1))), (pu_n (by decide) (pu_n (by decide) (pu_n (by decide) xM.2.2.2.2.2.2.2.2.2.1))), (pu_n (by decide) (pu_n (by decide) (pu_n (by decide) xM.2.2.2.2.2.2.2.2.2.2.1))), (pu_n (by decide) (pu_n (by decide) (pu_n (by decide) xM.2.2.2.2.2.2.2.2.2.2.2.1))), (pu_n (by decide) (pu_n (by decide) (pu_n (by decide) xM.2.2.2.2.2.2.2.2.2.2.2.2.1))), (pu_n (by decide) (pu_n (by decide) (pu_n (by decide) xM.2.2.2.2.2.2.2.2.2.2.2.2.2.1))), (pu_n (by decide) (pu_n (by decide) (pu_n (by decide) xM.2.2.2.2.2.2.2.2.2.2.2.2.2.2.1))), (pu_n (by decide) (pu_n (by decide) (pu_n (by decide) xM.2.2.2.2.2.2.2.2.2.2.2.2.2.2.2)))⟩, (fun k hk => by rw [pu_x (show k ≠ 73 from fun e => by have := hk; simp at this; omega)]; rw [pu_x (show k ≠ 73 from fun e => by have := hk; simp at this; omega)]; rw [pu_x (show k ≠ 73 from fun e => by have := hk; simp at this; omega)])⟩
        · have c12 : ¬ (¬ (fX10_in (y5 - 48) low high) = 0) := c12
          rw [if_neg c12] at H
          refine Ev.go 1 (s' := ((pu (pu h 73 (eO 9 [.int (M.1 0), .int (M.1 1), .int (M.1 2), .ref 74, .ref 75, .ref 76, .ref 77, .int (M.1 7), .ref 78, .int (M.1 9), .ref 79, .int (M.1 11), .int ((M.1 12) + 1), .int (M.1 13), .ref 80, .int (M.1 15), .int (M.1 16), .ref 81, .ref 82, .ref 83, .int (M.1 20), .int (M.1 21), .ref 84, .ref 85, .ref 86, .ref 87, .ref 88])) 73 (eO 9 [.int (M.1 0), .int (M.1 1), .int (M.1 2), .ref 74, .ref 75, .ref 76, .ref 77, .int (M.1 7), .ref 78, .int (M.1 9), .ref 79, .int (M.1 11), .int ((M.1 12) + 1), .int (y5 - 48), .ref 80, .int (M.1 15), .int (M.1 16), .ref 81, .ref 82, .ref 83, .int (M.1 20), .int (M.1 21), .ref 84, .ref 85, .ref 86, .ref 87, .ref 88])), 85, [(0, .ref 73), (1, .int low), (2, .int high), (3, .int end_), (4, .int (y5 - 48))], [.int 0])) rfl ?_
          have H := Option.some.inj H
          subst H
          exact Ev.ret rfl rfl (p_retZ rfl) ⟨rfl, ⟨pu_s, (pu_n (by decide) (pu_n (by decide) xM.2.1)), (pu_n (by decide) (pu_n (by decide) xM.2.2.1)), (pu_n (by decide) (pu_n (by decide) xM.2.2.2.1)), (pu_n (by decide) (pu_n (by decide) xM.2.2.2.2.1)), (pu_n (by decide) (pu_n (by decide) xM.2.2.2.2.2.1)), (pu_n (by decide) (pu_n (by decide) xM.2.2.2.2.2.2.1)), (pu_n (by decide) (pu_n (by decide) xM.2.2.2.2.2.2.2.1)), (pu_n (by decide) (pu_n (by decide) xM.2.2.2.2.2.2.2.2.1)), (pu_n (by decide) (pu_n (by decide) xM.2.2.2.2.2.2.2.2.2.1)), (pu_n (by decide) (pu_n (by decide) xM.2.2.2.2.2.2.2.2.2.2.1)), (pu_n (by decide) (pu_n (by decide) xM.2.2.2.2.2.2.2.2.2.2.2.1)), (pu_n (by decide) (pu_n (by decide) xM.2.2.2.2.2.2.2.2.2.2.2.2.1)), (pu_n (by decide) (pu_n (by decide) xM.2.2.2.2.2.2.2.2.2.2.2.2.2.1)), (pu_n (by decide) (pu_n (by decide) xM.2.2.2.2.2.2.2.2.2.2.2.2.2.2.1)), (pu_n (by decide) (pu_n (by decide) xM.2.2.2.2.2.2.2.2.2.2.2.2.2.2.2))⟩, (fun k hk => by rw [pu_x (show k ≠ 73 from fun e => by have := hk; simp at this; omega)]; rw [pu_x (show k ≠ 73 from fun e => by have := hk; simp at this; omega)])⟩
    · have c8 : ¬ (y7 = 0) := c8
      rw [if_neg c8] at H
      refine Ev.go 4 (s' := ((pu h 73 (eO 9 [.int (M.1 0), .int (M.1 1), .int (M.1 2), .ref 74, .ref 75, .ref 76, .ref 77, .int (M.1 7), .ref 78, .int (M.1 9), .ref 79, .int (M.1 11), .int ((M.1 12) + 1), .int (M.1 13), .ref 80, .int (M.1 15), .int (M.1 16), .ref 81, .ref 82, .ref 83, .int (M.1 20), .int (M.1 21), .ref 84, .ref 85, .ref 86, .ref 87, .ref 88])), 41, [(0, .ref 73), (1, .int low), (2, .int high), (3, .int end_), (4, .int (y5 - 48))], [.ref 73, .int (10 * (y5 - 48))])) rfl ?_
      obtain ⟨y14, e13, H⟩ := Option.bind_eq_some_iff.mp H
      refine Ev.callE rfl rfl rfl (p_argsV (by decide) pu_s (Nat.le_of_ble_eq_true rfl)) rfl (Nat.le_of_ble_eq_true rfl) (spX10_here (h := (pu h 73 (eO 9 [.int (M.1 0), .int (M.1 1), .int (M.1 2), .ref 74, .ref 75, .ref 76, .ref 77, .int (M.1 7), .ref 78, .int (M.1 9), .ref 79, .int (M.1 11), .int ((M.1 12) + 1), .int (M.1 13), .ref 80, .int (M.1 15), .int (M.1 16), .ref 81, .ref 82, .ref 83, .int (M.1 20), .int (M.1 21), .ref 84, .ref 85, .ref 86, .ref 87, .ref 88]))) (M := (va_up M.1 12 ((M.1 12) + 1), M.2.1, M.2.2)) ⟨pu_s, (pu_n (by decide) xM.2.1), (pu_n (by decide) xM.2.2.1), (pu_n (by decide) xM.2.2.2.1), (pu_n (by decide) xM.2.2.2.2.1), (pu_n (by decide) xM.2.2.2.2.2.1), (pu_n (by decide) xM.2.2.2.2.2.2.1), (pu_n (by decide) xM.2.2.2.2.2.2.2.1), (pu_n (by decide) xM.2.2.2.2.2.2.2.2.1), (pu_n (by decide) xM.2.2.2.2.2.2.2.2.2.1), (pu_n (by decide) xM.2.2.2.2.2.2.2.2.2.2.1), (pu_n (by decide) xM.2.2.2.2.2.2.2.2.2.2.2.1), (pu_n (by decide) xM.2.2.2.2.2.2.2.2.2.2.2.2.1), (pu_n (by decide) xM.2.2.2.2.2.2.2.2.2.2.2.2.2.1), (pu_n (by decide) xM.2.2.2.2.2.2.2.2.2.2.2.2.2.2.1), (pu_n (by decide) xM.2.2.2.2.2.2.2.2.2.2.2.2.2.2.2)⟩  e13) ?_
      refine Ev.go 6 (s' := ((pu h 73 (eO 9 [.int (M.1 0), .int (M.1 1), .int (M.1 2), .ref 74, .ref 75, .ref 76, .ref 77, .int (M.1 7), .ref 78, .int (M.1 9), .ref 79, .int (M.1 11), .int ((M.1 12) + 1), .int (M.1 13), .ref 80, .int (M.1 15), .int (M.1 16), .ref 81, .ref 82, .ref 83, .int (M.1 20), .int (M.1 21), .ref 84, .ref 85, .ref 86, .ref 87, .ref 88])), 52, [(0, .ref 73), (1, .int low), (2, .int high), (3, .int end_), (4, .int (((10 * (y5 - 48)) + y14) - 48))], [.ref 73, .ref 73])) rfl ?_
      refine Ev.get rfl (by decide) pu_s rfl ?_
      refine Ev.go 2 (s' := ((pu h 73 (eO 9 [.int (M.1 0), .int (M.1 1), .int (M.1 2), .ref 74, .ref 75, .ref 76, .ref 77, .int (M.1 7), .ref 78, .int (M.1 9), .ref 79, .int (M.1 11), .int ((M.1 12) + 1), .int (M.1 13), .ref 80, .int (M.1 15), .int (M.1 16), .ref 81, .ref 82, .ref 83, .int (M.1 20), .int (M.1 21), .ref 84, .ref 85, .ref 86, .ref 87, .ref 88])), 57, [(0, .ref 73), (1, .int low), (2, .int high), (3, .int end_), (4, .int (((10 * (y5 - 48)) + y14) - 48))], [.int (((M.1 12) + 1) + 1), .ref 73])) rfl ?_
      refine Ev.put rfl rfl (by decide) pu_s (Nat.le_of_ble_eq_true rfl) rfl rfl (fs' := [.int (M.1 0), .int (M.1 1), .int (M.1 2), .ref 74, .ref 75, .ref 76, .ref 77, .int (M.1 7), .ref 78, .int (M.1 9), .ref 79, .int (M.1 11), .int (((M.1 12) + 1) + 1), .int (M.1 13), .ref 80, .int (M.1 15), .int (M.1 16), .ref 81, .ref 82, .ref 83, .int (M.1 20), .int (M.1 21), .ref 84, .ref 85, .ref 86, .ref 87, .ref 88]) rfl ?_
      refine Ev.go 2 (s' := ((pu (pu h 73 (eO 9 [.int (M.1 0), .int (M.1 1), .int (M.1 2), .ref 74, .ref 75, .ref 76, .ref 77, .int (M.1 7), .ref 78, .int (M.1 9), .ref 79, .int (M.1 11), .int ((M.1 12) + 1), .int (M.1 13), .ref 80, .int (M.1 15), .int (M.1 16), .ref 81, .ref 82, .ref 83, .int (M.1 20), .int (M.1 21), .ref 84, .ref 85, .ref 86, .ref 87, .ref 88])) 73 (eO 9 [.int (M.1 0), .int (M.1 1), .int (M.1 2), .ref 74, .ref 75, .ref 76, .ref 77, .int (M.1 7), .ref 78, .int (M.1 9), .ref 79, .int (M.1 11), .int (((M.1 12) + 1) + 1), .int (M.1 13), .ref 80, .int (M.1 15), .int (M.1 16), .ref 81, .ref 82, .ref 83, .int (M.1 20), .int (M.1 21), .ref 84, .ref 85, .ref 86, .ref 87, .ref 88])), 63, [(0, .ref 73), (1, .int low), (2, .int high), (3, .int end_), (4, .int (((10 * (y5 - 48)) + y14) - 48))], [.int (((10 * (y5 - 48)) + y14) - 48), .ref 73])) rfl ?_
      refine Ev.put rfl rfl (by decide) pu_s (Nat.le_of_ble_eq_true rfl) rfl rfl (fs' := [.int (M.1 0), .int (M.1 1), .int (M.1 2), .ref 74, .ref 75, .ref 76, .ref 77, .int (M.1 7), .ref 78, .int (M.1 9), .ref 79, .int (M.1 11), .int (((M.1 12) + 1) + 1), .int (((10 * (y5 - 48)) + y14) - 48), .ref 80, .int (M.1 15), .int (M.1 16), .ref 81, .ref 82, .ref 83, .int (M.1 20), .int (M.1 21), .ref 84, .ref 85, .ref 86, .ref 87, .ref 88]) rfl ?_
      refine Ev.go 1 (s' := ((pu (pu (pu h 73 (eO 9 [.int (M.1 0), .int (M.1 1), .int (M.1 2), .ref 74, .ref 75, .ref 76, .ref 77, .int (M.1 7), .ref 78, .int (M.1 9), .ref 79, .int (M.1 11), .int ((M.1 12) + 1), .int (M.1 13), .ref 80, .int (M.1 15), .int (M.1 16), .ref 81, .ref 82, .ref 83, .int (M.1 20), .int (M.1 21), .ref 84, .ref 85, .ref 86, .ref 87, .ref 88])) 73 (eO 9 [.int (M.1 0), .int (M.1 1), .int (M.1 2), .ref 74, .ref 75, .ref 76, .ref 77, .int (M.1 7), .ref 78, .int (M.1 9), .ref 79, .int (M.1 11), .int (((M.1 12) + 1) + 1), .int (M.1 13), .ref 80, .int (M.1 15), .int (M.1 16), .ref 81, .ref 82, .ref 83, .int (M.1 20), .int (M.1 21), .ref 84, .ref 85, .ref 86, .ref 87, .ref 88])) 73 (eO 9 [.int (M.1 0), .int (M.1 1), .int (M.1 2), .ref 74, .ref 75, .ref 76, .ref 77, .int (M.1 7), .ref 78, .int (M.1 9), .ref 79, .int (M.1 11), .int (((M.1 12) + 1) + 1), .int (((10 * (y5 - 48)) + y14) - 48), .ref 80, .int (M.1 15), .int (M.1 16), .ref 81, .ref 82, .ref 83, .int (M.1 20), .int (M.1 21), .ref 84, .ref 85, .ref 86, .ref 87, .ref 88])), 67, [(0, .ref 73), (1, .int low), (2, .int high), (3, .int end_), (4, .int (((10 * (y5 - 48)) + y14) - 48))], [.ref 73])) rfl ?_
      obtain ⟨y16, e15, H⟩ := Option.bind_eq_some_iff.mp H
      refine Ev.callE rfl rfl rfl (p_argsV (by decide) pu_s (Nat.le_of_ble_eq_true rfl)) rfl (Nat.le_of_ble_eq_true rfl) (spX10_here (h := (pu (pu (pu h 73 (eO 9 [.int (M.1 0), .int (M.1 1), .int (M.1 2), .ref 74, .ref 75, .ref 76, .ref 77, .int (M.1 7), .ref 78, .int (M.1 9), .ref 79, .int (M.1 11), .int ((M.1 12) + 1), .int (M.1 13), .ref 80, .int (M.1 15), .int (M.1 16), .ref 81, .ref 82, .ref 83, .int (M.1 20), .int (M.1 21), .ref 84, .ref 85, .ref 86, .ref 87, .ref 88])) 73 (eO 9 [.int (M.1 0), .int (M.1 1), .int (M.1 2), .ref 74, .ref 75, .ref 76, .ref 77, .int (M.1 7), .ref 78, .int (M.1 9), .ref 79, .int (M.1 11), .int (((M.1 12) + 1) + 1), .int (M.1 13), .ref 80, .int (M.1 15), .int (M.1 16), .ref 81, .ref 82, .ref 83, .int (M.1 20), .int (M.1 21), .ref 84, .ref 85, .ref 86, .ref 87, .ref 88])) 73 (eO 9 [.int (M.1 0), .int (M.1 1), .int (M.1 2), .ref 74, .ref 75, .ref 76, .ref 77, .int (M.1 7), .ref 78, .int (M.1 9), .ref 79, .int (M.1 11), .int (((M.1 12) + 1) + 1), .int (((10 * (y5 - 48)) + y14) - 48), .ref 80, .int (M.1 15), .int (M.1 16), .ref 81, .ref 82, .ref 83, .int (M.1 20), .int (M.1 21), .ref 84, .ref 85, .ref 86, .ref 87, .ref 88]))) (M := (va_up (va_up M.1 12 (((M.1 12) + 1) + 1)) 13 (((10 * (y5 - 48)) + y14) - 48), M.2.1, M.2.2)) ⟨pu_s, (pu_n (by decide) (pu_n (by decide) (pu_n (by decide) xM.2.1))), (pu_n (by decide) (pu_n (by decide) (pu_n (by decide) xM.2.2.1))), (pu_n (by decide) (pu_n (by decide) (pu_n (by decide) xM.2.2.2.1))), (pu_n (by decide) (pu_n (by decide) (pu_n (by decide) xM.2.2.2.2.1))), (pu_n (by decide) (pu_n (by decide) (pu_n (by decide) xM.2.2.2.2.2.1))), (pu_n (by decide) (pu_n (by decide) (pu_n (by decide) xM.2.2.2.2.2.2.1))), (pu_n (by decide) (pu_n (by decide) (pu_n (by decide) xM.2.2.2.2.2.2.2.1))), (pu_n (by decide) (pu_n (by decide) (pu_n (by decide) xM.2.2.2.2.2.2.2.2.1))), (pu_n (by decide) (pu_n (by decide) (pu_n (by decide) xM.2.2.2.2.2.2.2.2.2.1))), (pu_n (by decide) (pu_n (by decide) (pu_n (by decide) xM.2.2.2.2.2.2.2.2.2.2.1))), (pu_n (by decide) (pu_n (by decide) (pu_n (by decide) xM.2.2.2.2.2.2.2.2.2.2.2.1))), (pu_n (by decide) (pu_n (by decide) (pu_n (by decide) xM.2.2.2.2.2.2.2.2.2.2.2.2.1))), (pu_n (by decide) (pu_n (by decide) (pu_n (by decide) xM.2.2.2.2.2.2.2.2.2.2.2.2.2.1))), (pu_n (by decide) (pu_n (by decide) (pu_n (by decide) xM.2.2.2.2.2.2.2.2.2.2.2.2.2.2.1))), (pu_n (by decide) (pu_n (by decide) (pu_n (by decide) xM.2.2.2.2.2.2.2.2.2.2.2.2.2.2.2)))⟩  e15) ?_
      refine Ev.go 1 (s' := ((pu (pu (pu h 73 (eO 9 [.int (M.1 0), .int (M.1 1), .int (M.1 2), .ref 74, .ref 75, .ref 76, .ref 77, .int (M.1 7), .ref 78, .int (M.1 9), .ref 79, .int (M.1 11), .int ((M.1 12) + 1), .int (M.1 13), .ref 80, .int (M.1 15), .int (M.1 16), .ref 81, .ref 82, .ref 83, .int (M.1 20), .int (M.1 21), .ref 84, .ref 85, .ref 86, .ref 87, .ref 88])) 73 (eO 9 [.int (M.1 0), .int (M.1 1), .int (M.1 2), .ref 74, .ref 75, .ref 76, .ref 77, .int (M.1 7), .ref 78, .int (M.1 9), .ref 79, .int (M.1 11), .int (((M.1 12) + 1) + 1), .int (M.1 13), .ref 80, .int (M.1 15), .int (M.1 16), .ref 81, .ref 82, .ref 83, .int (M.1 20), .int (M.1 21), .ref 84, .ref 85, .ref 86, .ref 87, .ref 88])) 73 (eO 9 [.int (M.1 0), .int (M.1 1), .int (M.1 2), .ref 74, .ref 75, .ref 76, .ref 77, .int (M.1 7), .ref 78, .int (M.1 9), .ref 79, .int (M.1 11), .int (((M.1 12) + 1) + 1), .int (((10 * (y5 - 48)) + y14) - 48), .ref 80, .int (M.1 15), .int (M.1 16), .ref 81, .ref 82, .ref 83, .int (M.1 20), .int (M.1 21), .ref 84, .ref 85, .ref 86, .ref 87, .ref 88])), 71, [(0, .ref 73), (1, .int low), (2, .int high), (3, .int end_), (4, .int (((10 * (y5 - 48)) + y14) - 48))], [.int end_, .int y16])) rfl ?_
      refine Ev.if2 rfl (fun c17 => ?_) (fun c17 => ?_)
      · have c17 : ¬ y16 = end_ := c17
        rw [if_pos c17] at H
        refine Ev.go 1 (s' := ((pu (pu (pu h 73 (eO 9 [.int (M.1 0), .int (M.1 1), .int (M.1 2), .ref 74, .ref 75, .ref 76, .ref 77, .int (M.1 7), .ref 78, .int (M.1 9), .ref 79, .int (M.1 11), .int ((M.1 12) + 1), .int (M.1 13), .ref 80, .int (M.1 15), .int (M.1 16), .ref 81, .ref 82, .ref 83, .int (M.1 20), .int (M.1 21), .ref 84, .ref 85, .ref 86, .ref 87, .ref 88])) 73 (eO 9 [.int (M.1 0), .int (M.1 1), .int (M.1 2), .ref 74, .ref 75, .ref 76, .ref 77, .int (M.1 7), .ref 78, .int (M.1 9), .ref 79, .int (M.1 11), .int (((M.1 12) + 1) + 1), .int (M.1 13), .ref 80, .int (M.1 15), .int (M.1 16), .ref 81, .ref 82, .ref 83, .int (M.1 20), .int (M.1 21), .ref 84, .ref 85, .ref 86, .ref 87, .ref 88])) 73 (eO 9 [.int (M.1 0), .int (M.1 1), .int (M.1 2), .ref 74, .ref 75, .ref 76, .ref 77, .int (M.1 7), .ref 78, .int (M.1 9), .ref 79, .int (M.1 11), .int (((M.1 12) + 1) + 1), .int (((10 * (y5 - 48)) + y14) - 48), .ref 80, .int (M.1 15), .int (M.1 16), .ref 81, .ref 82, .ref 83, .int (M.1 20), .int (M.1 21), .ref 84, .ref 85, .ref 86, .ref 87, .ref 88])), 85, [(0, .ref 73), (1, .int low), (2, .int high), (3, .int end_), (4, .int (((10 * (y5 - 48)) + y14) - 48))], [.int 0])) rfl ?_
        have H := Option.some.inj H
        subst H
        exact Ev.ret rfl rfl (p_retZ rfl) ⟨rfl, ⟨pu_s, (pu_n (by decide) (pu_n (by decide) (pu_n (by decide) xM.2.1))), (pu_n (by decide) (pu_n (by decide) (pu_n (by decide) xM.2.2.1))), (pu_n (by decide) (pu_n (by decide) (pu_n (by decide) xM.2.2.2.1))), (pu_n (by decide) (pu_n (by decide) (pu_n (by decide) xM.2.2.2.2.1))), (pu_n (by decide) (pu_n (by decide) (pu_n (by decide) xM.2.2.2.2.2.1))), (pu_n (by decide) (pu_n (by decide) (pu_n (by decide) xM.2.2.2.2.2.2.1))), (pu_n (by decide) (pu_n (by decide) (pu_n (by decide) xM.2.2.2.2.2.2.2.1))), (pu_n (by decide) (pu_n (by decide) (pu_n (by decide) xM.2.2.2.2.2.2.2.2.1))), (pu_n (by decide) (pu_n (by decide) (pu_n (by decide) xM.2.2.2.2.2.2.2.2.2.1))), (pu_n (by decide) (pu_n (by decide) (pu_n (by decide) xM.2.2.2.2.2.2.2.2.2.2.1))), (pu_n (by decide) (pu_n (by decide) (pu_n (by decide) xM.2.2.2.2.2.2.2.2.2.2.2.1))), (pu_n (by decide) (pu_n (by decide) (pu_n (by decide) xM.2.2.2.2.2.2.2.2.2.2.2.2.1))), (pu_n (by decide) (pu_n (by decide) (pu_n (by decide) xM.2.2.2.2.2.2.2.2.2.2.2.2.2.1))), (pu_n (by decide) (pu_n (by decide) (pu_n (by decide) xM.2.2.2.2.2.2.2.2.2.2.2.2.2.2.1))), (pu_n (by decide) (pu_n (by decide) (pu_n (by decide) xM.2.2.2.2.2.2.2.2.2.2.2.2.2.2.2)))⟩, (fun k hk => by rw [pu_x (show k ≠ 73 from fun e => by have := hk; simp at this; omega)]; rw [pu_x (show k ≠ 73 from fun e => by have := hk; simp at this; omega)]; rw [pu_x (show k ≠ 73 from fun e => by have := hk; simp at this; omega)])⟩
      · have c17 : ¬ (¬ y16 = end_) := c17
        rw [if_neg c17] at H
        refine Ev.go 3 (s' := ((pu (pu (pu h 73 (eO 9 [.int (M.1 0), .int (M.1 1), .int (M.1 2), .ref 74, .ref 75, .ref 76, .ref 77, .int (M.1 7), .ref 78, .int (M.1 9), .ref 79, .int (M.1 11), .int ((M.1 12) + 1), .int (M.1 13), .ref 80, .int (M.1 15), .int (M.1 16), .ref 81, .ref 82, .ref 83, .int (M.1 20), .int (M.1 21), .ref 84, .ref 85, .ref 86, .ref 87, .ref 88])) 73 (eO 9 [.int (M.1 0), .int (M.1 1), .int (M.1 2), .ref 74, .ref 75, .ref 76, .ref 77, .int (M.1 7), .ref 78, .int (M.1 9), .ref 79, .int (M.1 11), .int (((M.1 12) + 1) + 1), .int (M.1 13), .ref 80, .int (M.1 15), .int (M.1 16), .ref 81, .ref 82, .ref 83, .int (M.1 20), .int (M.1 21), .ref 84, .ref 85, .ref 86, .ref 87, .ref 88])) 73 (eO 9 [.int (M.1 0), .int (M.1 1), .int (M.1 2), .ref 74, .ref 75, .ref 76, .ref 77, .int (M.1 7), .ref 78, .int (M.1 9), .ref 79, .int (M.1 11), .int (((M.1 12) + 1) + 1), .int (((10 * (y5 - 48)) + y14) - 48), .ref 80, .int (M.1 15), .int (M.1 16), .ref 81, .ref 82, .ref 83, .int (M.1 20), .int (M.1 21), .ref 84, .ref 85, .ref 86, .ref 87, .ref 88])), 78, [(0, .ref 73), (1, .int low), (2, .int high), (3, .int end_), (4, .int (((10 * (y5 - 48)) + y14) - 48))], [.int high, .int low, .int (((10 * (y5 - 48)) + y14) - 48)])) rfl ?_
        refine Ev.callE rfl rfl rfl rfl rfl (Nat.le_of_ble_eq_true rfl) (spX10_in  (((10 * (y5 - 48)) + y14) - 48) low high) ?_
        refine Ev.if1 rfl (fun c18 => ?_) (fun c18 => ?_)
        · have c18 : ¬ (fX10_in (((10 * (y5 - 48)) + y14) - 48) low high) = 0 := c18
          rw [if_pos c18] at H
          refine Ev.go 2 (s' := ((pu (pu (pu h 73 (eO 9 [.int (M.1 0), .int (M.1 1), .int (M.1 2), .ref 74, .ref 75, .ref 76, .ref 77, .int (M.1 7), .ref 78, .int (M.1 9), .ref 79, .int (M.1 11), .int ((M.1 12) + 1), .int (M.1 13), .ref 80, .int (M.1 15), .int (M.1 16), .ref 81, .ref 82, .ref 83, .int (M.1 20), .int (M.1 21), .ref 84, .ref 85, .ref 86, .ref 87, .ref 88])) 73 (eO 9 [.int (M.1 0), .int (M.1 1), .int (M.1 2), .ref 74, .ref 75, .ref 76, .ref 77, .int (M.1 7), .ref 78, .int (M.1 9), .ref 79, .int (M.1 11), .int (((M.1 12) + 1) + 1), .int (M.1 13), .ref 80, .int (M.1 15), .int (M.1 16), .ref 81, .ref 82, .ref 83, .int (M.1 20), .int (M.1 21), .ref 84, .ref 85, .ref 86, .ref 87, .ref 88])) 73 (eO 9 [.int (M.1 0), .int (M.1 1), .int (M.1 2), .ref 74, .ref 75, .ref 76, .ref 77, .int (M.1 7), .ref 78, .int (M.1 9), .ref 79, .int (M.1 11), .int (((M.1 12) + 1) + 1), .int (((10 * (y5 - 48)) + y14) - 48), .ref 80, .int (M.1 15), .int (M.1 16), .ref 81, .ref 82, .ref 83, .int (M.1 20), .int (M.1 21), .ref 84, .ref 85, .ref 86, .ref 87, .ref 88])), 88, [(0, .ref 73), (1, .int low), (2, .int high), (3, .int end_), (4, .int (((10 * (y5 - 48)) + y14) - 48))], [.ref 73, .ref 73])) rfl ?_
          refine Ev.get rfl (by decide) pu_s rfl ?_
          refine Ev.go 2 (s' := ((pu (pu (pu h 73 (eO 9 [.int (M.1 0), .int (M.1 1), .int (M.1 2), .ref 74, .ref 75, .ref 76, .ref 77, .int (M.1 7), .ref 78, .int (M.1 9), .ref 79, .int (M.1 11), .int ((M.1 12) + 1), .int (M.1 13), .ref 80, .int (M.1 15), .int (M.1 16), .ref 81, .ref 82, .ref 83, .int (M.1 20), .int (M.1 21), .ref 84, .ref 85, .ref 86, .ref 87, .ref 88])) 73 (eO 9 [.int (M.1 0), .int (M.1 1), .int (M.1 2), .ref 74, .ref 75, .ref 76, .ref 77, .int (M.1 7), .ref 78, .int (M.1 9), .ref 79, .int (M.1 11), .int (((M.1 12) + 1) + 1), .int (M.1 13), .ref 80, .int (M.1 15), .int (M.1 16), .ref 81, .ref 82, .ref 83, .int (M.1 20), .int (M.1 21), .ref 84, .ref 85, .ref 86, .ref 87, .ref 88])) 73 (eO 9 [.int (M.1 0), .int (M.1 1), .int (M.1 2), .ref 74, .ref 75, .ref 76, .ref 77, .int (M.1 7), .ref 78, .int (M.1 9), .ref 79, .int (M.1 11), .int (((M.1 12) + 1) + 1), .int (((10 * (y5 - 48)) + y14) - 48), .ref 80, .int (M.1 15), .int (M.1 16), .ref 81, .ref 82, .ref 83, .int (M.1 20), .int (M.1 21), .ref 84, .ref 85, .ref 86, .ref 87, .ref 88])), 93, [(0, .ref 73), (1, .int low), (2, .int high), (3, .int end_), (4, .int (((10 * (y5 - 48)) + y14) - 48))], [.int ((((M.1 12) + 1) + 1) + 1), .ref 73])) rfl ?_
          refine Ev.put rfl rfl (by decide) pu_s (Nat.le_of_ble_eq_true rfl) rfl rfl (fs' := [.int (M.1 0), .int (M.1 1), .int (M.1 2), .ref 74, .ref 75, .ref 76, .ref 77, .int (M.1 7), .ref 78, .int (M.1 9), .ref 79, .int (M.1 11), .int ((((M.1 12) + 1) + 1) + 1), .int (((10 * (y5 - 48)) + y14) - 48), .ref 80, .int (M.1 15), .int (M.1 16), .ref 81, .ref 82, .ref 83, .int (M.1 20), .int (M.1 21), .ref 84, .ref 85, .ref 86, .ref 87, .ref 88]) rfl ?_
          refine Ev.go 1 (s' := ((pu (pu (pu (pu h 73 (eO 9 [.int (M.1 0), .int (M.1 1), .int (M.1 2), .ref 74, .ref 75, .ref 76, .ref 77, .int (M.1 7), .ref 78, .int (M.1 9), .ref 79, .int (M.1 11), .int ((M.1 12) + 1), .int (M.1 13), .ref 80, .int (M.1 15), .int (M.1 16), .ref 81, .ref 82, .ref 83, .int (M.1 20), .int (M.1 21), .ref 84, .ref 85, .ref 86, .ref 87, .ref 88])) 73 (eO 9 [.int (M.1 0), .int (M.1 1), .int (M.1 2), .ref 74, .ref 75, .ref 76, .ref 77, .int (M.1 7), .ref 78, .int (M.1 9), .ref 79, .int (M.1 11), .int (((M.1 12) + 1) + 1), .int (M.1 13), .ref 80, .int (M.1 15), .int (M.1 16), .ref 81, .ref 82, .ref 83, .int (M.1 20), .int (M.1 21), .ref 84, .ref 85, .ref 86, .ref 87, .ref 88])) 73 (eO 9 [.int (M.1 0), .int (M.1 1), .int (M.1 2), .ref 74, .ref 75, .ref 76, .ref 77, .int (M.1 7), .ref 78, .int (M.1 9), .ref 79, .int (M.1 11), .int (((M.1 12) + 1) + 1), .int (((10 * (y5 - 48)) + y14) - 48), .ref 80, .int (M.1 15), .int (M.1 16), .ref 81, .ref 82, .ref 83, .int (M.1 20), .int (M.1 21), .ref 84, .ref 85, .ref 86, .ref 87, .ref 88])) 73 (eO 9 [.int (M.1 0), .int (M.1 1), .int (M.1 2), .ref 74, .ref 75, .ref 76, .ref 77, .int (M.1 7), .ref 78, .int (M.1 9), .ref 79, .int (M.1 11), .int ((((M.1 12) + 1) + 1) + 1), .int (((10 * (y5 - 48)) + y14) - 48), .ref 80, .int (M.1 15), .int (M.1 16), .ref 81, .ref 82, .ref 83, .int (M.1 20), .int (M.1 21), .ref 84, .ref 85, .ref 86, .ref 87, .ref 88])), 97, [(0, .ref 73), (1, .int low), (2, .int high), (3, .int end_), (4, .int (((10 * (y5 - 48)) + y14) - 48))], [.int 1])) rfl ?_
          have H := Option.some.inj H
          subst H
          exact Ev.ret rfl rfl (p_retZ rfl) ⟨rfl, ⟨pu_s, (pu_n (by decide) (pu_n (by decide) (pu_n (by decide) (pu_n (by decide) xM.2.1)))), (pu_n (by decide) (pu_n (by decide) (pu_n (by decide) (pu_n (by decide) xM.2.2.1)))), (pu_n (by decide) (pu_n (by decide) (pu_n (by decide) (pu_n (by decide) xM.2.2.2.1)))), (pu_n (by decide) (pu_n (by decide) (pu_n (by decide) (pu_n (by decide) xM.2.2.2.2.1)))), (pu_n (by decide) (pu_n (by decide) (pu_n (by decide) (pu_n (by decide) xM.2.2.2.2.2.1)))), (pu_n (by decide) (pu_n (by decide) (pu_n (by decide) (pu_n (by decide) xM.2.2.2.2.2.2.1)))), (pu_n (by decide) (pu_n (by decide) (pu_n (by decide) (pu_n (by decide) xM.2.2.2.2.2.2.2.1)))), (pu_n (by decide) (pu_n (by decide) (pu_n (by decide) (pu_n (by decide) xM.2.2.2.2.2.2.2.2.1)))), (pu_n (by decide) (pu_n (by decide) (pu_n (by decide) (pu_n (by decide) xM.2.2.2.2.2.2.2.2.2.1)))), (pu_n (by decide) (pu_n (by decide) (pu_n (by decide) (pu_n (by decide) xM.2.2.2.2.2.2.2.2.2.2.1)))), (pu_n (by decide) (pu_n (by decide) (pu_n (by decide) (pu_n (by decide) xM.2.2.2.2.2.2.2.2.2.2.2.1)))), (pu_n (by decide) (pu_n (by decide) (pu_n (by decide) (pu_n (by decide) xM.2.2.2.2.2.2.2.2.2.2.2.2.1)))), (pu_n (by decide) (pu_n (by decide) (pu_n (by decide) (pu_n (by decide) xM.2.2.2.2.2.2.2.2.2.2.2.2.2.1)))), (pu_n (by decide) (pu_n (by decide) (pu_n (by decide) (pu_n (by decide) xM.2.2.2.2.2.2.2.2.2.2.2.2.2.2.1)))), (pu_n (by decide) (pu_n (by decide) (pu_n (by decide) (pu_n (by decide) xM.2.2.2.2.2.2.2.2.2.2.2.2.2.2.2))))⟩, (fun k hk => by rw [pu_x (show k ≠ 73 from fun e => by have := hk; simp at this; omega)]; rw [pu_x (show k ≠ 73 from fun e => by have := hk; simp at this; omega)]; rw [pu_x (show k ≠ 73 from fun e => by have := hk; simp at this; omega)]; rw [pu_x (show k ≠ 73 from fun e => by have := hk; simp at this; omega)])⟩
        · have c18 : ¬ (¬ (fX10_in (((10 * (y5 - 48)) + y14) - 48) low high) = 0) := c18
          rw [if_neg c18] at H
          refine Ev.go 1 (s' := ((pu (pu (pu h 73 (eO 9 [.int (M.1 0), .int (M.1 1), .int (M.1 2), .ref 74, .ref 75, .ref 76, .ref 77, .int (M.1 7), .ref 78, .int (M.1 9), .ref 79, .int (M.1 11), .int ((M.1 12) + 1), .int (M.1 13), .ref 80, .int (M.1 15), .int (M.1 16), .ref 81, .ref 82, .ref 83, .int (M.1 20), .int (M.1 21), .ref 84, .ref 85, .ref 86, .ref 87, .ref 88])) 73 (eO 9 [.int (M.1 0), .int (M.1 1), .int (M.1 2), .ref 74, .ref 75, .ref 76, .ref 77, .int (M.1 7), .ref 78, .int (M.1 9), .ref 79, .int (M.1 11), .int (((M.1 12) + 1) + 1), .int (M.1 13), .ref 80, .int (M.1 15), .int (M.1 16), .ref 81, .ref 82, .ref 83, .int (M.1 20), .int (M.1 21), .ref 84, .ref 85, .ref 86, .ref 87, .ref 88])) 73 (eO 9 [.int (M.1 0), .int (M.1 1), .int (M.1 2), .ref 74, .ref 75, .ref 76, .ref 77, .int (M.1 7), .ref 78, .int (M.1 9), .ref 79, .int (M.1 11), .int (((M.1 12) + 1) + 1), .int (((10 * (y5 - 48)) + y14) - 48), .ref 80, .int (M.1 15), .int (M.1 16), .ref 81, .ref 82, .ref 83, .int (M.1 20), .int (M.1 21), .ref 84, .ref 85, .ref 86, .ref 87, .ref 88])), 85, [(0, .ref 73), (1, .int low), (2, .int high), (3, .int end_), (4, .int (((10 * (y5 - 48)) + y14) - 48))], [.int 0])) rfl ?_
          have H := Option.some.inj H
          subst H
          exact Ev.ret rfl rfl (p_retZ rfl) ⟨rfl, ⟨pu_s, (pu_n (by decide) (pu_n (by decide) (pu_n (by decide) xM.2.1))), (pu_n (by decide) (pu_n (by decide) (pu_n (by decide) xM.2.2.1))), (pu_n (by decide) (pu_n (by decide) (pu_n (by decide) xM.2.2.2.1))), (pu_n (by decide) (pu_n (by decide) (pu_n (by decide) xM.2.2.2.2.1))), (pu_n (by decide) (pu_n (by decide) (pu_n (by decide) xM.2.2.2.2.2.1))), (pu_n (by decide) (pu_n (by decide) (pu_n (by decide) xM.2.2.2.2.2.2.1))), (pu_n (by decide) (pu_n (by decide) (pu_n (by decide) xM.2.2.2.2.2.2.2.1))), (pu_n (by decide) (pu_n (by decide) (pu_n (by decide) xM.2.2.2.2.2.2.2.2.1))), (pu_n (by decide) (pu_n (by decide) (pu_n (by decide) xM.2.2.2.2.2.2.2.2.2.1))), (pu_n (by decide) (pu_n (by decide) (pu_n (by decide) xM.2.2.2.2.2.2.2.2.2.2.1))), (pu_n (by decide) (pu_n (by decide) (pu_n (by decide) xM.2.2.2.2.2.2.2.2.2.2.2.1))), (pu_n (by decide) (pu_n (by decide) (pu_n (by decide) xM.2.2.2.2.2.2.2.2.2.2.2.2.1))), (pu_n (by decide) (pu_n (by decide) (pu_n (by decide) xM.2.2.2.2.2.2.2.2.2.2.2.2.2.1))), (pu_n (by decide) (pu_n (by decide) (pu_n (by decide) xM.2.2.2.2.2.2.2.2.2.2.2.2.2.2.1))), (pu_n (by decide) (pu_n (by decide) (pu_n (by decide) xM.2.2.2.2.2.2.2.2.2.2.2.2.2.2.2)))⟩, (fun k hk => by rw [pu_x (show k ≠ 73 from fun e => by have := hk; simp at this; omega)]; rw [pu_x (show k ≠ 73 from fun e => by have := hk; simp at this; omega)]; rw [pu_x (show k ≠ 73 from fun e => by have := hk; simp at this; omega)])⟩
  · have c3 : ¬ (¬ y2 = 0) := c3
    rw [if_neg c3] at H
    refine Ev.go 1 (s' := (h, 8, [(0, .ref 73), (1, .int low), (2, .int high), (3, .int end_)], [.int 0])) rfl ?_
    have H := Option.some.inj H
    subst H
    exact Ev.ret rfl rfl (p_retZ rfl) ⟨rfl, xM, (fun k _ => rfl)⟩
def fX10_readsKind (M : tM) : Option (Int32 × tM) := ((fX10_number M 0 3 59).bind fun y2 => (if ¬ y2.1 = 0 then some (1, (va_up y2.2.1 2 (y2.2.1 13), y2.2.2.1, y2.2.2.2)) else some (0, y2.2)))
theorem spX10_readsKind {d : Nat} {h : pH} {M : tM} (xM : isM h M) {res : Int32 × tM} (H : fX10_readsKind M = some res) : Ev (d + 3) mX10_readsKind (h, 0, [(0, .ref 73)], []) (fun r h1 => r = some (.int res.1) ∧ isM h1 res.2 ∧ fr [(73, 89)] h h1) := by
  unfold fX10_readsKind at H
  refine Ev.go 4 (s' := (h, 5, [(0, .ref 73)], [.int 59, .int 3, .int 0, .ref 73])) rfl ?_
  obtain ⟨y2, e1, H⟩ := Option.bind_eq_some_iff.mp H
  refine Ev.call rfl rfl rfl (p_argsV (by decide) xM.1 (Nat.le_of_ble_eq_true rfl)) rfl (Nat.le_of_ble_eq_true rfl) ((spX10_number xM 0 3 59 e1).mono (fun r h3 q4 => ?_))
  obtain ⟨rfl, q4_M, q4_f⟩ := q4
  refine Ev.if1 rfl (fun c5 => ?_) (fun c5 => ?_)
  · have c5 : ¬ y2.1 = 0 := c5
    rw [if_pos c5] at H
    refine Ev.go 2 (s' := (h3, 15, [(0, .ref 73)], [.ref 73, .ref 73])) rfl ?_
    refine Ev.get rfl (by decide) q4_M.1 rfl ?_
    refine Ev.put rfl rfl (by decide) q4_M.1 (Nat.le_of_ble_eq_true rfl) rfl rfl (fs' := [.int (y2.2.1 0), .int (y2.2.1 1), .int (y2.2.1 13), .ref 74, .ref 75, .ref 76, .ref 77, .int (y2.2.1 7), .ref 78, .int (y2.2.1 9), .ref 79, .int (y2.2.1 11), .int (y2.2.1 12), .int (y2.2.1 13), .ref 80, .int (y2.2.1 15), .int (y2.2.1 16), .ref 81, .ref 82, .ref 83, .int (y2.2.1 20), .int (y2.2.1 21), .ref 84, .ref 85, .ref 86, .ref 87, .ref 88]) rfl ?_
    refine Ev.go 1 (s' := ((pu h3 73 (eO 9 [.int (y2.2.1 0), .int (y2.2.1 1), .int (y2.2.1 13), .ref 74, .ref 75, .ref 76, .ref 77, .int (y2.2.1 7), .ref 78, .int (y2.2.1 9), .ref 79, .int (y2.2.1 11), .int (y2.2.1 12), .int (y2.2.1 13), .ref 80, .int (y2.2.1 15), .int (y2.2.1 16), .ref 81, .ref 82, .ref 83, .int (y2.2.1 20), .int (y2.2.1 21), .ref 84, .ref 85, .ref 86, .ref 87, .ref 88])), 22, [(0, .ref 73)], [.int 1])) rfl ?_
    have H := Option.some.inj H
    subst H
    exact Ev.ret rfl rfl (p_retZ rfl) ⟨rfl, ⟨pu_s, (pu_n (by decide) q4_M.2.1), (pu_n (by decide) q4_M.2.2.1), (pu_n (by decide) q4_M.2.2.2.1), (pu_n (by decide) q4_M.2.2.2.2.1), (pu_n (by decide) q4_M.2.2.2.2.2.1), (pu_n (by decide) q4_M.2.2.2.2.2.2.1), (pu_n (by decide) q4_M.2.2.2.2.2.2.2.1), (pu_n (by decide) q4_M.2.2.2.2.2.2.2.2.1), (pu_n (by decide) q4_M.2.2.2.2.2.2.2.2.2.1), (pu_n (by decide) q4_M.2.2.2.2.2.2.2.2.2.2.1), (pu_n (by decide) q4_M.2.2.2.2.2.2.2.2.2.2.2.1), (pu_n (by decide) q4_M.2.2.2.2.2.2.2.2.2.2.2.2.1), (pu_n (by decide) q4_M.2.2.2.2.2.2.2.2.2.2.2.2.2.1), (pu_n (by decide) q4_M.2.2.2.2.2.2.2.2.2.2.2.2.2.2.1), (pu_n (by decide) q4_M.2.2.2.2.2.2.2.2.2.2.2.2.2.2.2)⟩, (fun k hk => by rw [pu_x (show k ≠ 73 from fun e => by have := hk; simp at this; omega)]; rw [q4_f k (by have := hk; simp at this ⊢; omega)])⟩
  · have c5 : ¬ (¬ y2.1 = 0) := c5
    rw [if_neg c5] at H
    refine Ev.go 1 (s' := (h3, 12, [(0, .ref 73)], [.int 0])) rfl ?_
    have H := Option.some.inj H
    subst H
    exact Ev.ret rfl rfl (p_retZ rfl) ⟨rfl, q4_M, (fun k hk => by rw [q4_f k (by have := hk; simp at this ⊢; omega)])⟩
def fX10_readsRoot (M : tM) : Option (Int32 × tM) := (if 0 < (M.1 1) then some (0, M) else ((fX10_number M 0 5 59).bind fun y3 => (if ¬ y3.1 = 0 then ((fX10_root y3.2 (y3.2.1 13)).bind fun y8 => some (1, y8)) else some (0, y3.2))))
theorem spX10_readsRoot {d : Nat} {h : pH} {M : tM} (xM : isM h M) {res : Int32 × tM} (H : fX10_readsRoot M = some res) : Ev (d + 3) mX10_readsRoot (h, 0, [(0, .ref 73)], []) (fun r h1 => r = some (.int res.1) ∧ isM h1 res.2 ∧ fr [(73, 89)] h h1) := by
  unfold fX10_readsRoot at H
  refine Ev.go 1 (s' := (h, 1, [(0, .ref 73)], [.ref 73])) rfl ?_
  refine Ev.get rfl (by decide) xM.1 rfl ?_
  refine Ev.if1 rfl (fun c1 => ?_) (fun c1 => ?_)
  · have c1 : 0 < (M.1 1) := c1
    rw [if_pos c1] at H
    refine Ev.go 1 (s' := (h, 19, [(0, .ref 73)], [.int 0])) rfl ?_
    have H := Option.some.inj H
    subst H
    exact Ev.ret rfl rfl (p_retZ rfl) ⟨rfl, xM, (fun k _ => rfl)⟩
  · have c1 : ¬ (0 < (M.1 1)) := c1
    rw [if_neg c1] at H
    refine Ev.go 4 (s' := (h, 12, [(0, .ref 73)], [.int 59, .int 5, .int 0, .ref 73])) rfl ?_
    obtain ⟨y3, e2, H⟩ := Option.bind_eq_some_iff.mp H
    refine Ev.call rfl rfl rfl (p_argsV (by decide) xM.1 (Nat.le_of_ble_eq_true rfl)) rfl (Nat.le_of_ble_eq_true rfl) ((spX10_number xM 0 5 59 e2).mono (fun r h4 q5 => ?_))
    obtain ⟨rfl, q5_M, q5_f⟩ := q5
    refine Ev.if1 rfl (fun c6 => ?_) (fun c6 => ?_)
    · have c6 : ¬ y3.1 = 0 := c6
      rw [if_pos c6] at H
      refine Ev.go 2 (s' := (h4, 22, [(0, .ref 73)], [.ref 73, .ref 73])) rfl ?_
      refine Ev.get rfl (by decide) q5_M.1 rfl ?_
      obtain ⟨y8, e7, H⟩ := Option.bind_eq_some_iff.mp H
      refine Ev.call rfl rfl rfl (p_argsV (by decide) q5_M.1 (Nat.le_of_ble_eq_true rfl)) rfl (Nat.le_of_ble_eq_true rfl) ((spX10_root q5_M (y3.2.1 13) e7).mono (fun r h9 q10 => ?_))
      obtain ⟨rfl, q10_M, q10_f⟩ := q10
      refine Ev.go 1 (s' := (h9, 29, [(0, .ref 73)], [.int 1])) rfl ?_
      have H := Option.some.inj H
      subst H
      exact Ev.ret rfl rfl (p_retZ rfl) ⟨rfl, q10_M, (fun k hk => by rw [q10_f k (by have := hk; simp at this ⊢; omega)]; rw [q5_f k (by have := hk; simp at this ⊢; omega)])⟩
    · have c6 : ¬ (¬ y3.1 = 0) := c6
      rw [if_neg c6] at H
      refine Ev.go 1 (s' := (h4, 19, [(0, .ref 73)], [.int 0])) rfl ?_
      have H := Option.some.inj H
      subst H
      exact Ev.ret rfl rfl (p_retZ rfl) ⟨rfl, q5_M, (fun k hk => by rw [q5_f k (by have := hk; simp at this ⊢; omega)])⟩
def fX10_readsNode (n : Nat) (M : tM) : Option (Int32 × tM) := (if (M.1 1) = 0 then some (0, M) else (if (M.1 1) = 24 then some (0, M) else ((fX10_number M 0 ((M.1 1) - 1) 44).bind fun y4 => (if ¬ y4.1 = 0 then ((fX10_childMany n y4.2 (y4.2.1 13)).bind fun y9 => ((fX10_number y4.2 0 y9 44).bind fun y11 => (if ¬ y11.1 = 0 then ((fX10_number y11.2 0 5 59).bind fun y16 => (if y16.1 = 0 then some (0, y16.2) else ((fX10_comes n y16.2 (y4.2.1 13) (y11.2.1 13) (y16.2.1 13)).bind fun y21 => (if y21.1 = (-4) then some (0, y21.2) else some (1, y21.2))))) else some (0, y11.2)))) else some (0, y4.2)))))
theorem spX10_readsNode {d n : Nat} {h : pH} {M : tM} (xM : isM h M) {res : Int32 × tM} (H : fX10_readsNode n M = some res) : Ev (d + 5) mX10_readsNode (h, 0, [(0, .ref 73)], []) (fun r h1 => r = some (.int res.1) ∧ isM h1 res.2 ∧ fr [(73, 89)] h h1) := by
  unfold fX10_readsNode at H
  refine Ev.go 1 (s' := (h, 1, [(0, .ref 73)], [.ref 73])) rfl ?_
  refine Ev.get rfl (by decide) xM.1 rfl ?_
  refine Ev.if1 rfl (fun c1 => ?_) (fun c1 => ?_)
  · have c1 : (M.1 1) = 0 := c1
    rw [if_pos c1] at H
    refine Ev.go 1 (s' := (h, 33, [(0, .ref 73)], [.int 0])) rfl ?_
    have H := Option.some.inj H
    subst H
    exact Ev.ret rfl rfl (p_retZ rfl) ⟨rfl, xM, (fun k _ => rfl)⟩
  · have c1 : ¬ ((M.1 1) = 0) := c1
    rw [if_neg c1] at H
    refine Ev.go 1 (s' := (h, 8, [(0, .ref 73)], [.ref 73])) rfl ?_
    refine Ev.get rfl (by decide) xM.1 rfl ?_
    refine Ev.go 1 (s' := (h, 13, [(0, .ref 73)], [.int 24, .int (M.1 1)])) rfl ?_
    refine Ev.if2 rfl (fun c2 => ?_) (fun c2 => ?_)
    · have c2 : (M.1 1) = 24 := c2
      rw [if_pos c2] at H
      refine Ev.go 1 (s' := (h, 33, [(0, .ref 73)], [.int 0])) rfl ?_
      have H := Option.some.inj H
      subst H
      exact Ev.ret rfl rfl (p_retZ rfl) ⟨rfl, xM, (fun k _ => rfl)⟩
    · have c2 : ¬ ((M.1 1) = 24) := c2
      rw [if_neg c2] at H
      refine Ev.go 3 (s' := (h, 19, [(0, .ref 73)], [.ref 73, .int 0, .ref 73])) rfl ?_
      refine Ev.get rfl (by decide) xM.1 rfl ?_
      refine Ev.go 3 (s' := (h, 26, [(0, .ref 73)], [.int 44, .int ((M.1 1) - 1), .int 0, .ref 73])) rfl ?_
      obtain ⟨y4, e3, H⟩ := Option.bind_eq_some_iff.mp H
      refine Ev.call rfl rfl rfl (p_argsV (by decide) xM.1 (Nat.le_of_ble_eq_true rfl)) rfl (Nat.le_of_ble_eq_true rfl) ((spX10_number xM 0 ((M.1 1) - 1) 44 e3).mono (fun r h5 q6 => ?_))
      obtain ⟨rfl, q6_M, q6_f⟩ := q6
      refine Ev.if1 rfl (fun c7 => ?_) (fun c7 => ?_)
      · have c7 : ¬ y4.1 = 0 := c7
        rw [if_pos c7] at H
        refine Ev.go 1 (s' := (h5, 35, [(0, .ref 73)], [.ref 73])) rfl ?_
        refine Ev.get rfl (by decide) q6_M.1 rfl ?_
        refine Ev.go 5 (s' := (h5, 43, [(0, .ref 73), (1, .int (y4.2.1 13))], [.int (y4.2.1 13), .ref 73, .int 0, .ref 73])) rfl ?_
        obtain ⟨y9, e8, H⟩ := Option.bind_eq_some_iff.mp H
        refine Ev.callE rfl rfl rfl (p_argsV (by decide) q6_M.1 (Nat.le_of_ble_eq_true rfl)) rfl (Nat.le_of_ble_eq_true rfl) (spX10_childMany q6_M (y4.2.1 13) e8) ?_
        refine Ev.go 1 (s' := (h5, 48, [(0, .ref 73), (1, .int (y4.2.1 13))], [.int 44, .int y9, .int 0, .ref 73])) rfl ?_
        obtain ⟨y11, e10, H⟩ := Option.bind_eq_some_iff.mp H
        refine Ev.call rfl rfl rfl (p_argsV (by decide) q6_M.1 (Nat.le_of_ble_eq_true rfl)) rfl (Nat.le_of_ble_eq_true rfl) ((spX10_number q6_M 0 y9 44 e10).mono (fun r h12 q13 => ?_))
        obtain ⟨rfl, q13_M, q13_f⟩ := q13
        refine Ev.if1 rfl (fun c14 => ?_) (fun c14 => ?_)
        · have c14 : ¬ y11.1 = 0 := c14
          rw [if_pos c14] at H
          refine Ev.go 1 (s' := (h12, 57, [(0, .ref 73), (1, .int (y4.2.1 13))], [.ref 73])) rfl ?_
          refine Ev.get rfl (by decide) q13_M.1 rfl ?_
          refine Ev.go 5 (s' := (h12, 66, [(0, .ref 73), (1, .int (y4.2.1 13)), (2, .int (y11.2.1 13))], [.int 59, .int 5, .int 0, .ref 73])) rfl ?_
          obtain ⟨y16, e15, H⟩ := Option.bind_eq_some_iff.mp H
          refine Ev.call rfl rfl rfl (p_argsV (by decide) q13_M.1 (Nat.le_of_ble_eq_true rfl)) rfl (Nat.le_of_ble_eq_true rfl) ((spX10_number q13_M 0 5 59 e15).mono (fun r h17 q18 => ?_))
          obtain ⟨rfl, q18_M, q18_f⟩ := q18
          refine Ev.if1 rfl (fun c19 => ?_) (fun c19 => ?_)
          · have c19 : y16.1 = 0 := c19
            rw [if_pos c19] at H
            refine Ev.go 1 (s' := (h17, 92, [(0, .ref 73), (1, .int (y4.2.1 13)), (2, .int (y11.2.1 13))], [.int 0])) rfl ?_
            have H := Option.some.inj H
            subst H
            exact Ev.ret rfl rfl (p_retZ rfl) ⟨rfl, q18_M, (fun k hk => by rw [q18_f k (by have := hk; simp at this ⊢; omega)]; rw [q13_f k (by have := hk; simp at this ⊢; omega)]; rw [q6_f k (by have := hk; simp at this ⊢; omega)])⟩
          · have c19 : ¬ (y16.1 = 0) := c19
            rw [if_neg c19] at H
            refine Ev.go 4 (s' := (h17, 76, [(0, .ref 73), (1, .int (y4.2.1 13)), (2, .int (y11.2.1 13))], [.ref 73, .int (y11.2.1 13), .int (y4.2.1 13), .ref 73])) rfl ?_
            refine Ev.get rfl (by decide) q18_M.1 rfl ?_
            obtain ⟨y21, e20, H⟩ := Option.bind_eq_some_iff.mp H
            refine Ev.call rfl rfl rfl (p_argsV (by decide) q18_M.1 (Nat.le_of_ble_eq_true rfl)) rfl (Nat.le_of_ble_eq_true rfl) ((spX10_comes q18_M (y4.2.1 13) (y11.2.1 13) (y16.2.1 13) e20).mono (fun r h22 q23 => ?_))
            obtain ⟨rfl, q23_M, q23_f⟩ := q23
            refine Ev.go 1 (s' := (h22, 84, [(0, .ref 73), (1, .int (y4.2.1 13)), (2, .int (y11.2.1 13))], [.int ((-4)), .int y21.1])) rfl ?_
            refine Ev.if2 rfl (fun c24 => ?_) (fun c24 => ?_)
            · have c24 : y21.1 = (-4) := c24
              rw [if_pos c24] at H
              refine Ev.go 1 (s' := (h22, 92, [(0, .ref 73), (1, .int (y4.2.1 13)), (2, .int (y11.2.1 13))], [.int 0])) rfl ?_
              have H := Option.some.inj H
              subst H
              exact Ev.ret rfl rfl (p_retZ rfl) ⟨rfl, q23_M, (fun k hk => by rw [q23_f k (by have := hk; simp at this ⊢; omega)]; rw [q18_f k (by have := hk; simp at this ⊢; omega)]; rw [q13_f k (by have := hk; simp at this ⊢; omega)]; rw [q6_f k (by have := hk; simp at this ⊢; omega)])⟩
            · have c24 : ¬ (y21.1 = (-4)) := c24
              rw [if_neg c24] at H
              refine Ev.go 2 (s' := (h22, 92, [(0, .ref 73), (1, .int (y4.2.1 13)), (2, .int (y11.2.1 13))], [.int 1])) rfl ?_
              have H := Option.some.inj H
              subst H
              exact Ev.ret rfl rfl (p_retZ rfl) ⟨rfl, q23_M, (fun k hk => by rw [q23_f k (by have := hk; simp at this ⊢; omega)]; rw [q18_f k (by have := hk; simp at this ⊢; omega)]; rw [q13_f k (by have := hk; simp at this ⊢; omega)]; rw [q6_f k (by have := hk; simp at this ⊢; omega)])⟩
        · have c14 : ¬ (¬ y11.1 = 0) := c14
          rw [if_neg c14] at H
          refine Ev.go 1 (s' := (h12, 55, [(0, .ref 73), (1, .int (y4.2.1 13))], [.int 0])) rfl ?_
          have H := Option.some.inj H
          subst H
          exact Ev.ret rfl rfl (p_retZ rfl) ⟨rfl, q13_M, (fun k hk => by rw [q13_f k (by have := hk; simp at this ⊢; omega)]; rw [q6_f k (by have := hk; simp at this ⊢; omega)])⟩
      · have c7 : ¬ (¬ y4.1 = 0) := c7
        rw [if_neg c7] at H
        refine Ev.go 1 (s' := (h5, 33, [(0, .ref 73)], [.int 0])) rfl ?_
        have H := Option.some.inj H
        subst H
        exact Ev.ret rfl rfl (p_retZ rfl) ⟨rfl, q6_M, (fun k hk => by rw [q6_f k (by have := hk; simp at this ⊢; omega)])⟩
def fX10_readsItem (n : Nat) (M : tM) (first : Int32) : Option (Int32 × tM) := ((fX10_here M).bind fun y2 => (if ¬ y2 = 107 then (if ¬ y2 = 114 then (if ¬ y2 = 103 then some (0, (va_up M.1 12 ((M.1 12) + 1), M.2.1, M.2.2)) else ((fX10_readsNode n (va_up M.1 12 ((M.1 12) + 1), M.2.1, M.2.2)).bind fun y7 => (if y7.1 = 0 then some (0, y7.2) else some (1, y7.2)))) else ((fX10_readsRoot (va_up M.1 12 ((M.1 12) + 1), M.2.1, M.2.2)).bind fun y12 => (if y12.1 &&& 1 = y12.1 then some (y12.1, y12.2) else none))) else (if first = 0 then some (0, (va_up M.1 12 ((M.1 12) + 1), M.2.1, M.2.2)) else ((fX10_readsKind (va_up M.1 12 ((M.1 12) + 1), M.2.1, M.2.2)).bind fun y18 => (if y18.1 = 0 then some (0, y18.2) else some (1, y18.2))))))
theorem spX10_readsItem {d n : Nat} {h : pH} {M : tM} (xM : isM h M) (first : Int32) {res : Int32 × tM} (H : fX10_readsItem n M first = some res) : Ev (d + 6) mX10_readsItem (h, 0, [(0, .ref 73), (1, .int first)], []) (fun r h1 => r = some (.int res.1) ∧ isM h1 res.2 ∧ fr [(73, 89)] h h1) := by
  unfold fX10_readsItem at H
  refine Ev.go 1 (s' := (h, 1, [(0, .ref 73), (1, .int first)], [.ref 73])) rfl ?_
  obtain ⟨y2, e1, H⟩ := Option.bind_eq_some_iff.mp H
  refine Ev.callE rfl rfl rfl (p_argsV (by decide) xM.1 (Nat.le_of_ble_eq_true rfl)) rfl (Nat.le_of_ble_eq_true rfl) (spX10_here xM  e1) ?_
  refine Ev.go 3 (s' := (h, 7, [(0, .ref 73), (1, .int first), (2, .int y2)], [.ref 73, .ref 73])) rfl ?_
  refine Ev.get rfl (by decide) xM.1 rfl ?_
  refine Ev.go 2 (s' := (h, 12, [(0, .ref 73), (1, .int first), (2, .int y2)], [.int ((M.1 12) + 1), .ref 73])) rfl ?_
  refine Ev.put rfl rfl (by decide) xM.1 (Nat.le_of_ble_eq_true rfl) rfl rfl (fs' := [.int (M.1 0), .int (M.1 1), .int (M.1 2), .ref 74, .ref 75, .ref 76, .ref 77, .int (M.1 7), .ref 78, .int (M.1 9), .ref 79, .int (M.1 11), .int ((M.1 12) + 1), .int (M.1 13), .ref 80, .int (M.1 15), .int (M.1 16), .ref 81, .ref 82, .ref 83, .int (M.1 20), .int (M.1 21), .ref 84, .ref 85, .ref 86, .ref 87, .ref 88]) rfl ?_
  refine Ev.go 2 (s' := ((pu h 73 (eO 9 [.int (M.1 0), .int (M.1 1), .int (M.1 2), .ref 74, .ref 75, .ref 76, .ref 77, .int (M.1 7), .ref 78, .int (M.1 9), .ref 79, .int (M.1 11), .int ((M.1 12) + 1), .int (M.1 13), .ref 80, .int (M.1 15), .int (M.1 16), .ref 81, .ref 82, .ref 83, .int (M.1 20), .int (M.1 21), .ref 84, .ref 85, .ref 86, .ref 87, .ref 88])), 18, [(0, .ref 73), (1, .int first), (2, .int y2)], [.int 107, .int y2])) rfl ?_
  refine Ev.if2 rfl (fun c3 => ?_) (fun c3 => ?_)
  · have c3 : ¬ y2 = 107 := c3
    rw [if_pos c3] at H
    refine Ev.go 2 (s' := ((pu h 73 (eO 9 [.int (M.1 0), .int (M.1 1), .int (M.1 2), .ref 74, .ref 75, .ref 76, .ref 77, .int (M.1 7), .ref 78, .int (M.1 9), .ref 79, .int (M.1 11), .int ((M.1 12) + 1), .int (M.1 13), .ref 80, .int (M.1 15), .int (M.1 16), .ref 81, .ref 82, .ref 83, .int (M.1 20), .int (M.1 21), .ref 84, .ref 85, .ref 86, .ref 87, .ref 88])), 43, [(0, .ref 73), (1, .int first), (2, .int y2)], [.int 114, .int y2])) rfl ?_
    refine Ev.if2 rfl (fun c4 => ?_) (fun c4 => ?_)
    · have c4 : ¬ y2 = 114 := c4
      rw [if_pos c4] at H
      refine Ev.go 2 (s' := ((pu h 73 (eO 9 [.int (M.1 0), .int (M.1 1), .int (M.1 2), .ref 74, .ref 75, .ref 76, .ref 77, .int (M.1 7), .ref 78, .int (M.1 9), .ref 79, .int (M.1 11), .int ((M.1 12) + 1), .int (M.1 13), .ref 80, .int (M.1 15), .int (M.1 16), .ref 81, .ref 82, .ref 83, .int (M.1 20), .int (M.1 21), .ref 84, .ref 85, .ref 86, .ref 87, .ref 88])), 56, [(0, .ref 73), (1, .int first), (2, .int y2)], [.int 103, .int y2])) rfl ?_
      refine Ev.if2 rfl (fun c5 => ?_) (fun c5 => ?_)
      · have c5 : ¬ y2 = 103 := c5
        rw [if_pos c5] at H
        refine Ev.go 1 (s' := ((pu h 73 (eO 9 [.int (M.1 0), .int (M.1 1), .int (M.1 2), .ref 74, .ref 75, .ref 76, .ref 77, .int (M.1 7), .ref 78, .int (M.1 9), .ref 79, .int (M.1 11), .int ((M.1 12) + 1), .int (M.1 13), .ref 80, .int (M.1 15), .int (M.1 16), .ref 81, .ref 82, .ref 83, .int (M.1 20), .int (M.1 21), .ref 84, .ref 85, .ref 86, .ref 87, .ref 88])), 71, [(0, .ref 73), (1, .int first), (2, .int y2)], [.int 0])) rfl ?_
        have H := Option.some.inj H
        subst H
        exact Ev.ret rfl rfl (p_retZ rfl) ⟨rfl, ⟨pu_s, (pu_n (by decide) xM.2.1), (pu_n (by decide) xM.2.2.1), (pu_n (by decide) xM.2.2.2.1), (pu_n (by decide) xM.2.2.2.2.1), (pu_n (by decide) xM.2.2.2.2.2.1), (pu_n (by decide) xM.2.2.2.2.2.2.1), (pu_n (by decide) xM.2.2.2.2.2.2.2.1), (pu_n (by decide) xM.2.2.2.2.2.2.2.2.1), (pu_n (by decide) xM.2.2.2.2.2.2.2.2.2.1), (pu_n (by decide) xM.2.2.2.2.2.2.2.2.2.2.1), (pu_n (by decide) xM.2.2.2.2.2.2.2.2.2.2.2.1), (pu_n (by decide) xM.2.2.2.2.2.2.2.2.2.2.2.2.1), (pu_n (by decide) xM.2.2.2.2.2.2.2.2.2.2.2.2.2.1), (pu_n (by decide) xM.2.2.2.2.2.2.2.2.2.2.2.2.2.2.1), (pu_n (by decide) xM.2.2.2.2.2.2.2.2.2.2.2.2.2.2.2)⟩, (fun k hk => by rw [pu_x (show k ≠ 73 from fun e => by have := hk; simp at this; omega)])⟩
      · have c5 : ¬ (¬ y2 = 103) := c5
        rw [if_neg c5] at H
        refine Ev.go 1 (s' := ((pu h 73 (eO 9 [.int (M.1 0), .int (M.1 1), .int (M.1 2), .ref 74, .ref 75, .ref 76, .ref 77, .int (M.1 7), .ref 78, .int (M.1 9), .ref 79, .int (M.1 11), .int ((M.1 12) + 1), .int (M.1 13), .ref 80, .int (M.1 15), .int (M.1 16), .ref 81, .ref 82, .ref 83, .int (M.1 20), .int (M.1 21), .ref 84, .ref 85, .ref 86, .ref 87, .ref 88])), 60, [(0, .ref 73), (1, .int first), (2, .int y2)], [.ref 73])) rfl ?_
        obtain ⟨y7, e6, H⟩ := Option.bind_eq_some_iff.mp H
        refine Ev.call rfl rfl rfl (p_argsV (by decide) pu_s (Nat.le_of_ble_eq_true rfl)) rfl (Nat.le_of_ble_eq_true rfl) ((spX10_readsNode (h := (pu h 73 (eO 9 [.int (M.1 0), .int (M.1 1), .int (M.1 2), .ref 74, .ref 75, .ref 76, .ref 77, .int (M.1 7), .ref 78, .int (M.1 9), .ref 79, .int (M.1 11), .int ((M.1 12) + 1), .int (M.1 13), .ref 80, .int (M.1 15), .int (M.1 16), .ref 81, .ref 82, .ref 83, .int (M.1 20), .int (M.1 21), .ref 84, .ref 85, .ref 86, .ref 87, .ref 88]))) (M := (va_up M.1 12 ((M.1 12) + 1), M.2.1, M.2.2)) ⟨pu_s, (pu_n (by decide) xM.2.1), (pu_n (by decide) xM.2.2.1), (pu_n (by decide) xM.2.2.2.1), (pu_n (by decide) xM.2.2.2.2.1), (pu_n (by decide) xM.2.2.2.2.2.1), (pu_n (by decide) xM.2.2.2.2.2.2.1), (pu_n (by decide) xM.2.2.2.2.2.2.2.1), (pu_n (by decide) xM.2.2.2.2.2.2.2.2.1), (pu_n (by decide) xM.2.2.2.2.2.2.2.2.2.1), (pu_n (by decide) xM.2.2.2.2.2.2.2.2.2.2.1), (pu_n (by decide) xM.2.2.2.2.2.2.2.2.2.2.2.1), (pu_n (by decide) xM.2.2.2.2.2.2.2.2.2.2.2.2.1), (pu_n (by decide) xM.2.2.2.2.2.2.2.2.2.2.2.2.2.1), (pu_n (by decide) xM.2.2.2.2.2.2.2.2.2.2.2.2.2.2.1), (pu_n (by decide) xM.2.2.2.2.2.2.2.2.2.2.2.2.2.2.2)⟩  e6).mono (fun r h8 q9 => ?_))
        obtain ⟨rfl, q9_M, q9_f⟩ := q9
        refine Ev.if1 rfl (fun c10 => ?_) (fun c10 => ?_)
        · have c10 : y7.1 = 0 := c10
          rw [if_pos c10] at H
          refine Ev.go 1 (s' := (h8, 71, [(0, .ref 73), (1, .int first), (2, .int y2)], [.int 0])) rfl ?_
          have H := Option.some.inj H
          subst H
          exact Ev.ret rfl rfl (p_retZ rfl) ⟨rfl, q9_M, (fun k hk => by rw [q9_f k (by have := hk; simp at this ⊢; omega)]; rw [pu_x (show k ≠ 73 from fun e => by have := hk; simp at this; omega)])⟩
        · have c10 : ¬ (y7.1 = 0) := c10
          rw [if_neg c10] at H
          refine Ev.go 2 (s' := (h8, 71, [(0, .ref 73), (1, .int first), (2, .int y2)], [.int 1])) rfl ?_
          have H := Option.some.inj H
          subst H
          exact Ev.ret rfl rfl (p_retZ rfl) ⟨rfl, q9_M, (fun k hk => by rw [q9_f k (by have := hk; simp at this ⊢; omega)]; rw [pu_x (show k ≠ 73 from fun e => by have := hk; simp at this; omega)])⟩
    · have c4 : ¬ (¬ y2 = 114) := c4
      rw [if_neg c4] at H
      refine Ev.go 1 (s' := ((pu h 73 (eO 9 [.int (M.1 0), .int (M.1 1), .int (M.1 2), .ref 74, .ref 75, .ref 76, .ref 77, .int (M.1 7), .ref 78, .int (M.1 9), .ref 79, .int (M.1 11), .int ((M.1 12) + 1), .int (M.1 13), .ref 80, .int (M.1 15), .int (M.1 16), .ref 81, .ref 82, .ref 83, .int (M.1 20), .int (M.1 21), .ref 84, .ref 85, .ref 86, .ref 87, .ref 88])), 47, [(0, .ref 73), (1, .int first), (2, .int y2)], [.ref 73])) rfl ?_
      obtain ⟨y12, e11, H⟩ := Option.bind_eq_some_iff.mp H
      refine Ev.call rfl rfl rfl (p_argsV (by decide) pu_s (Nat.le_of_ble_eq_true rfl)) rfl (Nat.le_of_ble_eq_true rfl) ((spX10_readsRoot (h := (pu h 73 (eO 9 [.int (M.1 0), .int (M.1 1), .int (M.1 2), .ref 74, .ref 75, .ref 76, .ref 77, .int (M.1 7), .ref 78, .int (M.1 9), .ref 79, .int (M.1 11), .int ((M.1 12) + 1), .int (M.1 13), .ref 80, .int (M.1 15), .int (M.1 16), .ref 81, .ref 82, .ref 83, .int (M.1 20), .int (M.1 21), .ref 84, .ref 85, .ref 86, .ref 87, .ref 88]))) (M := (va_up M.1 12 ((M.1 12) + 1), M.2.1, M.2.2)) ⟨pu_s, (pu_n (by decide) xM.2.1), (pu_n (by decide) xM.2.2.1), (pu_n (by decide) xM.2.2.2.1), (pu_n (by decide) xM.2.2.2.2.1), (pu_n (by decide) xM.2.2.2.2.2.1), (pu_n (by decide) xM.2.2.2.2.2.2.1), (pu_n (by decide) xM.2.2.2.2.2.2.2.1), (pu_n (by decide) xM.2.2.2.2.2.2.2.2.1), (pu_n (by decide) xM.2.2.2.2.2.2.2.2.2.1), (pu_n (by decide) xM.2.2.2.2.2.2.2.2.2.2.1), (pu_n (by decide) xM.2.2.2.2.2.2.2.2.2.2.2.1), (pu_n (by decide) xM.2.2.2.2.2.2.2.2.2.2.2.2.1), (pu_n (by decide) xM.2.2.2.2.2.2.2.2.2.2.2.2.2.1), (pu_n (by decide) xM.2.2.2.2.2.2.2.2.2.2.2.2.2.2.1), (pu_n (by decide) xM.2.2.2.2.2.2.2.2.2.2.2.2.2.2.2)⟩  e11).mono (fun r h13 q14 => ?_))
      obtain ⟨rfl, q14_M, q14_f⟩ := q14
      refine Ev.go 1 (s' := (h13, 71, [(0, .ref 73), (1, .int first), (2, .int y2)], [.int y12.1])) rfl ?_
      have v15 : y12.1 &&& 1 = y12.1 := Classical.byContradiction fun q => by rw [if_neg q] at H; cases H
      rw [if_pos v15] at H
      have H := Option.some.inj H
      subst H
      exact Ev.ret rfl rfl (p_retZ (t := .boolean) (congrArg Value.int v15)) ⟨rfl, q14_M, (fun k hk => by rw [q14_f k (by have := hk; simp at this ⊢; omega)]; rw [pu_x (show k ≠ 73 from fun e => by have := hk; simp at this; omega)])⟩
  · have c3 : ¬ (¬ y2 = 107) := c3
    rw [if_neg c3] at H
    refine Ev.go 1 (s' := ((pu h 73 (eO 9 [.int (M.1 0), .int (M.1 1), .int (M.1 2), .ref 74, .ref 75, .ref 76, .ref 77, .int (M.1 7), .ref 78, .int (M.1 9), .ref 79, .int (M.1 11), .int ((M.1 12) + 1), .int (M.1 13), .ref 80, .int (M.1 15), .int (M.1 16), .ref 81, .ref 82, .ref 83, .int (M.1 20), .int (M.1 21), .ref 84, .ref 85, .ref 86, .ref 87, .ref 88])), 22, [(0, .ref 73), (1, .int first), (2, .int y2)], [.int first])) rfl ?_
    refine Ev.if1 rfl (fun c16 => ?_) (fun c16 => ?_)
    · have c16 : first = 0 := c16
      rw [if_pos c16] at H
      refine Ev.go 2 (s' := ((pu h 73 (eO 9 [.int (M.1 0), .int (M.1 1), .int (M.1 2), .ref 74, .ref 75, .ref 76, .ref 77, .int (M.1 7), .ref 78, .int (M.1 9), .ref 79, .int (M.1 11), .int ((M.1 12) + 1), .int (M.1 13), .ref 80, .int (M.1 15), .int (M.1 16), .ref 81, .ref 82, .ref 83, .int (M.1 20), .int (M.1 21), .ref 84, .ref 85, .ref 86, .ref 87, .ref 88])), 71, [(0, .ref 73), (1, .int first), (2, .int y2)], [.int 0])) rfl ?_
      have H := Option.some.inj H
      subst H
      exact Ev.ret rfl rfl (p_retZ rfl) ⟨rfl, ⟨pu_s, (pu_n (by decide) xM.2.1), (pu_n (by decide) xM.2.2.1), (pu_n (by decide) xM.2.2.2.1), (pu_n (by decide) xM.2.2.2.2.1), (pu_n (by decide) xM.2.2.2.2.2.1), (pu_n (by decide) xM.2.2.2.2.2.2.1), (pu_n (by decide) xM.2.2.2.2.2.2.2.1), (pu_n (by decide) xM.2.2.2.2.2.2.2.2.1), (pu_n (by decide) xM.2.2.2.2.2.2.2.2.2.1), (pu_n (by decide) xM.2.2.2.2.2.2.2.2.2.2.1), (pu_n (by decide) xM.2.2.2.2.2.2.2.2.2.2.2.1), (pu_n (by decide) xM.2.2.2.2.2.2.2.2.2.2.2.2.1), (pu_n (by decide) xM.2.2.2.2.2.2.2.2.2.2.2.2.2.1), (pu_n (by decide) xM.2.2.2.2.2.2.2.2.2.2.2.2.2.2.1), (pu_n (by decide) xM.2.2.2.2.2.2.2.2.2.2.2.2.2.2.2)⟩, (fun k hk => by rw [pu_x (show k ≠ 73 from fun e => by have := hk; simp at this; omega)])⟩
    · have c16 : ¬ (first = 0) := c16
      rw [if_neg c16] at H
      refine Ev.go 1 (s' := ((pu h 73 (eO 9 [.int (M.1 0), .int (M.1 1), .int (M.1 2), .ref 74, .ref 75, .ref 76, .ref 77, .int (M.1 7), .ref 78, .int (M.1 9), .ref 79, .int (M.1 11), .int ((M.1 12) + 1), .int (M.1 13), .ref 80, .int (M.1 15), .int (M.1 16), .ref 81, .ref 82, .ref 83, .int (M.1 20), .int (M.1 21), .ref 84, .ref 85, .ref 86, .ref 87, .ref 88])), 26, [(0, .ref 73), (1, .int first), (2, .int y2)], [.ref 73])) rfl ?_
      obtain ⟨y18, e17, H⟩ := Option.bind_eq_some_iff.mp H
      refine Ev.call rfl rfl rfl (p_argsV (by decide) pu_s (Nat.le_of_ble_eq_true rfl)) rfl (Nat.le_of_ble_eq_true rfl) ((spX10_readsKind (h := (pu h 73 (eO 9 [.int (M.1 0), .int (M.1 1), .int (M.1 2), .ref 74, .ref 75, .ref 76, .ref 77, .int (M.1 7), .ref 78, .int (M.1 9), .ref 79, .int (M.1 11), .int ((M.1 12) + 1), .int (M.1 13), .ref 80, .int (M.1 15), .int (M.1 16), .ref 81, .ref 82, .ref 83, .int (M.1 20), .int (M.1 21), .ref 84, .ref 85, .ref 86, .ref 87, .ref 88]))) (M := (va_up M.1 12 ((M.1 12) + 1), M.2.1, M.2.2)) ⟨pu_s, (pu_n (by decide) xM.2.1), (pu_n (by decide) xM.2.2.1), (pu_n (by decide) xM.2.2.2.1), (pu_n (by decide) xM.2.2.2.2.1), (pu_n (by decide) xM.2.2.2.2.2.1), (pu_n (by decide) xM.2.2.2.2.2.2.1), (pu_n (by decide) xM.2.2.2.2.2.2.2.1), (pu_n (by decide) xM.2.2.2.2.2.2.2.2.1), (pu_n (by decide) xM.2.2.2.2.2.2.2.2.2.1), (pu_n (by decide) xM.2.2.2.2.2.2.2.2.2.2.1), (pu_n (by decide) xM.2.2.2.2.2.2.2.2.2.2.2.1), (pu_n (by decide) xM.2.2.2.2.2.2.2.2.2.2.2.2.1), (pu_n (by decide) xM.2.2.2.2.2.2.2.2.2.2.2.2.2.1), (pu_n (by decide) xM.2.2.2.2.2.2.2.2.2.2.2.2.2.2.1), (pu_n (by decide) xM.2.2.2.2.2.2.2.2.2.2.2.2.2.2.2)⟩  e17).mono (fun r h19 q20 => ?_))
      obtain ⟨rfl, q20_M, q20_f⟩ := q20
      refine Ev.if1 rfl (fun c21 => ?_) (fun c21 => ?_)
      · have c21 : y18.1 = 0 := c21
        rw [if_pos c21] at H
        refine Ev.go 2 (s' := (h19, 71, [(0, .ref 73), (1, .int first), (2, .int y2)], [.int 0])) rfl ?_
        have H := Option.some.inj H
        subst H
        exact Ev.ret rfl rfl (p_retZ rfl) ⟨rfl, q20_M, (fun k hk => by rw [q20_f k (by have := hk; simp at this ⊢; omega)]; rw [pu_x (show k ≠ 73 from fun e => by have := hk; simp at this; omega)])⟩
      · have c21 : ¬ (y18.1 = 0) := c21
        rw [if_neg c21] at H
        refine Ev.go 2 (s' := (h19, 71, [(0, .ref 73), (1, .int first), (2, .int y2)], [.int 1])) rfl ?_
        have H := Option.some.inj H
        subst H
        exact Ev.ret rfl rfl (p_retZ rfl) ⟨rfl, q20_M, (fun k hk => by rw [q20_f k (by have := hk; simp at this ⊢; omega)]; rw [pu_x (show k ≠ 73 from fun e => by have := hk; simp at this; omega)])⟩
def lX10_reads_20 (n : Nat) : Nat → tM → Option (Int32 × tM)
  | 0, _ => none
  | m + 1, M => (if (M.1 11) ≤ (M.1 12) then some ((-4), M) else (if ¬ (M.1 12) = 0 then ((fX10_readsItem n M 0).bind fun y4 => (if ¬ y4.1 = 0 then lX10_reads_20 n m y4.2 else some (M.1 12, y4.2))) else ((fX10_readsItem n M 1).bind fun y9 => (if ¬ y9.1 = 0 then lX10_reads_20 n m y9.2 else some (M.1 12, y9.2)))))
theorem llX10_reads_20 {d n : Nat} : ∀ (m : Nat) (h : pH) (M : tM) (res : Int32 × tM), lX10_reads_20 n m M = some res → isM h M → Ev (d + 7) mX10_reads (h, 20, [(0, .ref 73)], []) (fun r h1 => r = some (.int res.1) ∧ isM h1 res.2 ∧ fr [(73, 89)] h h1)
  | 0, h, M, res, H, _ => by cases H
  | m + 1, h, M, res, H, xM => by
    have H : (if (M.1 11) ≤ (M.1 12) then some ((-4), M) else (if ¬ (M.1 12) = 0 then ((fX10_readsItem n M 0).bind fun y4 => (if ¬ y4.1 = 0 then lX10_reads_20 n m y4.2 else some (M.1 12, y4.2))) else ((fX10_readsItem n M 1).bind fun y9 => (if ¬ y9.1 = 0 then lX10_reads_20 n m y9.2 else some (M.1 12, y9.2))))) = some res := H
    refine Ev.go 1 (s' := (h, 21, [(0, .ref 73)], [.ref 73])) rfl ?_
    refine Ev.get rfl (by decide) xM.1 rfl ?_
    refine Ev.go 1 (s' := (h, 25, [(0, .ref 73)], [.ref 73, .int (M.1 12)])) rfl ?_
    refine Ev.get rfl (by decide) xM.1 rfl ?_
    refine Ev.if2 rfl (fun c1 => ?_) (fun c1 => ?_)
    · have c1 : (M.1 11) ≤ (M.1 12) := c1
      rw [if_pos c1] at H
      refine Ev.go 1 (s' := (h, 59, [(0, .ref 73)], [.int ((-4))])) rfl ?_
      have H := Option.some.inj H
      subst H
      exact Ev.ret rfl rfl (p_retZ rfl) ⟨rfl, xM, (fun k _ => rfl)⟩
    · have c1 : ¬ ((M.1 11) ≤ (M.1 12)) := c1
      rw [if_neg c1] at H
      refine Ev.go 1 (s' := (h, 32, [(0, .ref 73)], [.ref 73])) rfl ?_
      refine Ev.get rfl (by decide) xM.1 rfl ?_
      refine Ev.go 3 (s' := (h, 38, [(0, .ref 73), (1, .int (M.1 12))], [.int (M.1 12), .ref 73])) rfl ?_
      refine Ev.if1 rfl (fun c2 => ?_) (fun c2 => ?_)
      · have c2 : ¬ (M.1 12) = 0 := c2
        rw [if_pos c2] at H
        refine Ev.go 1 (s' := (h, 46, [(0, .ref 73), (1, .int (M.1 12))], [.int 0, .ref 73])) rfl ?_
        obtain ⟨y4, e3, H⟩ := Option.bind_eq_some_iff.mp H
        refine Ev.call rfl rfl rfl (p_argsV (by decide) xM.1 (Nat.le_of_ble_eq_true rfl)) rfl (Nat.le_of_ble_eq_true rfl) ((spX10_readsItem xM 0 e3).mono (fun r h5 q6 => ?_))
        obtain ⟨rfl, q6_M, q6_f⟩ := q6
        refine Ev.if1 rfl (fun c7 => ?_) (fun c7 => ?_)
        · have c7 : ¬ y4.1 = 0 := c7
          rw [if_pos c7] at H
          refine Ev.go 1 (s' := (h5, 20, [(0, .ref 73), (1, .int (M.1 12))], [])) rfl ?_
          refine Ev.live rfl (lv' := [(0, .ref 73)]) rfl ?_
          refine (llX10_reads_20 m h5 y4.2 _ H q6_M).mono (fun r h9 q9 => ?_)
          obtain ⟨q9r, q9_0, q9f⟩ := q9
          exact ⟨q9r, q9_0, fun k hk => (q9f k hk).trans (by rw [q6_f k (by have := hk; simp at this ⊢; omega)])⟩
        · have c7 : ¬ (¬ y4.1 = 0) := c7
          rw [if_neg c7] at H
          refine Ev.go 1 (s' := (h5, 53, [(0, .ref 73), (1, .int (M.1 12))], [.int (M.1 12)])) rfl ?_
          have H := Option.some.inj H
          subst H
          exact Ev.ret rfl rfl (p_retZ rfl) ⟨rfl, q6_M, (fun k hk => by rw [q6_f k (by have := hk; simp at this ⊢; omega)])⟩
      · have c2 : ¬ (¬ (M.1 12) = 0) := c2
        rw [if_neg c2] at H
        refine Ev.go 2 (s' := (h, 46, [(0, .ref 73), (1, .int (M.1 12))], [.int 1, .ref 73])) rfl ?_
        obtain ⟨y9, e8, H⟩ := Option.bind_eq_some_iff.mp H
        refine Ev.call rfl rfl rfl (p_argsV (by decide) xM.1 (Nat.le_of_ble_eq_true rfl)) rfl (Nat.le_of_ble_eq_true rfl) ((spX10_readsItem xM 1 e8).mono (fun r h10 q11 => ?_))
        obtain ⟨rfl, q11_M, q11_f⟩ := q11
        refine Ev.if1 rfl (fun c12 => ?_) (fun c12 => ?_)
        · have c12 : ¬ y9.1 = 0 := c12
          rw [if_pos c12] at H
          refine Ev.go 1 (s' := (h10, 20, [(0, .ref 73), (1, .int (M.1 12))], [])) rfl ?_
          refine Ev.live rfl (lv' := [(0, .ref 73)]) rfl ?_
          refine (llX10_reads_20 m h10 y9.2 _ H q11_M).mono (fun r h9 q9 => ?_)
          obtain ⟨q9r, q9_0, q9f⟩ := q9
          exact ⟨q9r, q9_0, fun k hk => (q9f k hk).trans (by rw [q11_f k (by have := hk; simp at this ⊢; omega)])⟩
        · have c12 : ¬ (¬ y9.1 = 0) := c12
          rw [if_neg c12] at H
          refine Ev.go 1 (s' := (h10, 53, [(0, .ref 73), (1, .int (M.1 12))], [.int (M.1 12)])) rfl ?_
          have H := Option.some.inj H
          subst H
          exact Ev.ret rfl rfl (p_retZ rfl) ⟨rfl, q11_M, (fun k hk => by rw [q11_f k (by have := hk; simp at this ⊢; omega)])⟩
def fX10_reads (n : Nat) (M : tM) : Option (Int32 × tM) := lX10_reads_20 n n (va_up (va_up (va_up (va_up M.1 0 0) 1 0) 2 0) 12 0, M.2.1, M.2.2)
theorem spX10_reads {d n : Nat} {h : pH} {M : tM} (xM : isM h M) {res : Int32 × tM} (H : fX10_reads n M = some res) : Ev (d + 7) mX10_reads (h, 0, [(0, .ref 73)], []) (fun r h1 => r = some (.int res.1) ∧ isM h1 res.2 ∧ fr [(73, 89)] h h1) := by
  unfold fX10_reads at H
  refine Ev.go 2 (s' := (h, 2, [(0, .ref 73)], [.int 0, .ref 73])) rfl ?_
  refine Ev.put rfl rfl (by decide) xM.1 (Nat.le_of_ble_eq_true rfl) rfl rfl (fs' := [.int (M.1 0), .int (M.1 1), .int (M.1 2), .ref 74, .ref 75, .ref 76, .ref 77, .int (M.1 7), .ref 78, .int (M.1 9), .ref 79, .int (M.1 11), .int 0, .int (M.1 13), .ref 80, .int (M.1 15), .int (M.1 16), .ref 81, .ref 82, .ref 83, .int (M.1 20), .int (M.1 21), .ref 84, .ref 85, .ref 86, .ref 87, .ref 88]) rfl ?_
  refine Ev.go 2 (s' := ((pu h 73 (eO 9 [.int (M.1 0), .int (M.1 1), .int (M.1 2), .ref 74, .ref 75, .ref 76, .ref 77, .int (M.1 7), .ref 78, .int (M.1 9), .ref 79, .int (M.1 11), .int 0, .int (M.1 13), .ref 80, .int (M.1 15), .int (M.1 16), .ref 81, .ref 82, .ref 83, .int (M.1 20), .int (M.1 21), .ref 84, .ref 85, .ref 86, .ref 87, .ref 88])), 7, [(0, .ref 73)], [.int 0, .ref 73])) rfl ?_
  refine Ev.put rfl rfl (by decide) pu_s (Nat.le_of_ble_eq_true rfl) rfl rfl (fs' := [.int 0, .int (M.1 1), .int (M.1 2), .ref 74, .ref 75, .ref 76, .ref 77, .int (M.1 7), .ref 78, .int (M.1 9), .ref 79, .int (M.1 11), .int 0, .int (M.1 13), .ref 80, .int (M.1 15), .int (M.1 16), .ref 81, .ref 82, .ref 83, .int (M.1 20), .int (M.1 21), .ref 84, .ref 85, .ref 86, .ref 87, .ref 88]) rfl ?_
  refine Ev.go 2 (s' := ((pu (pu h 73 (eO 9 [.int (M.1 0), .int (M.1 1), .int (M.1 2), .ref 74, .ref 75, .ref 76, .ref 77, .int (M.1 7), .ref 78, .int (M.1 9), .ref 79, .int (M.1 11), .int 0, .int (M.1 13), .ref 80, .int (M.1 15), .int (M.1 16), .ref 81, .ref 82, .ref 83, .int (M.1 20), .int (M.1 21), .ref 84, .ref 85, .ref 86, .ref 87, .ref 88])) 73 (eO 9 [.int 0, .int (M.1 1), .int (M.1 2), .ref 74, .ref 75, .ref 76, .ref 77, .int (M.1 7), .ref 78, .int (M.1 9), .ref 79, .int (M.1 11), .int 0, .int (M.1 13), .ref 80, .int (M.1 15), .int (M.1 16), .ref 81, .ref 82, .ref 83, .int (M.1 20), .int (M.1 21), .ref 84, .ref 85, .ref 86, .ref 87, .ref 88])), 12, [(0, .ref 73)], [.int 0, .ref 73])) rfl ?_
  refine Ev.put rfl rfl (by decide) pu_s (Nat.le_of_ble_eq_true rfl) rfl rfl (fs' := [.int 0, .int 0, .int (M.1 2), .ref 74, .ref 75, .ref 76, .ref 77, .int (M.1 7), .ref 78, .int (M.1 9), .ref 79, .int (M.1 11), .int 0, .int (M.1 13), .ref 80, .int (M.1 15), .int (M.1 16), .ref 81, .ref 82, .ref 83, .int (M.1 20), .int (M.1 21), .ref 84, .ref 85, .ref 86, .ref 87, .ref 88]) rfl ?_
  refine Ev.go 2 (s' := ((pu (pu (pu h 73 (eO 9 [.int (M.1 0), .int (M.1 1), .int (M.1 2), .ref 74, .ref 75, .ref 76, .ref 77, .int (M.1 7), .ref 78, .int (M.1 9), .ref 79, .int (M.1 11), .int 0, .int (M.1 13), .ref 80, .int (M.1 15), .int (M.1 16), .ref 81, .ref 82, .ref 83, .int (M.1 20), .int (M.1 21), .ref 84, .ref 85, .ref 86, .ref 87, .ref 88])) 73 (eO 9 [.int 0, .int (M.1 1), .int (M.1 2), .ref 74, .ref 75, .ref 76, .ref 77, .int (M.1 7), .ref 78, .int (M.1 9), .ref 79, .int (M.1 11), .int 0, .int (M.1 13), .ref 80, .int (M.1 15), .int (M.1 16), .ref 81, .ref 82, .ref 83, .int (M.1 20), .int (M.1 21), .ref 84, .ref 85, .ref 86, .ref 87, .ref 88])) 73 (eO 9 [.int 0, .int 0, .int (M.1 2), .ref 74, .ref 75, .ref 76, .ref 77, .int (M.1 7), .ref 78, .int (M.1 9), .ref 79, .int (M.1 11), .int 0, .int (M.1 13), .ref 80, .int (M.1 15), .int (M.1 16), .ref 81, .ref 82, .ref 83, .int (M.1 20), .int (M.1 21), .ref 84, .ref 85, .ref 86, .ref 87, .ref 88])), 17, [(0, .ref 73)], [.int 0, .ref 73])) rfl ?_
  refine Ev.put rfl rfl (by decide) pu_s (Nat.le_of_ble_eq_true rfl) rfl rfl (fs' := [.int 0, .int 0, .int 0, .ref 74, .ref 75, .ref 76, .ref 77, .int (M.1 7), .ref 78, .int (M.1 9), .ref 79, .int (M.1 11), .int 0, .int (M.1 13), .ref 80, .int (M.1 15), .int (M.1 16), .ref 81, .ref 82, .ref 83, .int (M.1 20), .int (M.1 21), .ref 84, .ref 85, .ref 86, .ref 87, .ref 88]) rfl ?_
  refine Ev.live rfl (lv' := [(0, .ref 73)]) rfl ?_
  refine (llX10_reads_20 n (pu (pu (pu (pu h 73 (eO 9 [.int (M.1 0), .int (M.1 1), .int (M.1 2), .ref 74, .ref 75, .ref 76, .ref 77, .int (M.1 7), .ref 78, .int (M.1 9), .ref 79, .int (M.1 11), .int 0, .int (M.1 13), .ref 80, .int (M.1 15), .int (M.1 16), .ref 81, .ref 82, .ref 83, .int (M.1 20), .int (M.1 21), .ref 84, .ref 85, .ref 86, .ref 87, .ref 88])) 73 (eO 9 [.int 0, .int (M.1 1), .int (M.1 2), .ref 74, .ref 75, .ref 76, .ref 77, .int (M.1 7), .ref 78, .int (M.1 9), .ref 79, .int (M.1 11), .int 0, .int (M.1 13), .ref 80, .int (M.1 15), .int (M.1 16), .ref 81, .ref 82, .ref 83, .int (M.1 20), .int (M.1 21), .ref 84, .ref 85, .ref 86, .ref 87, .ref 88])) 73 (eO 9 [.int 0, .int 0, .int (M.1 2), .ref 74, .ref 75, .ref 76, .ref 77, .int (M.1 7), .ref 78, .int (M.1 9), .ref 79, .int (M.1 11), .int 0, .int (M.1 13), .ref 80, .int (M.1 15), .int (M.1 16), .ref 81, .ref 82, .ref 83, .int (M.1 20), .int (M.1 21), .ref 84, .ref 85, .ref 86, .ref 87, .ref 88])) 73 (eO 9 [.int 0, .int 0, .int 0, .ref 74, .ref 75, .ref 76, .ref 77, .int (M.1 7), .ref 78, .int (M.1 9), .ref 79, .int (M.1 11), .int 0, .int (M.1 13), .ref 80, .int (M.1 15), .int (M.1 16), .ref 81, .ref 82, .ref 83, .int (M.1 20), .int (M.1 21), .ref 84, .ref 85, .ref 86, .ref 87, .ref 88])) (va_up (va_up (va_up (va_up M.1 0 0) 1 0) 2 0) 12 0, M.2.1, M.2.2) _ H ⟨pu_s, (pu_n (by decide) (pu_n (by decide) (pu_n (by decide) (pu_n (by decide) xM.2.1)))), (pu_n (by decide) (pu_n (by decide) (pu_n (by decide) (pu_n (by decide) xM.2.2.1)))), (pu_n (by decide) (pu_n (by decide) (pu_n (by decide) (pu_n (by decide) xM.2.2.2.1)))), (pu_n (by decide) (pu_n (by decide) (pu_n (by decide) (pu_n (by decide) xM.2.2.2.2.1)))), (pu_n (by decide) (pu_n (by decide) (pu_n (by decide) (pu_n (by decide) xM.2.2.2.2.2.1)))), (pu_n (by decide) (pu_n (by decide) (pu_n (by decide) (pu_n (by decide) xM.2.2.2.2.2.2.1)))), (pu_n (by decide) (pu_n (by decide) (pu_n (by decide) (pu_n (by decide) xM.2.2.2.2.2.2.2.1)))), (pu_n (by decide) (pu_n (by decide) (pu_n (by decide) (pu_n (by decide) xM.2.2.2.2.2.2.2.2.1)))), (pu_n (by decide) (pu_n (by decide) (pu_n (by decide) (pu_n (by decide) xM.2.2.2.2.2.2.2.2.2.1)))), (pu_n (by decide) (pu_n (by decide) (pu_n (by decide) (pu_n (by decide) xM.2.2.2.2.2.2.2.2.2.2.1)))), (pu_n (by decide) (pu_n (by decide) (pu_n (by decide) (pu_n (by decide) xM.2.2.2.2.2.2.2.2.2.2.2.1)))), (pu_n (by decide) (pu_n (by decide) (pu_n (by decide) (pu_n (by decide) xM.2.2.2.2.2.2.2.2.2.2.2.2.1)))), (pu_n (by decide) (pu_n (by decide) (pu_n (by decide) (pu_n (by decide) xM.2.2.2.2.2.2.2.2.2.2.2.2.2.1)))), (pu_n (by decide) (pu_n (by decide) (pu_n (by decide) (pu_n (by decide) xM.2.2.2.2.2.2.2.2.2.2.2.2.2.2.1)))), (pu_n (by decide) (pu_n (by decide) (pu_n (by decide) (pu_n (by decide) xM.2.2.2.2.2.2.2.2.2.2.2.2.2.2.2))))⟩).mono (fun r h9 q9 => ?_)
  obtain ⟨q9r, q9_0, q9f⟩ := q9
  exact ⟨q9r, q9_0, fun k hk => (q9f k hk).trans (by rw [pu_x (show k ≠ 73 from fun e => by have := hk; simp at this; omega)]; rw [pu_x (show k ≠ 73 from fun e => by have := hk; simp at this; omega)]; rw [pu_x (show k ≠ 73 from fun e => by have := hk; simp at this; omega)]; rw [pu_x (show k ≠ 73 from fun e => by have := hk; simp at this; omega)])⟩
def fX10_fault (n : Nat) (M : tM) : Option (Int32 × tM) := ((fX10_lays_80 n M 0).bind fun y2 => ((fX10_reads n y2).bind fun y6 => ((fX10_takes_80 n y6.2 0).bind fun y10 => some (y6.1, y10))))
theorem spX10_fault {d n : Nat} {h : pH} {M : tM} (xM : isM h M) {res : Int32 × tM} (H : fX10_fault n M = some res) : Ev (d + 8) mX10_fault (h, 0, [(0, .ref 73)], []) (fun r h1 => r = some (.int res.1) ∧ isM h1 res.2 ∧ fr [(73, 89)] h h1) := by
  unfold fX10_fault at H
  refine Ev.go 2 (s' := (h, 2, [(0, .ref 73)], [.ref 73, .ref 73])) rfl ?_
  refine Ev.get rfl (by decide) xM.1 rfl ?_
  refine Ev.go 1 (s' := (h, 6, [(0, .ref 73)], [.int 0, .ref 80, .ref 73])) rfl ?_
  obtain ⟨y2, e1, H⟩ := Option.bind_eq_some_iff.mp H
  refine Ev.call rfl rfl rfl (p_argsV (by decide) xM.1 (Nat.le_of_ble_eq_true rfl)) rfl (Nat.le_of_ble_eq_true rfl) ((spX10_lays_80 xM 0 e1).mono (fun r h3 q4 => ?_))
  obtain ⟨rfl, q4_M, q4_f⟩ := q4
  refine Ev.go 1 (s' := (h3, 10, [(0, .ref 73)], [.ref 73])) rfl ?_
  obtain ⟨y6, e5, H⟩ := Option.bind_eq_some_iff.mp H
  refine Ev.call rfl rfl rfl (p_argsV (by decide) q4_M.1 (Nat.le_of_ble_eq_true rfl)) rfl (Nat.le_of_ble_eq_true rfl) ((spX10_reads q4_M  e5).mono (fun r h7 q8 => ?_))
  obtain ⟨rfl, q8_M, q8_f⟩ := q8
  refine Ev.go 3 (s' := (h7, 16, [(0, .ref 73), (1, .int y6.1)], [.ref 73, .ref 73])) rfl ?_
  refine Ev.get rfl (by decide) q8_M.1 rfl ?_
  refine Ev.go 1 (s' := (h7, 20, [(0, .ref 73), (1, .int y6.1)], [.int 0, .ref 80, .ref 73])) rfl ?_
  obtain ⟨y10, e9, H⟩ := Option.bind_eq_some_iff.mp H
  refine Ev.call rfl rfl rfl (p_argsV (by decide) q8_M.1 (Nat.le_of_ble_eq_true rfl)) rfl (Nat.le_of_ble_eq_true rfl) ((spX10_takes_80 q8_M 0 e9).mono (fun r h11 q12 => ?_))
  obtain ⟨rfl, q12_M, q12_f⟩ := q12
  refine Ev.go 1 (s' := (h11, 24, [(0, .ref 73), (1, .int y6.1)], [.int y6.1])) rfl ?_
  have H := Option.some.inj H
  subst H
  exact Ev.ret rfl rfl (p_retZ rfl) ⟨rfl, q12_M, (fun k hk => by rw [q12_f k (by have := hk; simp at this ⊢; omega)]; rw [q8_f k (by have := hk; simp at this ⊢; omega)]; rw [q4_f k (by have := hk; simp at this ⊢; omega)])⟩
def fX10_many (n : Nat) (set : Int32) : Option (Int32) := ((fX10_bits n set).bind fun y2 => some y2)
theorem spX10_many {d n : Nat} {h : pH}  (set : Int32) {res : Int32} (H : fX10_many n set = some res) : Ev (d + 1) mX10_many (h, 0, [(0, .int set)], []) (fun r h1 => r = some (.int res) ∧ h1 = h) := by
  unfold fX10_many at H
  refine Ev.go 1 (s' := (h, 1, [(0, .int set)], [.int set])) rfl ?_
  obtain ⟨y2, e1, H⟩ := Option.bind_eq_some_iff.mp H
  refine Ev.callE rfl rfl rfl rfl rfl (Nat.le_of_ble_eq_true rfl) (spX10_bits  set e1) ?_
  have H := Option.some.inj H
  subst H
  exact Ev.ret rfl rfl (p_retZ rfl) ⟨rfl, rfl⟩
def fX10_lay (n : Nat) (M : tM) : Option (Int32 × tM) := ((fX10_lays_80 n M 0).bind fun y2 => ((fX10_reads n y2).bind fun y6 => (if ¬ y6.1 = (-4) then ((fX10_takes_80 n y6.2 0).bind fun y11 => some ((-2), y11)) else (if ¬ (y6.2.1 1) = 0 then ((fX10_many n (y6.2.1 0)).bind fun y16 => some (y16, (va_up (va_up (va_up y6.2.1 7 0) 9 0) 15 0, y6.2.2.1, y6.2.2.2))) else ((fX10_takes_80 n y6.2 0).bind fun y18 => some ((-2), y18))))))
theorem spX10_lay {d n : Nat} {h : pH} {M : tM} (xM : isM h M) {res : Int32 × tM} (H : fX10_lay n M = some res) : Ev (d + 8) mX10_lay (h, 0, [(0, .ref 73)], []) (fun r h1 => r = some (.int res.1) ∧ isM h1 res.2 ∧ fr [(73, 89)] h h1) := by
  unfold fX10_lay at H
  refine Ev.go 2 (s' := (h, 2, [(0, .ref 73)], [.ref 73, .ref 73])) rfl ?_
  refine Ev.get rfl (by decide) xM.1 rfl ?_
  refine Ev.go 1 (s' := (h, 6, [(0, .ref 73)], [.int 0, .ref 80, .ref 73])) rfl ?_
  obtain ⟨y2, e1, H⟩ := Option.bind_eq_some_iff.mp H
  refine Ev.call rfl rfl rfl (p_argsV (by decide) xM.1 (Nat.le_of_ble_eq_true rfl)) rfl (Nat.le_of_ble_eq_true rfl) ((spX10_lays_80 xM 0 e1).mono (fun r h3 q4 => ?_))
  obtain ⟨rfl, q4_M, q4_f⟩ := q4
  refine Ev.go 1 (s' := (h3, 10, [(0, .ref 73)], [.ref 73])) rfl ?_
  obtain ⟨y6, e5, H⟩ := Option.bind_eq_some_iff.mp H
  refine Ev.call rfl rfl rfl (p_argsV (by decide) q4_M.1 (Nat.le_of_ble_eq_true rfl)) rfl (Nat.le_of_ble_eq_true rfl) ((spX10_reads q4_M  e5).mono (fun r h7 q8 => ?_))
  obtain ⟨rfl, q8_M, q8_f⟩ := q8
  refine Ev.go 1 (s' := (h7, 15, [(0, .ref 73)], [.int ((-4)), .int y6.1])) rfl ?_
  refine Ev.if2 rfl (fun c9 => ?_) (fun c9 => ?_)
  · have c9 : ¬ y6.1 = (-4) := c9
    rw [if_pos c9] at H
    refine Ev.go 2 (s' := (h7, 27, [(0, .ref 73)], [.ref 73, .ref 73])) rfl ?_
    refine Ev.get rfl (by decide) q8_M.1 rfl ?_
    refine Ev.go 1 (s' := (h7, 31, [(0, .ref 73)], [.int 0, .ref 80, .ref 73])) rfl ?_
    obtain ⟨y11, e10, H⟩ := Option.bind_eq_some_iff.mp H
    refine Ev.call rfl rfl rfl (p_argsV (by decide) q8_M.1 (Nat.le_of_ble_eq_true rfl)) rfl (Nat.le_of_ble_eq_true rfl) ((spX10_takes_80 q8_M 0 e10).mono (fun r h12 q13 => ?_))
    obtain ⟨rfl, q13_M, q13_f⟩ := q13
    refine Ev.go 1 (s' := (h12, 36, [(0, .ref 73)], [.int ((-2))])) rfl ?_
    have H := Option.some.inj H
    subst H
    exact Ev.ret rfl rfl (p_retZ rfl) ⟨rfl, q13_M, (fun k hk => by rw [q13_f k (by have := hk; simp at this ⊢; omega)]; rw [q8_f k (by have := hk; simp at this ⊢; omega)]; rw [q4_f k (by have := hk; simp at this ⊢; omega)])⟩
  · have c9 : ¬ (¬ y6.1 = (-4)) := c9
    rw [if_neg c9] at H
    refine Ev.go 1 (s' := (h7, 19, [(0, .ref 73)], [.ref 73])) rfl ?_
    refine Ev.get rfl (by decide) q8_M.1 rfl ?_
    refine Ev.if1 rfl (fun c14 => ?_) (fun c14 => ?_)
    · have c14 : ¬ (y6.2.1 1) = 0 := c14
      rw [if_pos c14] at H
      refine Ev.go 2 (s' := (h7, 39, [(0, .ref 73)], [.int 0, .ref 73])) rfl ?_
      refine Ev.put rfl rfl (by decide) q8_M.1 (Nat.le_of_ble_eq_true rfl) rfl rfl (fs' := [.int (y6.2.1 0), .int (y6.2.1 1), .int (y6.2.1 2), .ref 74, .ref 75, .ref 76, .ref 77, .int (y6.2.1 7), .ref 78, .int (y6.2.1 9), .ref 79, .int (y6.2.1 11), .int (y6.2.1 12), .int (y6.2.1 13), .ref 80, .int 0, .int (y6.2.1 16), .ref 81, .ref 82, .ref 83, .int (y6.2.1 20), .int (y6.2.1 21), .ref 84, .ref 85, .ref 86, .ref 87, .ref 88]) rfl ?_
      refine Ev.go 2 (s' := ((pu h7 73 (eO 9 [.int (y6.2.1 0), .int (y6.2.1 1), .int (y6.2.1 2), .ref 74, .ref 75, .ref 76, .ref 77, .int (y6.2.1 7), .ref 78, .int (y6.2.1 9), .ref 79, .int (y6.2.1 11), .int (y6.2.1 12), .int (y6.2.1 13), .ref 80, .int 0, .int (y6.2.1 16), .ref 81, .ref 82, .ref 83, .int (y6.2.1 20), .int (y6.2.1 21), .ref 84, .ref 85, .ref 86, .ref 87, .ref 88])), 44, [(0, .ref 73)], [.int 0, .ref 73])) rfl ?_
      refine Ev.put rfl rfl (by decide) pu_s (Nat.le_of_ble_eq_true rfl) rfl rfl (fs' := [.int (y6.2.1 0), .int (y6.2.1 1), .int (y6.2.1 2), .ref 74, .ref 75, .ref 76, .ref 77, .int 0, .ref 78, .int (y6.2.1 9), .ref 79, .int (y6.2.1 11), .int (y6.2.1 12), .int (y6.2.1 13), .ref 80, .int 0, .int (y6.2.1 16), .ref 81, .ref 82, .ref 83, .int (y6.2.1 20), .int (y6.2.1 21), .ref 84, .ref 85, .ref 86, .ref 87, .ref 88]) rfl ?_
      refine Ev.go 2 (s' := ((pu (pu h7 73 (eO 9 [.int (y6.2.1 0), .int (y6.2.1 1), .int (y6.2.1 2), .ref 74, .ref 75, .ref 76, .ref 77, .int (y6.2.1 7), .ref 78, .int (y6.2.1 9), .ref 79, .int (y6.2.1 11), .int (y6.2.1 12), .int (y6.2.1 13), .ref 80, .int 0, .int (y6.2.1 16), .ref 81, .ref 82, .ref 83, .int (y6.2.1 20), .int (y6.2.1 21), .ref 84, .ref 85, .ref 86, .ref 87, .ref 88])) 73 (eO 9 [.int (y6.2.1 0), .int (y6.2.1 1), .int (y6.2.1 2), .ref 74, .ref 75, .ref 76, .ref 77, .int 0, .ref 78, .int (y6.2.1 9), .ref 79, .int (y6.2.1 11), .int (y6.2.1 12), .int (y6.2.1 13), .ref 80, .int 0, .int (y6.2.1 16), .ref 81, .ref 82, .ref 83, .int (y6.2.1 20), .int (y6.2.1 21), .ref 84, .ref 85, .ref 86, .ref 87, .ref 88])), 49, [(0, .ref 73)], [.int 0, .ref 73])) rfl ?_
      refine Ev.put rfl rfl (by decide) pu_s (Nat.le_of_ble_eq_true rfl) rfl rfl (fs' := [.int (y6.2.1 0), .int (y6.2.1 1), .int (y6.2.1 2), .ref 74, .ref 75, .ref 76, .ref 77, .int 0, .ref 78, .int 0, .ref 79, .int (y6.2.1 11), .int (y6.2.1 12), .int (y6.2.1 13), .ref 80, .int 0, .int (y6.2.1 16), .ref 81, .ref 82, .ref 83, .int (y6.2.1 20), .int (y6.2.1 21), .ref 84, .ref 85, .ref 86, .ref 87, .ref 88]) rfl ?_
      refine Ev.go 1 (s' := ((pu (pu (pu h7 73 (eO 9 [.int (y6.2.1 0), .int (y6.2.1 1), .int (y6.2.1 2), .ref 74, .ref 75, .ref 76, .ref 77, .int (y6.2.1 7), .ref 78, .int (y6.2.1 9), .ref 79, .int (y6.2.1 11), .int (y6.2.1 12), .int (y6.2.1 13), .ref 80, .int 0, .int (y6.2.1 16), .ref 81, .ref 82, .ref 83, .int (y6.2.1 20), .int (y6.2.1 21), .ref 84, .ref 85, .ref 86, .ref 87, .ref 88])) 73 (eO 9 [.int (y6.2.1 0), .int (y6.2.1 1), .int (y6.2.1 2), .ref 74, .ref 75, .ref 76, .ref 77, .int 0, .ref 78, .int (y6.2.1 9), .ref 79, .int (y6.2.1 11), .int (y6.2.1 12), .int (y6.2.1 13), .ref 80, .int 0, .int (y6.2.1 16), .ref 81, .ref 82, .ref 83, .int (y6.2.1 20), .int (y6.2.1 21), .ref 84, .ref 85, .ref 86, .ref 87, .ref 88])) 73 (eO 9 [.int (y6.2.1 0), .int (y6.2.1 1), .int (y6.2.1 2), .ref 74, .ref 75, .ref 76, .ref 77, .int 0, .ref 78, .int 0, .ref 79, .int (y6.2.1 11), .int (y6.2.1 12), .int (y6.2.1 13), .ref 80, .int 0, .int (y6.2.1 16), .ref 81, .ref 82, .ref 83, .int (y6.2.1 20), .int (y6.2.1 21), .ref 84, .ref 85, .ref 86, .ref 87, .ref 88])), 53, [(0, .ref 73)], [.ref 73])) rfl ?_
      refine Ev.get rfl (by decide) pu_s rfl ?_
      obtain ⟨y16, e15, H⟩ := Option.bind_eq_some_iff.mp H
      refine Ev.callE rfl rfl rfl rfl rfl (Nat.le_of_ble_eq_true rfl) (spX10_many  (y6.2.1 0) e15) ?_
      have H := Option.some.inj H
      subst H
      exact Ev.ret rfl rfl (p_retZ rfl) ⟨rfl, ⟨pu_s, (pu_n (by decide) (pu_n (by decide) (pu_n (by decide) q8_M.2.1))), (pu_n (by decide) (pu_n (by decide) (pu_n (by decide) q8_M.2.2.1))), (pu_n (by decide) (pu_n (by decide) (pu_n (by decide) q8_M.2.2.2.1))), (pu_n (by decide) (pu_n (by decide) (pu_n (by decide) q8_M.2.2.2.2.1))), (pu_n (by decide) (pu_n (by decide) (pu_n (by decide) q8_M.2.2.2.2.2.1))), (pu_n (by decide) (pu_n (by decide) (pu_n (by decide) q8_M.2.2.2.2.2.2.1))), (pu_n (by decide) (pu_n (by decide) (pu_n (by decide) q8_M.2.2.2.2.2.2.2.1))), (pu_n (by decide) (pu_n (by decide) (pu_n (by decide) q8_M.2.2.2.2.2.2.2.2.1))), (pu_n (by decide) (pu_n (by decide) (pu_n (by decide) q8_M.2.2.2.2.2.2.2.2.2.1))), (pu_n (by decide) (pu_n (by decide) (pu_n (by decide) q8_M.2.2.2.2.2.2.2.2.2.2.1))), (pu_n (by decide) (pu_n (by decide) (pu_n (by decide) q8_M.2.2.2.2.2.2.2.2.2.2.2.1))), (pu_n (by decide) (pu_n (by decide) (pu_n (by decide) q8_M.2.2.2.2.2.2.2.2.2.2.2.2.1))), (pu_n (by decide) (pu_n (by decide) (pu_n (by decide) q8_M.2.2.2.2.2.2.2.2.2.2.2.2.2.1))), (pu_n (by decide) (pu_n (by decide) (pu_n (by decide) q8_M.2.2.2.2.2.2.2.2.2.2.2.2.2.2.1))), (pu_n (by decide) (pu_n (by decide) (pu_n (by decide) q8_M.2.2.2.2.2.2.2.2.2.2.2.2.2.2.2)))⟩, (fun k hk => by rw [pu_x (show k ≠ 73 from fun e => by have := hk; simp at this; omega)]; rw [pu_x (show k ≠ 73 from fun e => by have := hk; simp at this; omega)]; rw [pu_x (show k ≠ 73 from fun e => by have := hk; simp at this; omega)]; rw [q8_f k (by have := hk; simp at this ⊢; omega)]; rw [q4_f k (by have := hk; simp at this ⊢; omega)])⟩
    · have c14 : ¬ (¬ (y6.2.1 1) = 0) := c14
      rw [if_neg c14] at H
      refine Ev.go 2 (s' := (h7, 27, [(0, .ref 73)], [.ref 73, .ref 73])) rfl ?_
      refine Ev.get rfl (by decide) q8_M.1 rfl ?_
      refine Ev.go 1 (s' := (h7, 31, [(0, .ref 73)], [.int 0, .ref 80, .ref 73])) rfl ?_
      obtain ⟨y18, e17, H⟩ := Option.bind_eq_some_iff.mp H
      refine Ev.call rfl rfl rfl (p_argsV (by decide) q8_M.1 (Nat.le_of_ble_eq_true rfl)) rfl (Nat.le_of_ble_eq_true rfl) ((spX10_takes_80 q8_M 0 e17).mono (fun r h19 q20 => ?_))
      obtain ⟨rfl, q20_M, q20_f⟩ := q20
      refine Ev.go 1 (s' := (h19, 36, [(0, .ref 73)], [.int ((-2))])) rfl ?_
      have H := Option.some.inj H
      subst H
      exact Ev.ret rfl rfl (p_retZ rfl) ⟨rfl, q20_M, (fun k hk => by rw [q20_f k (by have := hk; simp at this ⊢; omega)]; rw [q8_f k (by have := hk; simp at this ⊢; omega)]; rw [q4_f k (by have := hk; simp at this ⊢; omega)])⟩
def fX10_axisBy (c : Int32) : Option (Int32) := (if ¬ c = 47 then (if ¬ c = 58 then (if ¬ c = 43 then (if ¬ c = 126 then some (-4) else some 3) else some 2) else some 1) else some 0)
theorem spX10_axisBy {d : Nat} {h : pH}  (c : Int32) {res : Int32} (H : fX10_axisBy c = some res) : Ev d mX10_axisBy (h, 0, [(0, .int c)], []) (fun r h1 => r = some (.int res) ∧ h1 = h) := by
  unfold fX10_axisBy at H
  refine Ev.go 2 (s' := (h, 3, [(0, .int c)], [.int 47, .int c])) rfl ?_
  refine Ev.if2 rfl (fun c1 => ?_) (fun c1 => ?_)
  · have c1 : ¬ c = 47 := c1
    rw [if_pos c1] at H
    refine Ev.go 2 (s' := (h, 13, [(0, .int c)], [.int 58, .int c])) rfl ?_
    refine Ev.if2 rfl (fun c2 => ?_) (fun c2 => ?_)
    · have c2 : ¬ c = 58 := c2
      rw [if_pos c2] at H
      refine Ev.go 2 (s' := (h, 23, [(0, .int c)], [.int 43, .int c])) rfl ?_
      refine Ev.if2 rfl (fun c3 => ?_) (fun c3 => ?_)
      · have c3 : ¬ c = 43 := c3
        rw [if_pos c3] at H
        refine Ev.go 2 (s' := (h, 33, [(0, .int c)], [.int 126, .int c])) rfl ?_
        refine Ev.if2 rfl (fun c4 => ?_) (fun c4 => ?_)
        · have c4 : ¬ c = 126 := c4
          rw [if_pos c4] at H
          refine Ev.go 1 (s' := (h, 42, [(0, .int c)], [.int ((-4))])) rfl ?_
          have H := Option.some.inj H
          subst H
          exact Ev.ret rfl rfl (p_retZ rfl) ⟨rfl, rfl⟩
        · have c4 : ¬ (¬ c = 126) := c4
          rw [if_neg c4] at H
          refine Ev.go 2 (s' := (h, 42, [(0, .int c)], [.int 3])) rfl ?_
          have H := Option.some.inj H
          subst H
          exact Ev.ret rfl rfl (p_retZ rfl) ⟨rfl, rfl⟩
      · have c3 : ¬ (¬ c = 43) := c3
        rw [if_neg c3] at H
        refine Ev.go 2 (s' := (h, 42, [(0, .int c)], [.int 2])) rfl ?_
        have H := Option.some.inj H
        subst H
        exact Ev.ret rfl rfl (p_retZ rfl) ⟨rfl, rfl⟩
    · have c2 : ¬ (¬ c = 58) := c2
      rw [if_neg c2] at H
      refine Ev.go 2 (s' := (h, 42, [(0, .int c)], [.int 1])) rfl ?_
      have H := Option.some.inj H
      subst H
      exact Ev.ret rfl rfl (p_retZ rfl) ⟨rfl, rfl⟩
  · have c1 : ¬ (¬ c = 47) := c1
    rw [if_neg c1] at H
    refine Ev.go 2 (s' := (h, 42, [(0, .int c)], [.int 0])) rfl ?_
    have H := Option.some.inj H
    subst H
    exact Ev.ret rfl rfl (p_retZ rfl) ⟨rfl, rfl⟩
def fX10_readsStep (M : tM) (level : Int32) (axis : Int32) : Option (Int32 × tM) := ((fX10_here M).bind fun y2 => (if (M.1 20) = 8 then some (0, M) else (if y2 = 42 then (if ¬ y2 = 42 then (if (M.1 20) < 0 ∨ 8 ≤ (M.1 20).toNatClampNeg then none else (if level < 0 ∨ 10 ≤ level.toNatClampNeg then none else (if ¬ level = 0 then some (1, (va_up (va_up M.1 12 ((M.1 12) + 1)) 20 ((M.1 20) + 1), va_up (va_up (va_up (va_up M.2.1 22 (upd (M.2.1 22) (M.1 20).toNatClampNeg (y2 - 97))) 23 (upd (M.2.1 23) (M.1 20).toNatClampNeg ((M.2.1 25) level.toNatClampNeg))) 24 (upd (M.2.1 24) (M.1 20).toNatClampNeg axis)) 25 (upd (M.2.1 25) level.toNatClampNeg (M.1 20)), M.2.2)) else some (1, (va_up (va_up (va_up M.1 12 ((M.1 12) + 1)) 20 ((M.1 20) + 1)) 21 (M.1 20), va_up (va_up (va_up (va_up M.2.1 22 (upd (M.2.1 22) (M.1 20).toNatClampNeg (y2 - 97))) 23 (upd (M.2.1 23) (M.1 20).toNatClampNeg ((M.2.1 25) level.toNatClampNeg))) 24 (upd (M.2.1 24) (M.1 20).toNatClampNeg axis)) 25 (upd (M.2.1 25) level.toNatClampNeg (M.1 20)), M.2.2))))) else (if (M.1 20) < 0 ∨ 8 ≤ (M.1 20).toNatClampNeg then none else (if level < 0 ∨ 10 ≤ level.toNatClampNeg then none else (if ¬ level = 0 then some (1, (va_up (va_up M.1 12 ((M.1 12) + 1)) 20 ((M.1 20) + 1), va_up (va_up (va_up (va_up M.2.1 22 (upd (M.2.1 22) (M.1 20).toNatClampNeg 6)) 23 (upd (M.2.1 23) (M.1 20).toNatClampNeg ((M.2.1 25) level.toNatClampNeg))) 24 (upd (M.2.1 24) (M.1 20).toNatClampNeg axis)) 25 (upd (M.2.1 25) level.toNatClampNeg (M.1 20)), M.2.2)) else some (1, (va_up (va_up (va_up M.1 12 ((M.1 12) + 1)) 20 ((M.1 20) + 1)) 21 (M.1 20), va_up (va_up (va_up (va_up M.2.1 22 (upd (M.2.1 22) (M.1 20).toNatClampNeg 6)) 23 (upd (M.2.1 23) (M.1 20).toNatClampNeg ((M.2.1 25) level.toNatClampNeg))) 24 (upd (M.2.1 24) (M.1 20).toNatClampNeg axis)) 25 (upd (M.2.1 25) level.toNatClampNeg (M.1 20)), M.2.2)))))) else (if ¬ (fX10_in y2 97 102) = 0 then (if ¬ y2 = 42 then (if (M.1 20) < 0 ∨ 8 ≤ (M.1 20).toNatClampNeg then none else (if level < 0 ∨ 10 ≤ level.toNatClampNeg then none else (if ¬ level = 0 then some (1, (va_up (va_up M.1 12 ((M.1 12) + 1)) 20 ((M.1 20) + 1), va_up (va_up (va_up (va_up M.2.1 22 (upd (M.2.1 22) (M.1 20).toNatClampNeg (y2 - 97))) 23 (upd (M.2.1 23) (M.1 20).toNatClampNeg ((M.2.1 25) level.toNatClampNeg))) 24 (upd (M.2.1 24) (M.1 20).toNatClampNeg axis)) 25 (upd (M.2.1 25) level.toNatClampNeg (M.1 20)), M.2.2)) else some (1, (va_up (va_up (va_up M.1 12 ((M.1 12) + 1)) 20 ((M.1 20) + 1)) 21 (M.1 20), va_up (va_up (va_up (va_up M.2.1 22 (upd (M.2.1 22) (M.1 20).toNatClampNeg (y2 - 97))) 23 (upd (M.2.1 23) (M.1 20).toNatClampNeg ((M.2.1 25) level.toNatClampNeg))) 24 (upd (M.2.1 24) (M.1 20).toNatClampNeg axis)) 25 (upd (M.2.1 25) level.toNatClampNeg (M.1 20)), M.2.2))))) else (if (M.1 20) < 0 ∨ 8 ≤ (M.1 20).toNatClampNeg then none else (if level < 0 ∨ 10 ≤ level.toNatClampNeg then none else (if ¬ level = 0 then some (1, (va_up (va_up M.1 12 ((M.1 12) + 1)) 20 ((M.1 20) + 1), va_up (va_up (va_up (va_up M.2.1 22 (upd (M.2.1 22) (M.1 20).toNatClampNeg 6)) 23 (upd (M.2.1 23) (M.1 20).toNatClampNeg ((M.2.1 25) level.toNatClampNeg))) 24 (upd (M.2.1 24) (M.1 20).toNatClampNeg axis)) 25 (upd (M.2.1 25) level.toNatClampNeg (M.1 20)), M.2.2)) else some (1, (va_up (va_up (va_up M.1 12 ((M.1 12) + 1)) 20 ((M.1 20) + 1)) 21 (M.1 20), va_up (va_up (va_up (va_up M.2.1 22 (upd (M.2.1 22) (M.1 20).toNatClampNeg 6)) 23 (upd (M.2.1 23) (M.1 20).toNatClampNeg ((M.2.1 25) level.toNatClampNeg))) 24 (upd (M.2.1 24) (M.1 20).toNatClampNeg axis)) 25 (upd (M.2.1 25) level.toNatClampNeg (M.1 20)), M.2.2)))))) else some (0, M)))))
theorem spX10_readsStep {d : Nat} {h : pH} {M : tM} (xM : isM h M) (level : Int32) (axis : Int32) {res : Int32 × tM} (H : fX10_readsStep M level axis = some res) : Ev (d + 1) mX10_readsStep (h, 0, [(0, .ref 73), (1, .int level), (2, .int axis)], []) (fun r h1 => r = some (.int res.1) ∧ isM h1 res.2 ∧ fr [(73, 89)] h h1) := by
  unfold fX10_readsStep at H
  refine Ev.go 1 (s' := (h, 1, [(0, .ref 73), (1, .int level), (2, .int axis)], [.ref 73])) rfl ?_
  obtain ⟨y2, e1, H⟩ := Option.bind_eq_some_iff.mp H
  refine Ev.callE rfl rfl rfl (p_argsV (by decide) xM.1 (Nat.le_of_ble_eq_true rfl)) rfl (Nat.le_of_ble_eq_true rfl) (spX10_here xM  e1) ?_
  refine Ev.go 2 (s' := (h, 6, [(0, .ref 73), (1, .int level), (2, .int axis), (3, .int y2)], [.ref 73])) rfl ?_
  refine Ev.get rfl (by decide) xM.1 rfl ?_
  refine Ev.go 1 (s' := (h, 11, [(0, .ref 73), (1, .int level), (2, .int axis), (3, .int y2)], [.int 8, .int (M.1 20)])) rfl ?_
  refine Ev.if2 rfl (fun c3 => ?_) (fun c3 => ?_)
  · have c3 : (M.1 20) = 8 := c3
    rw [if_pos c3] at H
    refine Ev.go 1 (s' := (h, 32, [(0, .ref 73), (1, .int level), (2, .int axis), (3, .int y2)], [.int 0])) rfl ?_
    have H := Option.some.inj H
    subst H
    exact Ev.ret rfl rfl (p_retZ rfl) ⟨rfl, xM, (fun k _ => rfl)⟩
  · have c3 : ¬ ((M.1 20) = 8) := c3
    rw [if_neg c3] at H
    refine Ev.go 2 (s' := (h, 17, [(0, .ref 73), (1, .int level), (2, .int axis), (3, .int y2)], [.int 42, .int y2])) rfl ?_
    refine Ev.if2 rfl (fun c4 => ?_) (fun c4 => ?_)
    · have c4 : y2 = 42 := c4
      rw [if_pos c4] at H
      refine Ev.go 1 (s' := (h, 34, [(0, .ref 73), (1, .int level), (2, .int axis), (3, .int y2)], [.ref 73])) rfl ?_
      refine Ev.get rfl (by decide) xM.1 rfl ?_
      refine Ev.go 1 (s' := (h, 38, [(0, .ref 73), (1, .int level), (2, .int axis), (3, .int y2)], [.ref 73, .ref 84])) rfl ?_
      refine Ev.get rfl (by decide) xM.1 rfl ?_
      refine Ev.go 2 (s' := (h, 44, [(0, .ref 73), (1, .int level), (2, .int axis), (3, .int y2)], [.int 42, .int y2, .int (M.1 20), .ref 84])) rfl ?_
      refine Ev.if2 rfl (fun c5 => ?_) (fun c5 => ?_)
      · have c5 : ¬ y2 = 42 := c5
        rw [if_pos c5] at H
        refine Ev.go 3 (s' := (h, 56, [(0, .ref 73), (1, .int level), (2, .int axis), (3, .int y2)], [.int (y2 - 97), .int (M.1 20), .ref 84])) rfl ?_
        have v6 : vp_in (M.1 20) 8 := fun q => by rw [if_pos q] at H; cases H
        rw [if_neg v6] at H
        refine Ev.iast rfl (by decide) xM.2.2.2.2.2.2.2.2.2.2.2.1 v6 ?_
        refine Ev.go 1 (s' := ((pu h 84 (eI 8 (upd (M.2.1 22) (M.1 20).toNatClampNeg (y2 - 97)))), 58, [(0, .ref 73), (1, .int level), (2, .int axis), (3, .int y2)], [.ref 73])) rfl ?_
        refine Ev.get rfl (by decide) (pu_n (by decide) xM.1) rfl ?_
        refine Ev.go 1 (s' := ((pu h 84 (eI 8 (upd (M.2.1 22) (M.1 20).toNatClampNeg (y2 - 97)))), 62, [(0, .ref 73), (1, .int level), (2, .int axis), (3, .int y2)], [.ref 73, .ref 85])) rfl ?_
        refine Ev.get rfl (by decide) (pu_n (by decide) xM.1) rfl ?_
        refine Ev.go 1 (s' := ((pu h 84 (eI 8 (upd (M.2.1 22) (M.1 20).toNatClampNeg (y2 - 97)))), 66, [(0, .ref 73), (1, .int level), (2, .int axis), (3, .int y2)], [.ref 73, .int (M.1 20), .ref 85])) rfl ?_
        refine Ev.get rfl (by decide) (pu_n (by decide) xM.1) rfl ?_
        refine Ev.go 1 (s' := ((pu h 84 (eI 8 (upd (M.2.1 22) (M.1 20).toNatClampNeg (y2 - 97)))), 70, [(0, .ref 73), (1, .int level), (2, .int axis), (3, .int y2)], [.int level, .ref 87, .int (M.1 20), .ref 85])) rfl ?_
        have v7 : vp_in level 10 := fun q => by rw [if_pos q] at H; cases H
        rw [if_neg v7] at H
        refine Ev.iald rfl (by decide) (pu_n (by decide) xM.2.2.2.2.2.2.2.2.2.2.2.2.2.2.1) v7 ?_
        refine Ev.iast rfl (by decide) (pu_n (by decide) xM.2.2.2.2.2.2.2.2.2.2.2.2.1) v6 ?_
        refine Ev.go 1 (s' := ((pu (pu h 84 (eI 8 (upd (M.2.1 22) (M.1 20).toNatClampNeg (y2 - 97)))) 85 (eI 8 (upd (M.2.1 23) (M.1 20).toNatClampNeg ((M.2.1 25) level.toNatClampNeg)))), 73, [(0, .ref 73), (1, .int level), (2, .int axis), (3, .int y2)], [.ref 73])) rfl ?_
        refine Ev.get rfl (by decide) (pu_n (by decide) (pu_n (by decide) xM.1)) rfl ?_
        refine Ev.go 1 (s' := ((pu (pu h 84 (eI 8 (upd (M.2.1 22) (M.1 20).toNatClampNeg (y2 - 97)))) 85 (eI 8 (upd (M.2.1 23) (M.1 20).toNatClampNeg ((M.2.1 25) level.toNatClampNeg)))), 77, [(0, .ref 73), (1, .int level), (2, .int axis), (3, .int y2)], [.ref 73, .ref 86])) rfl ?_
        refine Ev.get rfl (by decide) (pu_n (by decide) (pu_n (by decide) xM.1)) rfl ?_
        refine Ev.go 1 (s' := ((pu (pu h 84 (eI 8 (upd (M.2.1 22) (M.1 20).toNatClampNeg (y2 - 97)))) 85 (eI 8 (upd (M.2.1 23) (M.1 20).toNatClampNeg ((M.2.1 25) level.toNatClampNeg)))), 81, [(0, .ref 73), (1, .int level), (2, .int axis), (3, .int y2)], [.int axis, .int (M.1 20), .ref 86])) rfl ?_
        refine Ev.iast rfl (by decide) (pu_n (by decide) (pu_n (by decide) xM.2.2.2.2.2.2.2.2.2.2.2.2.2.1)) v6 ?_
        refine Ev.go 1 (s' := ((pu (pu (pu h 84 (eI 8 (upd (M.2.1 22) (M.1 20).toNatClampNeg (y2 - 97)))) 85 (eI 8 (upd (M.2.1 23) (M.1 20).toNatClampNeg ((M.2.1 25) level.toNatClampNeg)))) 86 (eI 8 (upd (M.2.1 24) (M.1 20).toNatClampNeg axis))), 83, [(0, .ref 73), (1, .int level), (2, .int axis), (3, .int y2)], [.ref 73])) rfl ?_
        refine Ev.get rfl (by decide) (pu_n (by decide) (pu_n (by decide) (pu_n (by decide) xM.1))) rfl ?_
        refine Ev.go 2 (s' := ((pu (pu (pu h 84 (eI 8 (upd (M.2.1 22) (M.1 20).toNatClampNeg (y2 - 97)))) 85 (eI 8 (upd (M.2.1 23) (M.1 20).toNatClampNeg ((M.2.1 25) level.toNatClampNeg)))) 86 (eI 8 (upd (M.2.1 24) (M.1 20).toNatClampNeg axis))), 88, [(0, .ref 73), (1, .int level), (2, .int axis), (3, .int y2)], [.ref 73, .int level, .ref 87])) rfl ?_
        refine Ev.get rfl (by decide) (pu_n (by decide) (pu_n (by decide) (pu_n (by decide) xM.1))) rfl ?_
        refine Ev.iast rfl (by decide) (pu_n (by decide) (pu_n (by decide) (pu_n (by decide) xM.2.2.2.2.2.2.2.2.2.2.2.2.2.2.1))) v7 ?_
        refine Ev.go 2 (s' := ((pu (pu (pu (pu h 84 (eI 8 (upd (M.2.1 22) (M.1 20).toNatClampNeg (y2 - 97)))) 85 (eI 8 (upd (M.2.1 23) (M.1 20).toNatClampNeg ((M.2.1 25) level.toNatClampNeg)))) 86 (eI 8 (upd (M.2.1 24) (M.1 20).toNatClampNeg axis))) 87 (eI 10 (upd (M.2.1 25) level.toNatClampNeg (M.1 20)))), 94, [(0, .ref 73), (1, .int level), (2, .int axis), (3, .int y2)], [.int level, .ref 73])) rfl ?_
        refine Ev.if1 rfl (fun c8 => ?_) (fun c8 => ?_)
        · have c8 : ¬ level = 0 := c8
          rw [if_pos c8] at H
          refine Ev.go 1 (s' := ((pu (pu (pu (pu h 84 (eI 8 (upd (M.2.1 22) (M.1 20).toNatClampNeg (y2 - 97)))) 85 (eI 8 (upd (M.2.1 23) (M.1 20).toNatClampNeg ((M.2.1 25) level.toNatClampNeg)))) 86 (eI 8 (upd (M.2.1 24) (M.1 20).toNatClampNeg axis))) 87 (eI 10 (upd (M.2.1 25) level.toNatClampNeg (M.1 20)))), 105, [(0, .ref 73), (1, .int level), (2, .int axis), (3, .int y2)], [.ref 73, .ref 73])) rfl ?_
          refine Ev.get rfl (by decide) (pu_n (by decide) (pu_n (by decide) (pu_n (by decide) (pu_n (by decide) xM.1)))) rfl ?_
          refine Ev.put rfl rfl (by decide) (pu_n (by decide) (pu_n (by decide) (pu_n (by decide) (pu_n (by decide) xM.1)))) (Nat.le_of_ble_eq_true rfl) rfl rfl (fs' := [.int (M.1 0), .int (M.1 1), .int (M.1 2), .ref 74, .ref 75, .ref 76, .ref 77, .int (M.1 7), .ref 78, .int (M.1 9), .ref 79, .int (M.1 11), .int (M.1 12), .int (M.1 13), .ref 80, .int (M.1 15), .int (M.1 16), .ref 81, .ref 82, .ref 83, .int (M.1 20), .int (M.1 21), .ref 84, .ref 85, .ref 86, .ref 87, .ref 88]) rfl ?_
          refine Ev.go 2 (s' := ((pu (pu (pu (pu (pu h 84 (eI 8 (upd (M.2.1 22) (M.1 20).toNatClampNeg (y2 - 97)))) 85 (eI 8 (upd (M.2.1 23) (M.1 20).toNatClampNeg ((M.2.1 25) level.toNatClampNeg)))) 86 (eI 8 (upd (M.2.1 24) (M.1 20).toNatClampNeg axis))) 87 (eI 10 (upd (M.2.1 25) level.toNatClampNeg (M.1 20)))) 73 (eO 9 [.int (M.1 0), .int (M.1 1), .int (M.1 2), .ref 74, .ref 75, .ref 76, .ref 77, .int (M.1 7), .ref 78, .int (M.1 9), .ref 79, .int (M.1 11), .int (M.1 12), .int (M.1 13), .ref 80, .int (M.1 15), .int (M.1 16), .ref 81, .ref 82, .ref 83, .int (M.1 20), .int (M.1 21), .ref 84, .ref 85, .ref 86, .ref 87, .ref 88])), 113, [(0, .ref 73), (1, .int level), (2, .int axis), (3, .int y2)], [.ref 73, .ref 73])) rfl ?_
          refine Ev.get rfl (by decide) pu_s rfl ?_
          refine Ev.go 2 (s' := ((pu (pu (pu (pu (pu h 84 (eI 8 (upd (M.2.1 22) (M.1 20).toNatClampNeg (y2 - 97)))) 85 (eI 8 (upd (M.2.1 23) (M.1 20).toNatClampNeg ((M.2.1 25) level.toNatClampNeg)))) 86 (eI 8 (upd (M.2.1 24) (M.1 20).toNatClampNeg axis))) 87 (eI 10 (upd (M.2.1 25) level.toNatClampNeg (M.1 20)))) 73 (eO 9 [.int (M.1 0), .int (M.1 1), .int (M.1 2), .ref 74, .ref 75, .ref 76, .ref 77, .int (M.1 7), .ref 78, .int (M.1 9), .ref 79, .int (M.1 11), .int (M.1 12), .int (M.1 13), .ref 80, .int (M.1 15), .int (M.1 16), .ref 81, .ref 82, .ref 83, .int (M.1 20), .int (M.1 21), .ref 84, .ref 85, .ref 86, .ref 87, .ref 88])), 118, [(0, .ref 73), (1, .int level), (2, .int axis), (3, .int y2)], [.int ((M.1 20) + 1), .ref 73])) rfl ?_
          refine Ev.put rfl rfl (by decide) pu_s (Nat.le_of_ble_eq_true rfl) rfl rfl (fs' := [.int (M.1 0), .int (M.1 1), .int (M.1 2), .ref 74, .ref 75, .ref 76, .ref 77, .int (M.1 7), .ref 78, .int (M.1 9), .ref 79, .int (M.1 11), .int (M.1 12), .int (M.1 13), .ref 80, .int (M.1 15), .int (M.1 16), .ref 81, .ref 82, .ref 83, .int ((M.1 20) + 1), .int (M.1 21), .ref 84, .ref 85, .ref 86, .ref 87, .ref 88]) rfl ?_
          refine Ev.go 2 (s' := ((pu (pu (pu (pu (pu (pu h 84 (eI 8 (upd (M.2.1 22) (M.1 20).toNatClampNeg (y2 - 97)))) 85 (eI 8 (upd (M.2.1 23) (M.1 20).toNatClampNeg ((M.2.1 25) level.toNatClampNeg)))) 86 (eI 8 (upd (M.2.1 24) (M.1 20).toNatClampNeg axis))) 87 (eI 10 (upd (M.2.1 25) level.toNatClampNeg (M.1 20)))) 73 (eO 9 [.int (M.1 0), .int (M.1 1), .int (M.1 2), .ref 74, .ref 75, .ref 76, .ref 77, .int (M.1 7), .ref 78, .int (M.1 9), .ref 79, .int (M.1 11), .int (M.1 12), .int (M.1 13), .ref 80, .int (M.1 15), .int (M.1 16), .ref 81, .ref 82, .ref 83, .int (M.1 20), .int (M.1 21), .ref 84, .ref 85, .ref 86, .ref 87, .ref 88])) 73 (eO 9 [.int (M.1 0), .int (M.1 1), .int (M.1 2), .ref 74, .ref 75, .ref 76, .ref 77, .int (M.1 7), .ref 78, .int (M.1 9), .ref 79, .int (M.1 11), .int (M.1 12), .int (M.1 13), .ref 80, .int (M.1 15), .int (M.1 16), .ref 81, .ref 82, .ref 83, .int ((M.1 20) + 1), .int (M.1 21), .ref 84, .ref 85, .ref 86, .ref 87, .ref 88])), 123, [(0, .ref 73), (1, .int level), (2, .int axis), (3, .int y2)], [.ref 73, .ref 73])) rfl ?_
          refine Ev.get rfl (by decide) pu_s rfl ?_
          refine Ev.go 2 (s' := ((pu (pu (pu (pu (pu (pu h 84 (eI 8 (upd (M.2.1 22) (M.1 20).toNatClampNeg (y2 - 97)))) 85 (eI 8 (upd (M.2.1 23) (M.1 20).toNatClampNeg ((M.2.1 25) level.toNatClampNeg)))) 86 (eI 8 (upd (M.2.1 24) (M.1 20).toNatClampNeg axis))) 87 (eI 10 (upd (M.2.1 25) level.toNatClampNeg (M.1 20)))) 73 (eO 9 [.int (M.1 0), .int (M.1 1), .int (M.1 2), .ref 74, .ref 75, .ref 76, .ref 77, .int (M.1 7), .ref 78, .int (M.1 9), .ref 79, .int (M.1 11), .int (M.1 12), .int (M.1 13), .ref 80, .int (M.1 15), .int (M.1 16), .ref 81, .ref 82, .ref 83, .int (M.1 20), .int (M.1 21), .ref 84, .ref 85, .ref 86, .ref 87, .ref 88])) 73 (eO 9 [.int (M.1 0), .int (M.1 1), .int (M.1 2), .ref 74, .ref 75, .ref 76, .ref 77, .int (M.1 7), .ref 78, .int (M.1 9), .ref 79, .int (M.1 11), .int (M.1 12), .int (M.1 13), .ref 80, .int (M.1 15), .int (M.1 16), .ref 81, .ref 82, .ref 83, .int ((M.1 20) + 1), .int (M.1 21), .ref 84, .ref 85, .ref 86, .ref 87, .ref 88])), 128, [(0, .ref 73), (1, .int level), (2, .int axis), (3, .int y2)], [.int ((M.1 12) + 1), .ref 73])) rfl ?_
          refine Ev.put rfl rfl (by decide) pu_s (Nat.le_of_ble_eq_true rfl) rfl rfl (fs' := [.int (M.1 0), .int (M.1 1), .int (M.1 2), .ref 74, .ref 75, .ref 76, .ref 77, .int (M.1 7), .ref 78, .int (M.1 9), .ref 79, .int (M.1 11), .int ((M.1 12) + 1), .int (M.1 13), .ref 80, .int (M.1 15), .int (M.1 16), .ref 81, .ref 82, .ref 83, .int ((M.1 20) + 1), .int (M.1 21), .ref 84, .ref 85, .ref 86, .ref 87, .ref 88]) rfl ?_
          refine Ev.go 1 (s' := ((pu (pu (pu (pu (pu (pu (pu h 84 (eI 8 (upd (M.2.1 22) (M.1 20).toNatClampNeg (y2 - 97)))) 85 (eI 8 (upd (M.2.1 23) (M.1 20).toNatClampNeg ((M.2.1 25) level.toNatClampNeg)))) 86 (eI 8 (upd (M.2.1 24) (M.1 20).toNatClampNeg axis))) 87 (eI 10 (upd (M.2.1 25) level.toNatClampNeg (M.1 20)))) 73 (eO 9 [.int (M.1 0), .int (M.1 1), .int (M.1 2), .ref 74, .ref 75, .ref 76, .ref 77, .int (M.1 7), .ref 78, .int (M.1 9), .ref 79, .int (M.1 11), .int (M.1 12), .int (M.1 13), .ref 80, .int (M.1 15), .int (M.1 16), .ref 81, .ref 82, .ref 83, .int (M.1 20), .int (M.1 21), .ref 84, .ref 85, .ref 86, .ref 87, .ref 88])) 73 (eO 9 [.int (M.1 0), .int (M.1 1), .int (M.1 2), .ref 74, .ref 75, .ref 76, .ref 77, .int (M.1 7), .ref 78, .int (M.1 9), .ref 79, .int (M.1 11), .int (M.1 12), .int (M.1 13), .ref 80, .int (M.1 15), .int (M.1 16), .ref 81, .ref 82, .ref 83, .int ((M.1 20) + 1), .int (M.1 21), .ref 84, .ref 85, .ref 86, .ref 87, .ref 88])) 73 (eO 9 [.int (M.1 0), .int (M.1 1), .int (M.1 2), .ref 74, .ref 75, .ref 76, .ref 77, .int (M.1 7), .ref 78, .int (M.1 9), .ref 79, .int (M.1 11), .int ((M.1 12) + 1), .int (M.1 13), .ref 80, .int (M.1 15), .int (M.1 16), .ref 81, .ref 82, .ref 83, .int ((M.1 20) + 1), .int (M.1 21), .ref 84, .ref 85, .ref 86, .ref 87, .ref 88])), 132, [(0, .ref 73), (1, .int level), (2, .int axis), (3, .int y2)], [.int 1])) rfl ?_
          have H := Option.some.inj H
          subst H
          exact Ev.ret rfl rfl (p_retZ rfl) ⟨rfl, ⟨pu_s, (pu_n (by decide) (pu_n (by decide) (pu_n (by decide) (pu_n (by decide) (pu_n (by decide) (pu_n (by decide) (pu_n (by decide) xM.2.1))))))), (pu_n (by decide) (pu_n (by decide) (pu_n (by decide) (pu_n (by decide) (pu_n (by decide) (pu_n (by decide) (pu_n (by decide) xM.2.2.1))))))), (pu_n (by decide) (pu_n (by decide) (pu_n (by decide) (pu_n (by decide) (pu_n (by decide) (pu_n (by decide) (pu_n (by decide) xM.2.2.2.1))))))), (pu_n (by decide) (pu_n (by decide) (pu_n (by decide) (pu_n (by decide) (pu_n (by decide) (pu_n (by decide) (pu_n (by decide) xM.2.2.2.2.1))))))), (pu_n (by decide) (pu_n (by decide) (pu_n (by decide) (pu_n (by decide) (pu_n (by decide) (pu_n (by decide) (pu_n (by decide) xM.2.2.2.2.2.1))))))), (pu_n (by decide) (pu_n (by decide) (pu_n (by decide) (pu_n (by decide) (pu_n (by decide) (pu_n (by decide) (pu_n (by decide) xM.2.2.2.2.2.2.1))))))), (pu_n (by decide) (pu_n (by decide) (pu_n (by decide) (pu_n (by decide) (pu_n (by decide) (pu_n (by decide) (pu_n (by decide) xM.2.2.2.2.2.2.2.1))))))), (pu_n (by decide) (pu_n (by decide) (pu_n (by decide) (pu_n (by decide) (pu_n (by decide) (pu_n (by decide) (pu_n (by decide) xM.2.2.2.2.2.2.2.2.1))))))), (pu_n (by decide) (pu_n (by decide) (pu_n (by decide) (pu_n (by decide) (pu_n (by decide) (pu_n (by decide) (pu_n (by decide) xM.2.2.2.2.2.2.2.2.2.1))))))), (pu_n (by decide) (pu_n (by decide) (pu_n (by decide) (pu_n (by decide) (pu_n (by decide) (pu_n (by decide) (pu_n (by decide) xM.2.2.2.2.2.2.2.2.2.2.1))))))), (pu_n (by decide) (pu_n (by decide) (pu_n (by decide) (pu_n (by decide) (pu_n (by decide) (pu_n (by decide) pu_s)))))), (pu_n (by decide) (pu_n (by decide) (pu_n (by decide) (pu_n (by decide) (pu_n (by decide) pu_s))))), (pu_n (by decide) (pu_n (by decide) (pu_n (by decide) (pu_n (by decide) pu_s)))), (pu_n (by decide) (pu_n (by decide) (pu_n (by decide) pu_s))), (pu_n (by decide) (pu_n (by decide) (pu_n (by decide) (pu_n (by decide) (pu_n (by decide) (pu_n (by decide) (pu_n (by decide) xM.2.2.2.2.2.2.2.2.2.2.2.2.2.2.2)))))))⟩, (fun k hk => by rw [pu_x (show k ≠ 73 from fun e => by have := hk; simp at this; omega)]; rw [pu_x (show k ≠ 73 from fun e => by have := hk; simp at this; omega)]; rw [pu_x (show k ≠ 73 from fun e => by have := hk; simp at this; omega)]; rw [pu_x (show k ≠ 87 from fun e => by have := hk; simp at this; omega)]; rw [pu_x (show k ≠ 86 from fun e => by have := hk; simp at this; omega)]; rw [pu_x (show k ≠ 85 from fun e => by have := hk; simp at this; omega)]; rw [pu_x (show k ≠ 84 from fun e => by have := hk; simp at this; omega)])⟩
        · have c8 : ¬ (¬ level = 0) := c8
          rw [if_neg c8] at H
          refine Ev.go 1 (s' := ((pu (pu (pu (pu h 84 (eI 8 (upd (M.2.1 22) (M.1 20).toNatClampNeg (y2 - 97)))) 85 (eI 8 (upd (M.2.1 23) (M.1 20).toNatClampNeg ((M.2.1 25) level.toNatClampNeg)))) 86 (eI 8 (upd (M.2.1 24) (M.1 20).toNatClampNeg axis))) 87 (eI 10 (upd (M.2.1 25) level.toNatClampNeg (M.1 20)))), 98, [(0, .ref 73), (1, .int level), (2, .int axis), (3, .int y2)], [.ref 73, .ref 73])) rfl ?_
          refine Ev.get rfl (by decide) (pu_n (by decide) (pu_n (by decide) (pu_n (by decide) (pu_n (by decide) xM.1)))) rfl ?_
          refine Ev.go 1 (s' := ((pu (pu (pu (pu h 84 (eI 8 (upd (M.2.1 22) (M.1 20).toNatClampNeg (y2 - 97)))) 85 (eI 8 (upd (M.2.1 23) (M.1 20).toNatClampNeg ((M.2.1 25) level.toNatClampNeg)))) 86 (eI 8 (upd (M.2.1 24) (M.1 20).toNatClampNeg axis))) 87 (eI 10 (upd (M.2.1 25) level.toNatClampNeg (M.1 20)))), 108, [(0, .ref 73), (1, .int level), (2, .int axis), (3, .int y2)], [.int (M.1 20), .ref 73])) rfl ?_
          refine Ev.put rfl rfl (by decide) (pu_n (by decide) (pu_n (by decide) (pu_n (by decide) (pu_n (by decide) xM.1)))) (Nat.le_of_ble_eq_true rfl) rfl rfl (fs' := [.int (M.1 0), .int (M.1 1), .int (M.1 2), .ref 74, .ref 75, .ref 76, .ref 77, .int (M.1 7), .ref 78, .int (M.1 9), .ref 79, .int (M.1 11), .int (M.1 12), .int (M.1 13), .ref 80, .int (M.1 15), .int (M.1 16), .ref 81, .ref 82, .ref 83, .int (M.1 20), .int (M.1 20), .ref 84, .ref 85, .ref 86, .ref 87, .ref 88]) rfl ?_
          refine Ev.go 2 (s' := ((pu (pu (pu (pu (pu h 84 (eI 8 (upd (M.2.1 22) (M.1 20).toNatClampNeg (y2 - 97)))) 85 (eI 8 (upd (M.2.1 23) (M.1 20).toNatClampNeg ((M.2.1 25) level.toNatClampNeg)))) 86 (eI 8 (upd (M.2.1 24) (M.1 20).toNatClampNeg axis))) 87 (eI 10 (upd (M.2.1 25) level.toNatClampNeg (M.1 20)))) 73 (eO 9 [.int (M.1 0), .int (M.1 1), .int (M.1 2), .ref 74, .ref 75, .ref 76, .ref 77, .int (M.1 7), .ref 78, .int (M.1 9), .ref 79, .int (M.1 11), .int (M.1 12), .int (M.1 13), .ref 80, .int (M.1 15), .int (M.1 16), .ref 81, .ref 82, .ref 83, .int (M.1 20), .int (M.1 20), .ref 84, .ref 85, .ref 86, .ref 87, .ref 88])), 113, [(0, .ref 73), (1, .int level), (2, .int axis), (3, .int y2)], [.ref 73, .ref 73])) rfl ?_
          refine Ev.get rfl (by decide) pu_s rfl ?_
          refine Ev.go 2 (s' := ((pu (pu (pu (pu (pu h 84 (eI 8 (upd (M.2.1 22) (M.1 20).toNatClampNeg (y2 - 97)))) 85 (eI 8 (upd (M.2.1 23) (M.1 20).toNatClampNeg ((M.2.1 25) level.toNatClampNeg)))) 86 (eI 8 (upd (M.2.1 24) (M.1 20).toNatClampNeg axis))) 87 (eI 10 (upd (M.2.1 25) level.toNatClampNeg (M.1 20)))) 73 (eO 9 [.int (M.1 0), .int (M.1 1), .int (M.1 2), .ref 74, .ref 75, .ref 76, .ref 77, .int (M.1 7), .ref 78, .int (M.1 9), .ref 79, .int (M.1 11), .int (M.1 12), .int (M.1 13), .ref 80, .int (M.1 15), .int (M.1 16), .ref 81, .ref 82, .ref 83, .int (M.1 20), .int (M.1 20), .ref 84, .ref 85, .ref 86, .ref 87, .ref 88])), 118, [(0, .ref 73), (1, .int level), (2, .int axis), (3, .int y2)], [.int ((M.1 20) + 1), .ref 73])) rfl ?_
          refine Ev.put rfl rfl (by decide) pu_s (Nat.le_of_ble_eq_true rfl) rfl rfl (fs' := [.int (M.1 0), .int (M.1 1), .int (M.1 2), .ref 74, .ref 75, .ref 76, .ref 77, .int (M.1 7), .ref 78, .int (M.1 9), .ref 79, .int (M.1 11), .int (M.1 12), .int (M.1 13), .ref 80, .int (M.1 15), .int (M.1 16), .ref 81, .ref 82, .ref 83, .int ((M.1 20) + 1), .int (M.1 20), .ref 84, .ref 85, .ref 86, .ref 87, .ref 88]) rfl ?_
          refine Ev.go 2 (s' := ((pu (pu (pu (pu (pu (pu h 84 (eI 8 (upd (M.2.1 22) (M.1 20).toNatClampNeg (y2 - 97)))) 85 (eI 8 (upd (M.2.1 23) (M.1 20).toNatClampNeg ((M.2.1 25) level.toNatClampNeg)))) 86 (eI 8 (upd (M.2.1 24) (M.1 20).toNatClampNeg axis))) 87 (eI 10 (upd (M.2.1 25) level.toNatClampNeg (M.1 20)))) 73 (eO 9 [.int (M.1 0), .int (M.1 1), .int (M.1 2), .ref 74, .ref 75, .ref 76, .ref 77, .int (M.1 7), .ref 78, .int (M.1 9), .ref 79, .int (M.1 11), .int (M.1 12), .int (M.1 13), .ref 80, .int (M.1 15), .int (M.1 16), .ref 81, .ref 82, .ref 83, .int (M.1 20), .int (M.1 20), .ref 84, .ref 85, .ref 86, .ref 87, .ref 88])) 73 (eO 9 [.int (M.1 0), .int (M.1 1), .int (M.1 2), .ref 74, .ref 75, .ref 76, .ref 77, .int (M.1 7), .ref 78, .int (M.1 9), .ref 79, .int (M.1 11), .int (M.1 12), .int (M.1 13), .ref 80, .int (M.1 15), .int (M.1 16), .ref 81, .ref 82, .ref 83, .int ((M.1 20) + 1), .int (M.1 20), .ref 84, .ref 85, .ref 86, .ref 87, .ref 88])), 123, [(0, .ref 73), (1, .int level), (2, .int axis), (3, .int y2)], [.ref 73, .ref 73])) rfl ?_
          refine Ev.get rfl (by decide) pu_s rfl ?_
          refine Ev.go 2 (s' := ((pu (pu (pu (pu (pu (pu h 84 (eI 8 (upd (M.2.1 22) (M.1 20).toNatClampNeg (y2 - 97)))) 85 (eI 8 (upd (M.2.1 23) (M.1 20).toNatClampNeg ((M.2.1 25) level.toNatClampNeg)))) 86 (eI 8 (upd (M.2.1 24) (M.1 20).toNatClampNeg axis))) 87 (eI 10 (upd (M.2.1 25) level.toNatClampNeg (M.1 20)))) 73 (eO 9 [.int (M.1 0), .int (M.1 1), .int (M.1 2), .ref 74, .ref 75, .ref 76, .ref 77, .int (M.1 7), .ref 78, .int (M.1 9), .ref 79, .int (M.1 11), .int (M.1 12), .int (M.1 13), .ref 80, .int (M.1 15), .int (M.1 16), .ref 81, .ref 82, .ref 83, .int (M.1 20), .int (M.1 20), .ref 84, .ref 85, .ref 86, .ref 87, .ref 88])) 73 (eO 9 [.int (M.1 0), .int (M.1 1), .int (M.1 2), .ref 74, .ref 75, .ref 76, .ref 77, .int (M.1 7), .ref 78, .int (M.1 9), .ref 79, .int (M.1 11), .int (M.1 12), .int (M.1 13), .ref 80, .int (M.1 15), .int (M.1 16), .ref 81, .ref 82, .ref 83, .int ((M.1 20) + 1), .int (M.1 20), .ref 84, .ref 85, .ref 86, .ref 87, .ref 88])), 128, [(0, .ref 73), (1, .int level), (2, .int axis), (3, .int y2)], [.int ((M.1 12) + 1), .ref 73])) rfl ?_
          refine Ev.put rfl rfl (by decide) pu_s (Nat.le_of_ble_eq_true rfl) rfl rfl (fs' := [.int (M.1 0), .int (M.1 1), .int (M.1 2), .ref 74, .ref 75, .ref 76, .ref 77, .int (M.1 7), .ref 78, .int (M.1 9), .ref 79, .int (M.1 11), .int ((M.1 12) + 1), .int (M.1 13), .ref 80, .int (M.1 15), .int (M.1 16), .ref 81, .ref 82, .ref 83, .int ((M.1 20) + 1), .int (M.1 20), .ref 84, .ref 85, .ref 86, .ref 87, .ref 88]) rfl ?_
          refine Ev.go 1 (s' := ((pu (pu (pu (pu (pu (pu (pu h 84 (eI 8 (upd (M.2.1 22) (M.1 20).toNatClampNeg (y2 - 97)))) 85 (eI 8 (upd (M.2.1 23) (M.1 20).toNatClampNeg ((M.2.1 25) level.toNatClampNeg)))) 86 (eI 8 (upd (M.2.1 24) (M.1 20).toNatClampNeg axis))) 87 (eI 10 (upd (M.2.1 25) level.toNatClampNeg (M.1 20)))) 73 (eO 9 [.int (M.1 0), .int (M.1 1), .int (M.1 2), .ref 74, .ref 75, .ref 76, .ref 77, .int (M.1 7), .ref 78, .int (M.1 9), .ref 79, .int (M.1 11), .int (M.1 12), .int (M.1 13), .ref 80, .int (M.1 15), .int (M.1 16), .ref 81, .ref 82, .ref 83, .int (M.1 20), .int (M.1 20), .ref 84, .ref 85, .ref 86, .ref 87, .ref 88])) 73 (eO 9 [.int (M.1 0), .int (M.1 1), .int (M.1 2), .ref 74, .ref 75, .ref 76, .ref 77, .int (M.1 7), .ref 78, .int (M.1 9), .ref 79, .int (M.1 11), .int (M.1 12), .int (M.1 13), .ref 80, .int (M.1 15), .int (M.1 16), .ref 81, .ref 82, .ref 83, .int ((M.1 20) + 1), .int (M.1 20), .ref 84, .ref 85, .ref 86, .ref 87, .ref 88])) 73 (eO 9 [.int (M.1 0), .int (M.1 1), .int (M.1 2), .ref 74, .ref 75, .ref 76, .ref 77, .int (M.1 7), .ref 78, .int (M.1 9), .ref 79, .int (M.1 11), .int ((M.1 12) + 1), .int (M.1 13), .ref 80, .int (M.1 15), .int (M.1 16), .ref 81, .ref 82, .ref 83, .int ((M.1 20) + 1), .int (M.1 20), .ref 84, .ref 85, .ref 86, .ref 87, .ref 88])), 132, [(0, .ref 73), (1, .int level), (2, .int axis), (3, .int y2)], [.int 1])) rfl ?_
          have H := Option.some.inj H
          subst H
          exact Ev.ret rfl rfl (p_retZ rfl) ⟨rfl, ⟨pu_s, (pu_n (by decide) (pu_n (by decide) (pu_n (by decide) (pu_n (by decide) (pu_n (by decide) (pu_n (by decide) (pu_n (by decide) xM.2.1))))))), (pu_n (by decide) (pu_n (by decide) (pu_n (by decide) (pu_n (by decide) (pu_n (by decide) (pu_n (by decide) (pu_n (by decide) xM.2.2.1))))))), (pu_n (by decide) (pu_n (by decide) (pu_n (by decide) (pu_n (by decide) (pu_n (by decide) (pu_n (by decide) (pu_n (by decide) xM.2.2.2.1))))))), (pu_n (by decide) (pu_n (by decide) (pu_n (by decide) (pu_n (by decide) (pu_n (by decide) (pu_n (by decide) (pu_n (by decide) xM.2.2.2.2.1))))))), (pu_n (by decide) (pu_n (by decide) (pu_n (by decide) (pu_n (by decide) (pu_n (by decide) (pu_n (by decide) (pu_n (by decide) xM.2.2.2.2.2.1))))))), (pu_n (by decide) (pu_n (by decide) (pu_n (by decide) (pu_n (by decide) (pu_n (by decide) (pu_n (by decide) (pu_n (by decide) xM.2.2.2.2.2.2.1))))))), (pu_n (by decide) (pu_n (by decide) (pu_n (by decide) (pu_n (by decide) (pu_n (by decide) (pu_n (by decide) (pu_n (by decide) xM.2.2.2.2.2.2.2.1))))))), (pu_n (by decide) (pu_n (by decide) (pu_n (by decide) (pu_n (by decide) (pu_n (by decide) (pu_n (by decide) (pu_n (by decide) xM.2.2.2.2.2.2.2.2.1))))))), (pu_n (by decide) (pu_n (by decide) (pu_n (by decide) (pu_n (by decide) (pu_n (by decide) (pu_n (by decide) (pu_n (by decide) xM.2.2.2.2.2.2.2.2.2.1))))))), (pu_n (by decide) (pu_n (by decide) (pu_n (by decide) (pu_n (by decide) (pu_n (by decide) (pu_n (by decide) (pu_n (by decide) xM.2.2.2.2.2.2.2.2.2.2.1))))))), (pu_n (by decide) (pu_n (by decide) (pu_n (by decide) (pu_n (by decide) (pu_n (by decide) (pu_n (by decide) pu_s)))))), (pu_n (by decide) (pu_n (by decide) (pu_n (by decide) (pu_n (by decide) (pu_n (by decide) pu_s))))), (pu_n (by decide) (pu_n (by decide) (pu_n (by decide) (pu_n (by decide) pu_s)))), (pu_n (by decide) (pu_n (by decide) (pu_n (by decide) pu_s))), (pu_n (by decide) (pu_n (by decide) (pu_n (by decide) (pu_n (by decide) (pu_n (by decide) (pu_n (by decide) (pu_n (by decide) xM.2.2.2.2.2.2.2.2.2.2.2.2.2.2.2)))))))⟩, (fun k hk => by rw [pu_x (show k ≠ 73 from fun e => by have := hk; simp at this; omega)]; rw [pu_x (show k ≠ 73 from fun e => by have := hk; simp at this; omega)]; rw [pu_x (show k ≠ 73 from fun e => by have := hk; simp at this; omega)]; rw [pu_x (show k ≠ 87 from fun e => by have := hk; simp at this; omega)]; rw [pu_x (show k ≠ 86 from fun e => by have := hk; simp at this; omega)]; rw [pu_x (show k ≠ 85 from fun e => by have := hk; simp at this; omega)]; rw [pu_x (show k ≠ 84 from fun e => by have := hk; simp at this; omega)])⟩
      · have c5 : ¬ (¬ y2 = 42) := c5
        rw [if_neg c5] at H
        refine Ev.go 2 (s' := (h, 56, [(0, .ref 73), (1, .int level), (2, .int axis), (3, .int y2)], [.int 6, .int (M.1 20), .ref 84])) rfl ?_
        have v9 : vp_in (M.1 20) 8 := fun q => by rw [if_pos q] at H; cases H
        rw [if_neg v9] at H
        refine Ev.iast rfl (by decide) xM.2.2.2.2.2.2.2.2.2.2.2.1 v9 ?_
        refine Ev.go 1 (s' := ((pu h 84 (eI 8 (upd (M.2.1 22) (M.1 20).toNatClampNeg 6))), 58, [(0, .ref 73), (1, .int level), (2, .int axis), (3, .int y2)], [.ref 73])) rfl ?_
        refine Ev.get rfl (by decide) (pu_n (by decide) xM.1) rfl ?_
        refine Ev.go 1 (s' := ((pu h 84 (eI 8 (upd (M.2.1 22) (M.1 20).toNatClampNeg 6))), 62, [(0, .ref 73), (1, .int level), (2, .int axis), (3, .int y2)], [.ref 73, .ref 85])) rfl ?_
        refine Ev.get rfl (by decide) (pu_n (by decide) xM.1) rfl ?_
        refine Ev.go 1 (s' := ((pu h 84 (eI 8 (upd (M.2.1 22) (M.1 20).toNatClampNeg 6))), 66, [(0, .ref 73), (1, .int level), (2, .int axis), (3, .int y2)], [.ref 73, .int (M.1 20), .ref 85])) rfl ?_
        refine Ev.get rfl (by decide) (pu_n (by decide) xM.1) rfl ?_
        refine Ev.go 1 (s' := ((pu h 84 (eI 8 (upd (M.2.1 22) (M.1 20).toNatClampNeg 6))), 70, [(0, .ref 73), (1, .int level), (2, .int axis), (3, .int y2)], [.int level, .ref 87, .int (M.1 20), .ref 85])) rfl ?_
        have v10 : vp_in level 10 := fun q => by rw [if_pos q] at H; cases H
        rw [if_neg v10] at H
        refine Ev.iald rfl (by decide) (pu_n (by decide) xM.2.2.2.2.2.2.2.2.2.2.2.2.2.2.1) v10 ?_
        refine Ev.iast rfl (by decide) (pu_n (by decide) xM.2.2.2.2.2.2.2.2.2.2.2.2.1) v9 ?_
        refine Ev.go 1 (s' := ((pu (pu h 84 (eI 8 (upd (M.2.1 22) (M.1 20).toNatClampNeg 6))) 85 (eI 8 (upd (M.2.1 23) (M.1 20).toNatClampNeg ((M.2.1 25) level.toNatClampNeg)))), 73, [(0, .ref 73), (1, .int level), (2, .int axis), (3, .int y2)], [.ref 73])) rfl ?_
        refine Ev.get rfl (by decide) (pu_n (by decide) (pu_n (by decide) xM.1)) rfl ?_
        refine Ev.go 1 (s' := ((pu (pu h 84 (eI 8 (upd (M.2.1 22) (M.1 20).toNatClampNeg 6))) 85 (eI 8 (upd (M.2.1 23) (M.1 20).toNatClampNeg ((M.2.1 25) level.toNatClampNeg)))), 77, [(0, .ref 73), (1, .int level), (2, .int axis), (3, .int y2)], [.ref 73, .ref 86])) rfl ?_
        refine Ev.get rfl (by decide) (pu_n (by decide) (pu_n (by decide) xM.1)) rfl ?_
        refine Ev.go 1 (s' := ((pu (pu h 84 (eI 8 (upd (M.2.1 22) (M.1 20).toNatClampNeg 6))) 85 (eI 8 (upd (M.2.1 23) (M.1 20).toNatClampNeg ((M.2.1 25) level.toNatClampNeg)))), 81, [(0, .ref 73), (1, .int level), (2, .int axis), (3, .int y2)], [.int axis, .int (M.1 20), .ref 86])) rfl ?_
        refine Ev.iast rfl (by decide) (pu_n (by decide) (pu_n (by decide) xM.2.2.2.2.2.2.2.2.2.2.2.2.2.1)) v9 ?_
        refine Ev.go 1 (s' := ((pu (pu (pu h 84 (eI 8 (upd (M.2.1 22) (M.1 20).toNatClampNeg 6))) 85 (eI 8 (upd (M.2.1 23) (M.1 20).toNatClampNeg ((M.2.1 25) level.toNatClampNeg)))) 86 (eI 8 (upd (M.2.1 24) (M.1 20).toNatClampNeg axis))), 83, [(0, .ref 73), (1, .int level), (2, .int axis), (3, .int y2)], [.ref 73])) rfl ?_
        refine Ev.get rfl (by decide) (pu_n (by decide) (pu_n (by decide) (pu_n (by decide) xM.1))) rfl ?_
        refine Ev.go 2 (s' := ((pu (pu (pu h 84 (eI 8 (upd (M.2.1 22) (M.1 20).toNatClampNeg 6))) 85 (eI 8 (upd (M.2.1 23) (M.1 20).toNatClampNeg ((M.2.1 25) level.toNatClampNeg)))) 86 (eI 8 (upd (M.2.1 24) (M.1 20).toNatClampNeg axis))), 88, [(0, .ref 73), (1, .int level), (2, .int axis), (3, .int y2)], [.ref 73, .int level, .ref 87])) rfl ?_
        refine Ev.get rfl (by decide) (pu_n (by decide) (pu_n (by decide) (pu_n (by decide) xM.1))) rfl ?_
        refine Ev.iast rfl (by decide) (pu_n (by decide) (pu_n (by decide) (pu_n (by decide) xM.2.2.2.2.2.2.2.2.2.2.2.2.2.2.1))) v10 ?_
        refine Ev.go 2 (s' := ((pu (pu (pu (pu h 84 (eI 8 (upd (M.2.1 22) (M.1 20).toNatClampNeg 6))) 85 (eI 8 (upd (M.2.1 23) (M.1 20).toNatClampNeg ((M.2.1 25) level.toNatClampNeg)))) 86 (eI 8 (upd (M.2.1 24) (M.1 20).toNatClampNeg axis))) 87 (eI 10 (upd (M.2.1 25) level.toNatClampNeg (M.1 20)))), 94, [(0, .ref 73), (1, .int level), (2, .int axis), (3, .int y2)], [.int level, .ref 73])) rfl ?_
        refine Ev.if1 rfl (fun c11 => ?_) (fun c11 => ?_)
        · have c11 : ¬ level = 0 := c11
          rw [if_pos c11] at H
          refine Ev.go 1 (s' := ((pu (pu (pu (pu h 84 (eI 8 (upd (M.2.1 22) (M.1 20).toNatClampNeg 6))) 85 (eI 8 (upd (M.2.1 23) (M.1 20).toNatClampNeg ((M.2.1 25) level.toNatClampNeg)))) 86 (eI 8 (upd (M.2.1 24) (M.1 20).toNatClampNeg axis))) 87 (eI 10 (upd (M.2.1 25) level.toNatClampNeg (M.1 20)))), 105, [(0, .ref 73), (1, .int level), (2, .int axis), (3, .int y2)], [.ref 73, .ref 73])) rfl ?_
          refine Ev.get rfl (by decide) (pu_n (by decide) (pu_n (by decide) (pu_n (by decide) (pu_n (by decide) xM.1)))) rfl ?_
          refine Ev.put rfl rfl (by decide) (pu_n (by decide) (pu_n (by decide) (pu_n (by decide) (pu_n (by decide) xM.1)))) (Nat.le_of_ble_eq_true rfl) rfl rfl (fs' := [.int (M.1 0), .int (M.1 1), .int (M.1 2), .ref 74, .ref 75, .ref 76, .ref 77, .int (M.1 7), .ref 78, .int (M.1 9), .ref 79, .int (M.1 11), .int (M.1 12), .int (M.1 13), .ref 80, .int (M.1 15), .int (M.1 16), .ref 81, .ref 82, .ref 83, .int (M.1 20), .int (M.1 21), .ref 84, .ref 85, .ref 86, .ref 87, .ref 88]) rfl ?_
          refine Ev.go 2 (s' := ((pu (pu (pu (pu (pu h 84 (eI 8 (upd (M.2.1 22) (M.1 20).toNatClampNeg 6))) 85 (eI 8 (upd (M.2.1 23) (M.1 20).toNatClampNeg ((M.2.1 25) level.toNatClampNeg)))) 86 (eI 8 (upd (M.2.1 24) (M.1 20).toNatClampNeg axis))) 87 (eI 10 (upd (M.2.1 25) level.toNatClampNeg (M.1 20)))) 73 (eO 9 [.int (M.1 0), .int (M.1 1), .int (M.1 2), .ref 74, .ref 75, .ref 76, .ref 77, .int (M.1 7), .ref 78, .int (M.1 9), .ref 79, .int (M.1 11), .int (M.1 12), .int (M.1 13), .ref 80, .int (M.1 15), .int (M.1 16), .ref 81, .ref 82, .ref 83, .int (M.1 20), .int (M.1 21), .ref 84, .ref 85, .ref 86, .ref 87, .ref 88])), 113, [(0, .ref 73), (1, .int level), (2, .int axis), (3, .int y2)], [.ref 73, .ref 73])) rfl ?_
          refine Ev.get rfl (by decide) pu_s rfl ?_
          refine Ev.go 2 (s' := ((pu (pu (pu (pu (pu h 84 (eI 8 (upd (M.2.1 22) (M.1 20).toNatClampNeg 6))) 85 (eI 8 (upd (M.2.1 23) (M.1 20).toNatClampNeg ((M.2.1 25) level.toNatClampNeg)))) 86 (eI 8 (upd (M.2.1 24) (M.1 20).toNatClampNeg axis))) 87 (eI 10 (upd (M.2.1 25) level.toNatClampNeg (M.1 20)))) 73 (eO 9 [.int (M.1 0), .int (M.1 1), .int (M.1 2), .ref 74, .ref 75, .ref 76, .ref 77, .int (M.1 7), .ref 78, .int (M.1 9), .ref 79, .int (M.1 11), .int (M.1 12), .int (M.1 13), .ref 80, .int (M.1 15), .int (M.1 16), .ref 81, .ref 82, .ref 83, .int (M.1 20), .int (M.1 21), .ref 84, .ref 85, .ref 86, .ref 87, .ref 88])), 118, [(0, .ref 73), (1, .int level), (2, .int axis), (3, .int y2)], [.int ((M.1 20) + 1), .ref 73])) rfl ?_
          refine Ev.put rfl rfl (by decide) pu_s (Nat.le_of_ble_eq_true rfl) rfl rfl (fs' := [.int (M.1 0), .int (M.1 1), .int (M.1 2), .ref 74, .ref 75, .ref 76, .ref 77, .int (M.1 7), .ref 78, .int (M.1 9), .ref 79, .int (M.1 11), .int (M.1 12), .int (M.1 13), .ref 80, .int (M.1 15), .int (M.1 16), .ref 81, .ref 82, .ref 83, .int ((M.1 20) + 1), .int (M.1 21), .ref 84, .ref 85, .ref 86, .ref 87, .ref 88]) rfl ?_
          refine Ev.go 2 (s' := ((pu (pu (pu (pu (pu (pu h 84 (eI 8 (upd (M.2.1 22) (M.1 20).toNatClampNeg 6))) 85 (eI 8 (upd (M.2.1 23) (M.1 20).toNatClampNeg ((M.2.1 25) level.toNatClampNeg)))) 86 (eI 8 (upd (M.2.1 24) (M.1 20).toNatClampNeg axis))) 87 (eI 10 (upd (M.2.1 25) level.toNatClampNeg (M.1 20)))) 73 (eO 9 [.int (M.1 0), .int (M.1 1), .int (M.1 2), .ref 74, .ref 75, .ref 76, .ref 77, .int (M.1 7), .ref 78, .int (M.1 9), .ref 79, .int (M.1 11), .int (M.1 12), .int (M.1 13), .ref 80, .int (M.1 15), .int (M.1 16), .ref 81, .ref 82, .ref 83, .int (M.1 20), .int (M.1 21), .ref 84, .ref 85, .ref 86, .ref 87, .ref 88])) 73 (eO 9 [.int (M.1 0), .int (M.1 1), .int (M.1 2), .ref 74, .ref 75, .ref 76, .ref 77, .int (M.1 7), .ref 78, .int (M.1 9), .ref 79, .int (M.1 11), .int (M.1 12), .int (M.1 13), .ref 80, .int (M.1 15), .int (M.1 16), .ref 81, .ref 82, .ref 83, .int ((M.1 20) + 1), .int (M.1 21), .ref 84, .ref 85, .ref 86, .ref 87, .ref 88])), 123, [(0, .ref 73), (1, .int level), (2, .int axis), (3, .int y2)], [.ref 73, .ref 73])) rfl ?_
          refine Ev.get rfl (by decide) pu_s rfl ?_
          refine Ev.go 2 (s' := ((pu (pu (pu (pu (pu (pu h 84 (eI 8 (upd (M.2.1 22) (M.1 20).toNatClampNeg 6))) 85 (eI 8 (upd (M.2.1 23) (M.1 20).toNatClampNeg ((M.2.1 25) level.toNatClampNeg)))) 86 (eI 8 (upd (M.2.1 24) (M.1 20).toNatClampNeg axis))) 87 (eI 10 (upd (M.2.1 25) level.toNatClampNeg (M.1 20)))) 73 (eO 9 [.int (M.1 0), .int (M.1 1), .int (M.1 2), .ref 74, .ref 75, .ref 76, .ref 77, .int (M.1 7), .ref 78, .int (M.1 9), .ref 79, .int (M.1 11), .int (M.1 12), .int (M.1 13), .ref 80, .int (M.1 15), .int (M.1 16), .ref 81, .ref 82, .ref 83, .int (M.1 20), .int (M.1 21), .ref 84, .ref 85, .ref 86, .ref 87, .ref 88])) 73 (eO 9 [.int (M.1 0), .int (M.1 1), .int (M.1 2), .ref 74, .ref 75, .ref 76, .ref 77, .int (M.1 7), .ref 78, .int (M.1 9), .ref 79, .int (M.1 11), .int (M.1 12), .int (M.1 13), .ref 80, .int (M.1 15), .int (M.1 16), .ref 81, .ref 82, .ref 83, .int ((M.1 20) + 1), .int (M.1 21), .ref 84, .ref 85, .ref 86, .ref 87, .ref 88])), 128, [(0, .ref 73), (1, .int level), (2, .int axis), (3, .int y2)], [.int ((M.1 12) + 1), .ref 73])) rfl ?_
          refine Ev.put rfl rfl (by decide) pu_s (Nat.le_of_ble_eq_true rfl) rfl rfl (fs' := [.int (M.1 0), .int (M.1 1), .int (M.1 2), .ref 74, .ref 75, .ref 76, .ref 77, .int (M.1 7), .ref 78, .int (M.1 9), .ref 79, .int (M.1 11), .int ((M.1 12) + 1), .int (M.1 13), .ref 80, .int (M.1 15), .int (M.1 16), .ref 81, .ref 82, .ref 83, .int ((M.1 20) + 1), .int (M.1 21), .ref 84, .ref 85, .ref 86, .ref 87, .ref 88]) rfl ?_
          refine Ev.go 1 (s' := ((pu (pu (pu (pu (pu (pu (pu h 84 (eI 8 (upd (M.2.1 22) (M.1 20).toNatClampNeg 6))) 85 (eI 8 (upd (M.2.1 23) (M.1 20).toNatClampNeg ((M.2.1 25) level.toNatClampNeg)))) 86 (eI 8 (upd (M.2.1 24) (M.1 20).toNatClampNeg axis))) 87 (eI 10 (upd (M.2.1 25) level.toNatClampNeg (M.1 20)))) 73 (eO 9 [.int (M.1 0), .int (M.1 1), .int (M.1 2), .ref 74, .ref 75, .ref 76, .ref 77, .int (M.1 7), .ref 78, .int (M.1 9), .ref 79, .int (M.1 11), .int (M.1 12), .int (M.1 13), .ref 80, .int (M.1 15), .int (M.1 16), .ref 81, .ref 82, .ref 83, .int (M.1 20), .int (M.1 21), .ref 84, .ref 85, .ref 86, .ref 87, .ref 88])) 73 (eO 9 [.int (M.1 0), .int (M.1 1), .int (M.1 2), .ref 74, .ref 75, .ref 76, .ref 77, .int (M.1 7), .ref 78, .int (M.1 9), .ref 79, .int (M.1 11), .int (M.1 12), .int (M.1 13), .ref 80, .int (M.1 15), .int (M.1 16), .ref 81, .ref 82, .ref 83, .int ((M.1 20) + 1), .int (M.1 21), .ref 84, .ref 85, .ref 86, .ref 87, .ref 88])) 73 (eO 9 [.int (M.1 0), .int (M.1 1), .int (M.1 2), .ref 74, .ref 75, .ref 76, .ref 77, .int (M.1 7), .ref 78, .int (M.1 9), .ref 79, .int (M.1 11), .int ((M.1 12) + 1), .int (M.1 13), .ref 80, .int (M.1 15), .int (M.1 16), .ref 81, .ref 82, .ref 83, .int ((M.1 20) + 1), .int (M.1 21), .ref 84, .ref 85, .ref 86, .ref 87, .ref 88])), 132, [(0, .ref 73), (1, .int level), (2, .int axis), (3, .int y2)], [.int 1])) rfl ?_
          have H := Option.some.inj H
          subst H
          exact Ev.ret rfl rfl (p_retZ rfl) ⟨rfl, ⟨pu_s, (pu_n (by decide) (pu_n (by decide) (pu_n (by decide) (pu_n (by decide) (pu_n (by decide) (pu_n (by decide) (pu_n (by decide) xM.2.1))))))), (pu_n (by decide) (pu_n (by decide) (pu_n (by decide) (pu_n (by decide) (pu_n (by decide) (pu_n (by decide) (pu_n (by decide) xM.2.2.1))))))), (pu_n (by decide) (pu_n (by decide) (pu_n (by decide) (pu_n (by decide) (pu_n (by decide) (pu_n (by decide) (pu_n (by decide) xM.2.2.2.1))))))), (pu_n (by decide) (pu_n (by decide) (pu_n (by decide) (pu_n (by decide) (pu_n (by decide) (pu_n (by decide) (pu_n (by decide) xM.2.2.2.2.1))))))), (pu_n (by decide) (pu_n (by decide) (pu_n (by decide) (pu_n (by decide) (pu_n (by decide) (pu_n (by decide) (pu_n (by decide) xM.2.2.2.2.2.1))))))), (pu_n (by decide) (pu_n (by decide) (pu_n (by decide) (pu_n (by decide) (pu_n (by decide) (pu_n (by decide) (pu_n (by decide) xM.2.2.2.2.2.2.1))))))), (pu_n (by decide) (pu_n (by decide) (pu_n (by decide) (pu_n (by decide) (pu_n (by decide) (pu_n (by decide) (pu_n (by decide) xM.2.2.2.2.2.2.2.1))))))), (pu_n (by decide) (pu_n (by decide) (pu_n (by decide) (pu_n (by decide) (pu_n (by decide) (pu_n (by decide) (pu_n (by decide) xM.2.2.2.2.2.2.2.2.1))))))), (pu_n (by decide) (pu_n (by decide) (pu_n (by decide) (pu_n (by decide) (pu_n (by decide) (pu_n (by decide) (pu_n (by decide) xM.2.2.2.2.2.2.2.2.2.1))))))), (pu_n (by decide) (pu_n (by decide) (pu_n (by decide) (pu_n (by decide) (pu_n (by decide) (pu_n (by decide) (pu_n (by decide) xM.2.2.2.2.2.2.2.2.2.2.1))))))), (pu_n (by decide) (pu_n (by decide) (pu_n (by decide) (pu_n (by decide) (pu_n (by decide) (pu_n (by decide) pu_s)))))), (pu_n (by decide) (pu_n (by decide) (pu_n (by decide) (pu_n (by decide) (pu_n (by decide) pu_s))))), (pu_n (by decide) (pu_n (by decide) (pu_n (by decide) (pu_n (by decide) pu_s)))), (pu_n (by decide) (pu_n (by decide) (pu_n (by decide) pu_s))), (pu_n (by decide) (pu_n (by decide) (pu_n (by decide) (pu_n (by decide) (pu_n (by decide) (pu_n (by decide) (pu_n (by decide) xM.2.2.2.2.2.2.2.2.2.2.2.2.2.2.2)))))))⟩, (fun k hk => by rw [pu_x (show k ≠ 73 from fun e => by have := hk; simp at this; omega)]; rw [pu_x (show k ≠ 73 from fun e => by have := hk; simp at this; omega)]; rw [pu_x (show k ≠ 73 from fun e => by have := hk; simp at this; omega)]; rw [pu_x (show k ≠ 87 from fun e => by have := hk; simp at this; omega)]; rw [pu_x (show k ≠ 86 from fun e => by have := hk; simp at this; omega)]; rw [pu_x (show k ≠ 85 from fun e => by have := hk; simp at this; omega)]; rw [pu_x (show k ≠ 84 from fun e => by have := hk; simp at this; omega)])⟩
        · have c11 : ¬ (¬ level = 0) := c11
          rw [if_neg c11] at H
          refine Ev.go 1 (s' := ((pu (pu (pu (pu h 84 (eI 8 (upd (M.2.1 22) (M.1 20).toNatClampNeg 6))) 85 (eI 8 (upd (M.2.1 23) (M.1 20).toNatClampNeg ((M.2.1 25) level.toNatClampNeg)))) 86 (eI 8 (upd (M.2.1 24) (M.1 20).toNatClampNeg axis))) 87 (eI 10 (upd (M.2.1 25) level.toNatClampNeg (M.1 20)))), 98, [(0, .ref 73), (1, .int level), (2, .int axis), (3, .int y2)], [.ref 73, .ref 73])) rfl ?_
          refine Ev.get rfl (by decide) (pu_n (by decide) (pu_n (by decide) (pu_n (by decide) (pu_n (by decide) xM.1)))) rfl ?_
          refine Ev.go 1 (s' := ((pu (pu (pu (pu h 84 (eI 8 (upd (M.2.1 22) (M.1 20).toNatClampNeg 6))) 85 (eI 8 (upd (M.2.1 23) (M.1 20).toNatClampNeg ((M.2.1 25) level.toNatClampNeg)))) 86 (eI 8 (upd (M.2.1 24) (M.1 20).toNatClampNeg axis))) 87 (eI 10 (upd (M.2.1 25) level.toNatClampNeg (M.1 20)))), 108, [(0, .ref 73), (1, .int level), (2, .int axis), (3, .int y2)], [.int (M.1 20), .ref 73])) rfl ?_
          refine Ev.put rfl rfl (by decide) (pu_n (by decide) (pu_n (by decide) (pu_n (by decide) (pu_n (by decide) xM.1)))) (Nat.le_of_ble_eq_true rfl) rfl rfl (fs' := [.int (M.1 0), .int (M.1 1), .int (M.1 2), .ref 74, .ref 75, .ref 76, .ref 77, .int (M.1 7), .ref 78, .int (M.1 9), .ref 79, .int (M.1 11), .int (M.1 12), .int (M.1 13), .ref 80, .int (M.1 15), .int (M.1 16), .ref 81, .ref 82, .ref 83, .int (M.1 20), .int (M.1 20), .ref 84, .ref 85, .ref 86, .ref 87, .ref 88]) rfl ?_
          refine Ev.go 2 (s' := ((pu (pu (pu (pu (pu h 84 (eI 8 (upd (M.2.1 22) (M.1 20).toNatClampNeg 6))) 85 (eI 8 (upd (M.2.1 23) (M.1 20).toNatClampNeg ((M.2.1 25) level.toNatClampNeg)))) 86 (eI 8 (upd (M.2.1 24) (M.1 20).toNatClampNeg axis))) 87 (eI 10 (upd (M.2.1 25) level.toNatClampNeg (M.1 20)))) 73 (eO 9 [.int (M.1 0), .int (M.1 1), .int (M.1 2), .ref 74, .ref 75, .ref 76, .ref 77, .int (M.1 7), .ref 78, .int (M.1 9), .ref 79, .int (M.1 11), .int (M.1 12), .int (M.1 13), .ref 80, .int (M.1 15), .int (M.1 16), .ref 81, .ref 82, .ref 83, .int (M.1 20), .int (M.1 20), .ref 84, .ref 85, .ref 86, .ref 87, .ref 88])), 113, [(0, .ref 73), (1, .int level), (2, .int axis), (3, .int y2)], [.ref 73, .ref 73])) rfl ?_
          refine Ev.get rfl (by decide) pu_s rfl ?_
          refine Ev.go 2 (s' := ((pu (pu (pu (pu (pu h 84 (eI 8 (upd (M.2.1 22) (M.1 20).toNatClampNeg 6))) 85 (eI 8 (upd (M.2.1 23) (M.1 20).toNatClampNeg ((M.2.1 25) level.toNatClampNeg)))) 86 (eI 8 (upd (M.2.1 24) (M.1 20).toNatClampNeg axis))) 87 (eI 10 (upd (M.2.1 25) level.toNatClampNeg (M.1 20)))) 73 (eO 9 [.int (M.1 0), .int (M.1 1), .int (M.1 2), .ref 74, .ref 75, .ref 76, .ref 77, .int (M.1 7), .ref 78, .int (M.1 9), .ref 79, .int (M.1 11), .int (M.1 12), .int (M.1 13), .ref 80, .int (M.1 15), .int (M.1 16), .ref 81, .ref 82, .ref 83, .int (M.1 20), .int (M.1 20), .ref 84, .ref 85, .ref 86, .ref 87, .ref 88])), 118, [(0, .ref 73), (1, .int level), (2, .int axis), (3, .int y2)], [.int ((M.1 20) + 1), .ref 73])) rfl ?_
          refine Ev.put rfl rfl (by decide) pu_s (Nat.le_of_ble_eq_true rfl) rfl rfl (fs' := [.int (M.1 0), .int (M.1 1), .int (M.1 2), .ref 74, .ref 75, .ref 76, .ref 77, .int (M.1 7), .ref 78, .int (M.1 9), .ref 79, .int (M.1 11), .int (M.1 12), .int (M.1 13), .ref 80, .int (M.1 15), .int (M.1 16), .ref 81, .ref 82, .ref 83, .int ((M.1 20) + 1), .int (M.1 20), .ref 84, .ref 85, .ref 86, .ref 87, .ref 88]) rfl ?_
          refine Ev.go 2 (s' := ((pu (pu (pu (pu (pu (pu h 84 (eI 8 (upd (M.2.1 22) (M.1 20).toNatClampNeg 6))) 85 (eI 8 (upd (M.2.1 23) (M.1 20).toNatClampNeg ((M.2.1 25) level.toNatClampNeg)))) 86 (eI 8 (upd (M.2.1 24) (M.1 20).toNatClampNeg axis))) 87 (eI 10 (upd (M.2.1 25) level.toNatClampNeg (M.1 20)))) 73 (eO 9 [.int (M.1 0), .int (M.1 1), .int (M.1 2), .ref 74, .ref 75, .ref 76, .ref 77, .int (M.1 7), .ref 78, .int (M.1 9), .ref 79, .int (M.1 11), .int (M.1 12), .int (M.1 13), .ref 80, .int (M.1 15), .int (M.1 16), .ref 81, .ref 82, .ref 83, .int (M.1 20), .int (M.1 20), .ref 84, .ref 85, .ref 86, .ref 87, .ref 88])) 73 (eO 9 [.int (M.1 0), .int (M.1 1), .int (M.1 2), .ref 74, .ref 75, .ref 76, .ref 77, .int (M.1 7), .ref 78, .int (M.1 9), .ref 79, .int (M.1 11), .int (M.1 12), .int (M.1 13), .ref 80, .int (M.1 15), .int (M.1 16), .ref 81, .ref 82, .ref 83, .int ((M.1 20) + 1), .int (M.1 20), .ref 84, .ref 85, .ref 86, .ref 87, .ref 88])), 123, [(0, .ref 73), (1, .int level), (2, .int axis), (3, .int y2)], [.ref 73, .ref 73])) rfl ?_
          refine Ev.get rfl (by decide) pu_s rfl ?_
          refine Ev.go 2 (s' := ((pu (pu (pu (pu (pu (pu h 84 (eI 8 (upd (M.2.1 22) (M.1 20).toNatClampNeg 6))) 85 (eI 8 (upd (M.2.1 23) (M.1 20).toNatClampNeg ((M.2.1 25) level.toNatClampNeg)))) 86 (eI 8 (upd (M.2.1 24) (M.1 20).toNatClampNeg axis))) 87 (eI 10 (upd (M.2.1 25) level.toNatClampNeg (M.1 20)))) 73 (eO 9 [.int (M.1 0), .int (M.1 1), .int (M.1 2), .ref 74, .ref 75, .ref 76, .ref 77, .int (M.1 7), .ref 78, .int (M.1 9), .ref 79, .int (M.1 11), .int (M.1 12), .int (M.1 13), .ref 80, .int (M.1 15), .int (M.1 16), .ref 81, .ref 82, .ref 83, .int (M.1 20), .int (M.1 20), .ref 84, .ref 85, .ref 86, .ref 87, .ref 88])) 73 (eO 9 [.int (M.1 0), .int (M.1 1), .int (M.1 2), .ref 74, .ref 75, .ref 76, .ref 77, .int (M.1 7), .ref 78, .int (M.1 9), .ref 79, .int (M.1 11), .int (M.1 12), .int (M.1 13), .ref 80, .int (M.1 15), .int (M.1 16), .ref 81, .ref 82, .ref 83, .int ((M.1 20) + 1), .int (M.1 20), .ref 84, .ref 85, .ref 86, .ref 87, .ref 88])), 128, [(0, .ref 73), (1, .int level), (2, .int axis), (3, .int y2)], [.int ((M.1 12) + 1), .ref 73])) rfl ?_
          refine Ev.put rfl rfl (by decide) pu_s (Nat.le_of_ble_eq_true rfl) rfl rfl (fs' := [.int (M.1 0), .int (M.1 1), .int (M.1 2), .ref 74, .ref 75, .ref 76, .ref 77, .int (M.1 7), .ref 78, .int (M.1 9), .ref 79, .int (M.1 11), .int ((M.1 12) + 1), .int (M.1 13), .ref 80, .int (M.1 15), .int (M.1 16), .ref 81, .ref 82, .ref 83, .int ((M.1 20) + 1), .int (M.1 20), .ref 84, .ref 85, .ref 86, .ref 87, .ref 88]) rfl ?_
          refine Ev.go 1 (s' := ((pu (pu (pu (pu (pu (pu (pu h 84 (eI 8 (upd (M.2.1 22) (M.1 20).toNatClampNeg 6))) 85 (eI 8 (upd (M.2.1 23) (M.1 20).toNatClampNeg ((M.2.1 25) level.toNatClampNeg)))) 86 (eI 8 (upd (M.2.1 24) (M.1 20).toNatClampNeg axis))) 87 (eI 10 (upd (M.2.1 25) level.toNatClampNeg (M.1 20)))) 73 (eO 9 [.int (M.1 0), .int (M.1 1), .int (M.1 2), .ref 74, .ref 75, .ref 76, .ref 77, .int (M.1 7), .ref 78, .int (M.1 9), .ref 79, .int (M.1 11), .int (M.1 12), .int (M.1 13), .ref 80, .int (M.1 15), .int (M.1 16), .ref 81, .ref 82, .ref 83, .int (M.1 20), .int (M.1 20), .ref 84, .ref 85, .ref 86, .ref 87, .ref 88])) 73 (eO 9 [.int (M.1 0), .int (M.1 1), .int (M.1 2), .ref 74, .ref 75, .ref 76, .ref 77, .int (M.1 7), .ref 78, .int (M.1 9), .ref 79, .int (M.1 11), .int (M.1 12), .int (M.1 13), .ref 80, .int (M.1 15), .int (M.1 16), .ref 81, .ref 82, .ref 83, .int ((M.1 20) + 1), .int (M.1 20), .ref 84, .ref 85, .ref 86, .ref 87, .ref 88])) 73 (eO 9 [.int (M.1 0), .int (M.1 1), .int (M.1 2), .ref 74, .ref 75, .ref 76, .ref 77, .int (M.1 7), .ref 78, .int (M.1 9), .ref 79, .int (M.1 11), .int ((M.1 12) + 1), .int (M.1 13), .ref 80, .int (M.1 15), .int (M.1 16), .ref 81, .ref 82, .ref 83, .int ((M.1 20) + 1), .int (M.1 20), .ref 84, .ref 85, .ref 86, .ref 87, .ref 88])), 132, [(0, .ref 73), (1, .int level), (2, .int axis), (3, .int y2)], [.int 1])) rfl ?_
          have H := Option.some.inj H
          subst H
          exact Ev.ret rfl rfl (p_retZ rfl) ⟨rfl, ⟨pu_s, (pu_n (by decide) (pu_n (by decide) (pu_n (by decide) (pu_n (by decide) (pu_n (by decide) (pu_n (by decide) (pu_n (by decide) xM.2.1))))))), (pu_n (by decide) (pu_n (by decide) (pu_n (by decide) (pu_n (by decide) (pu_n (by decide) (pu_n (by decide) (pu_n (by decide) xM.2.2.1))))))), (pu_n (by decide) (pu_n (by decide) (pu_n (by decide) (pu_n (by decide) (pu_n (by decide) (pu_n (by decide) (pu_n (by decide) xM.2.2.2.1))))))), (pu_n (by decide) (pu_n (by decide) (pu_n (by decide) (pu_n (by decide) (pu_n (by decide) (pu_n (by decide) (pu_n (by decide) xM.2.2.2.2.1))))))), (pu_n (by decide) (pu_n (by decide) (pu_n (by decide) (pu_n (by decide) (pu_n (by decide) (pu_n (by decide) (pu_n (by decide) xM.2.2.2.2.2.1))))))), (pu_n (by decide) (pu_n (by decide) (pu_n (by decide) (pu_n (by decide) (pu_n (by decide) (pu_n (by decide) (pu_n (by decide) xM.2.2.2.2.2.2.1))))))), (pu_n (by decide) (pu_n (by decide) (pu_n (by decide) (pu_n (by decide) (pu_n (by decide) (pu_n (by decide) (pu_n (by decide) xM.2.2.2.2.2.2.2.1))))))), (pu_n (by decide) (pu_n (by decide) (pu_n (by decide) (pu_n (by decide) (pu_n (by decide) (pu_n (by decide) (pu_n (by decide) xM.2.2.2.2.2.2.2.2.1))))))), (pu_n (by decide) (pu_n (by decide) (pu_n (by decide) (pu_n (by decide) (pu_n (by decide) (pu_n (by decide) (pu_n (by decide) xM.2.2.2.2.2.2.2.2.2.1))))))), (pu_n (by decide) (pu_n (by decide) (pu_n (by decide) (pu_n (by decide) (pu_n (by decide) (pu_n (by decide) (pu_n (by decide) xM.2.2.2.2.2.2.2.2.2.2.1))))))), (pu_n (by decide) (pu_n (by decide) (pu_n (by decide) (pu_n (by decide) (pu_n (by decide) (pu_n (by decide) pu_s)))))), (pu_n (by decide) (pu_n (by decide) (pu_n (by decide) (pu_n (by decide) (pu_n (by decide) pu_s))))), (pu_n (by decide) (pu_n (by decide) (pu_n (by decide) (pu_n (by decide) pu_s)))), (pu_n (by decide) (pu_n (by decide) (pu_n (by decide) pu_s))), (pu_n (by decide) (pu_n (by decide) (pu_n (by decide) (pu_n (by decide) (pu_n (by decide) (pu_n (by decide) (pu_n (by decide) xM.2.2.2.2.2.2.2.2.2.2.2.2.2.2.2)))))))⟩, (fun k hk => by rw [pu_x (show k ≠ 73 from fun e => by have := hk; simp at this; omega)]; rw [pu_x (show k ≠ 73 from fun e => by have := hk; simp at this; omega)]; rw [pu_x (show k ≠ 73 from fun e => by have := hk; simp at this; omega)]; rw [pu_x (show k ≠ 87 from fun e => by have := hk; simp at this; omega)]; rw [pu_x (show k ≠ 86 from fun e => by have := hk; simp at this; omega)]; rw [pu_x (show k ≠ 85 from fun e => by have := hk; simp at this; omega)]; rw [pu_x (show k ≠ 84 from fun e => by have := hk; simp at this; omega)])⟩
    · have c4 : ¬ (y2 = 42) := c4
      rw [if_neg c4] at H
      refine Ev.go 3 (s' := (h, 25, [(0, .ref 73), (1, .int level), (2, .int axis), (3, .int y2)], [.int 102, .int 97, .int y2])) rfl ?_
      refine Ev.callE rfl rfl rfl rfl rfl (Nat.le_of_ble_eq_true rfl) (spX10_in  y2 97 102) ?_
      refine Ev.if1 rfl (fun c12 => ?_) (fun c12 => ?_)
      · have c12 : ¬ (fX10_in y2 97 102) = 0 := c12
        rw [if_pos c12] at H
        refine Ev.go 1 (s' := (h, 34, [(0, .ref 73), (1, .int level), (2, .int axis), (3, .int y2)], [.ref 73])) rfl ?_
        refine Ev.get rfl (by decide) xM.1 rfl ?_
        refine Ev.go 1 (s' := (h, 38, [(0, .ref 73), (1, .int level), (2, .int axis), (3, .int y2)], [.ref 73, .ref 84])) rfl ?_
        refine Ev.get rfl (by decide) xM.1 rfl ?_
        refine Ev.go 2 (s' := (h, 44, [(0, .ref 73), (1, .int level), (2, .int axis), (3, .int y2)], [.int 42, .int y2, .int (M.1 20), .ref 84])) rfl ?_
        refine Ev.if2 rfl (fun c13 => ?_) (fun c13 => ?_)
        · have c13 : ¬ y2 = 42 := c13
          rw [if_pos c13] at H
          refine Ev.go 3 (s' := (h, 56, [(0, .ref 73), (1, .int level), (2, .int axis), (3, .int y2)], [.int (y2 - 97), .int (M.1 20), .ref 84])) rfl ?_
          have v14 : vp_in (M.1 20) 8 := fun q => by rw [if_pos q] at H; cases H
          rw [if_neg v14] at H
          refine Ev.iast rfl (by decide) xM.2.2.2.2.2.2.2.2.2.2.2.1 v14 ?_
          refine Ev.go 1 (s' := ((pu h 84 (eI 8 (upd (M.2.1 22) (M.1 20).toNatClampNeg (y2 - 97)))), 58, [(0, .ref 73), (1, .int level), (2, .int axis), (3, .int y2)], [.ref 73])) rfl ?_
          refine Ev.get rfl (by decide) (pu_n (by decide) xM.1) rfl ?_
          refine Ev.go 1 (s' := ((pu h 84 (eI 8 (upd (M.2.1 22) (M.1 20).toNatClampNeg (y2 - 97)))), 62, [(0, .ref 73), (1, .int level), (2, .int axis), (3, .int y2)], [.ref 73, .ref 85])) rfl ?_
          refine Ev.get rfl (by decide) (pu_n (by decide) xM.1) rfl ?_
          refine Ev.go 1 (s' := ((pu h 84 (eI 8 (upd (M.2.1 22) (M.1 20).toNatClampNeg (y2 - 97)))), 66, [(0, .ref 73), (1, .int level), (2, .int axis), (3, .int y2)], [.ref 73, .int (M.1 20), .ref 85])) rfl ?_
          refine Ev.get rfl (by decide) (pu_n (by decide) xM.1) rfl ?_
          refine Ev.go 1 (s' := ((pu h 84 (eI 8 (upd (M.2.1 22) (M.1 20).toNatClampNeg (y2 - 97)))), 70, [(0, .ref 73), (1, .int level), (2, .int axis), (3, .int y2)], [.int level, .ref 87, .int (M.1 20), .ref 85])) rfl ?_
          have v15 : vp_in level 10 := fun q => by rw [if_pos q] at H; cases H
          rw [if_neg v15] at H
          refine Ev.iald rfl (by decide) (pu_n (by decide) xM.2.2.2.2.2.2.2.2.2.2.2.2.2.2.1) v15 ?_
          refine Ev.iast rfl (by decide) (pu_n (by decide) xM.2.2.2.2.2.2.2.2.2.2.2.2.1) v14 ?_
          refine Ev.go 1 (s' := ((pu (pu h 84 (eI 8 (upd (M.2.1 22) (M.1 20).toNatClampNeg (y2 - 97)))) 85 (eI 8 (upd (M.2.1 23) (M.1 20).toNatClampNeg ((M.2.1 25) level.toNatClampNeg)))), 73, [(0, .ref 73), (1, .int level), (2, .int axis), (3, .int y2)], [.ref 73])) rfl ?_
          refine Ev.get rfl (by decide) (pu_n (by decide) (pu_n (by decide) xM.1)) rfl ?_
          refine Ev.go 1 (s' := ((pu (pu h 84 (eI 8 (upd (M.2.1 22) (M.1 20).toNatClampNeg (y2 - 97)))) 85 (eI 8 (upd (M.2.1 23) (M.1 20).toNatClampNeg ((M.2.1 25) level.toNatClampNeg)))), 77, [(0, .ref 73), (1, .int level), (2, .int axis), (3, .int y2)], [.ref 73, .ref 86])) rfl ?_
          refine Ev.get rfl (by decide) (pu_n (by decide) (pu_n (by decide) xM.1)) rfl ?_
          refine Ev.go 1 (s' := ((pu (pu h 84 (eI 8 (upd (M.2.1 22) (M.1 20).toNatClampNeg (y2 - 97)))) 85 (eI 8 (upd (M.2.1 23) (M.1 20).toNatClampNeg ((M.2.1 25) level.toNatClampNeg)))), 81, [(0, .ref 73), (1, .int level), (2, .int axis), (3, .int y2)], [.int axis, .int (M.1 20), .ref 86])) rfl ?_
          refine Ev.iast rfl (by decide) (pu_n (by decide) (pu_n (by decide) xM.2.2.2.2.2.2.2.2.2.2.2.2.2.1)) v14 ?_
          refine Ev.go 1 (s' := ((pu (pu (pu h 84 (eI 8 (upd (M.2.1 22) (M.1 20).toNatClampNeg (y2 - 97)))) 85 (eI 8 (upd (M.2.1 23) (M.1 20).toNatClampNeg ((M.2.1 25) level.toNatClampNeg)))) 86 (eI 8 (upd (M.2.1 24) (M.1 20).toNatClampNeg axis))), 83, [(0, .ref 73), (1, .int level), (2, .int axis), (3, .int y2)], [.ref 73])) rfl ?_
          refine Ev.get rfl (by decide) (pu_n (by decide) (pu_n (by decide) (pu_n (by decide) xM.1))) rfl ?_
          refine Ev.go 2 (s' := ((pu (pu (pu h 84 (eI 8 (upd (M.2.1 22) (M.1 20).toNatClampNeg (y2 - 97)))) 85 (eI 8 (upd (M.2.1 23) (M.1 20).toNatClampNeg ((M.2.1 25) level.toNatClampNeg)))) 86 (eI 8 (upd (M.2.1 24) (M.1 20).toNatClampNeg axis))), 88, [(0, .ref 73), (1, .int level), (2, .int axis), (3, .int y2)], [.ref 73, .int level, .ref 87])) rfl ?_
          refine Ev.get rfl (by decide) (pu_n (by decide) (pu_n (by decide) (pu_n (by decide) xM.1))) rfl ?_
          refine Ev.iast rfl (by decide) (pu_n (by decide) (pu_n (by decide) (pu_n (by decide) xM.2.2.2.2.2.2.2.2.2.2.2.2.2.2.1))) v15 ?_
          refine Ev.go 2 (s' := ((pu (pu (pu (pu h 84 (eI 8 (upd (M.2.1 22) (M.1 20).toNatClampNeg (y2 - 97)))) 85 (eI 8 (upd (M.2.1 23) (M.1 20).toNatClampNeg ((M.2.1 25) level.toNatClampNeg)))) 86 (eI 8 (upd (M.2.1 24) (M.1 20).toNatClampNeg axis))) 87 (eI 10 (upd (M.2.1 25) level.toNatClampNeg (M.1 20)))), 94, [(0, .ref 73), (1, .int level), (2, .int axis), (3, .int y2)], [.int level, .ref 73])) rfl ?_
          refine Ev.if1 rfl (fun c16 => ?_) (fun c16 => ?_)
          · have c16 : ¬ level = 0 := c16
            rw [if_pos c16] at H
            refine Ev.go 1 (s' := ((pu (pu (pu (pu h 84 (eI 8 (upd (M.2.1 22) (M.1 20).toNatClampNeg (y2 - 97)))) 85 (eI 8 (upd (M.2.1 23) (M.1 20).toNatClampNeg ((M.2.1 25) level.toNatClampNeg)))) 86 (eI 8 (upd (M.2.1 24) (M.1 20).toNatClampNeg axis))) 87 (eI 10 (upd (M.2.1 25) level.toNatClampNeg (M.1 20)))), 105, [(0, .ref 73), (1, .int level), (2, .int axis), (3, .int y2)], [.ref 73, .ref 73])) rfl ?_
            refine Ev.get rfl (by decide) (pu_n (by decide) (pu_n (by decide) (pu_n (by decide) (pu_n (by decide) xM.1)))) rfl ?_
            refine Ev.put rfl rfl (by decide) (pu_n (by decide) (pu_n (by decide) (pu_n (by decide) (pu_n (by decide) xM.1)))) (Nat.le_of_ble_eq_true rfl) rfl rfl (fs' := [.int (M.1 0), .int (M.1 1), .int (M.1 2), .ref 74, .ref 75, .ref 76, .ref 77, .int (M.1 7), .ref 78, .int (M.1 9), .ref 79, .int (M.1 11), .int (M.1 12), .int (M.1 13), .ref 80, .int (M.1 15), .int (M.1 16), .ref 81, .ref 82, .ref 83, .int (M.1 20), .int (M.1 21), .ref 84, .ref 85, .ref 86, .ref 87, .ref 88]) rfl ?_
            refine Ev.go 2 (s' := ((pu (pu (pu (pu (pu h 84 (eI 8 (upd (M.2.1 22) (M.1 20).toNatClampNeg (y2 - 97)))) 85 (eI 8 (upd (M.2.1 23) (M.1 20).toNatClampNeg ((M.2.1 25) level.toNatClampNeg)))) 86 (eI 8 (upd (M.2.1 24) (M.1 20).toNatClampNeg axis))) 87 (eI 10 (upd (M.2.1 25) level.toNatClampNeg (M.1 20)))) 73 (eO 9 [.int (M.1 0), .int (M.1 1), .int (M.1 2), .ref 74, .ref 75, .ref 76, .ref 77, .int (M.1 7), .ref 78, .int (M.1 9), .ref 79, .int (M.1 11), .int (M.1 12), .int (M.1 13), .ref 80, .int (M.1 15), .int (M.1 16), .ref 81, .ref 82, .ref 83, .int (M.1 20), .int (M.1 21), .ref 84, .ref 85, .ref 86, .ref 87, .ref 88])), 113, [(0, .ref 73), (1, .int level), (2, .int axis), (3, .int y2)], [.ref 73, .ref 73])) rfl ?_
            refine Ev.get rfl (by decide) pu_s rfl ?_
            refine Ev.go 2 (s' := ((pu (pu (pu (pu (pu h 84 (eI 8 (upd (M.2.1 22) (M.1 20).toNatClampNeg (y2 - 97)))) 85 (eI 8 (upd (M.2.1 23) (M.1 20).toNatClampNeg ((M.2.1 25) level.toNatClampNeg)))) 86 (eI 8 (upd (M.2.1 24) (M.1 20).toNatClampNeg axis))) 87 (eI 10 (upd (M.2.1 25) level.toNatClampNeg (M.1 20)))) 73 (eO 9 [.int (M.1 0), .int (M.1 1), .int (M.1 2), .ref 74, .ref 75, .ref 76, .ref 77, .int (M.1 7), .ref 78, .int (M.1 9), .ref 79, .int (M.1 11), .int (M.1 12), .int (M.1 13), .ref 80, .int (M.1 15), .int (M.1 16), .ref 81, .ref 82, .ref 83, .int (M.1 20), .int (M.1 21), .ref 84, .ref 85, .ref 86, .ref 87, .ref 88])), 118, [(0, .ref 73), (1, .int level), (2, .int axis), (3, .int y2)], [.int ((M.1 20) + 1), .ref 73])) rfl ?_
            refine Ev.put rfl rfl (by decide) pu_s (Nat.le_of_ble_eq_true rfl) rfl rfl (fs' := [.int (M.1 0), .int (M.1 1), .int (M.1 2), .ref 74, .ref 75, .ref 76, .ref 77, .int (M.1 7), .ref 78, .int (M.1 9), .ref 79, .int (M.1 11), .int (M.1 12), .int (M.1 13), .ref 80, .int (M.1 15), .int (M.1 16), .ref 81, .ref 82, .ref 83, .int ((M.1 20) + 1), .int (M.1 21), .ref 84, .ref 85, .ref 86, .ref 87, .ref 88]) rfl ?_
            refine Ev.go 2 (s' := ((pu (pu (pu (pu (pu (pu h 84 (eI 8 (upd (M.2.1 22) (M.1 20).toNatClampNeg (y2 - 97)))) 85 (eI 8 (upd (M.2.1 23) (M.1 20).toNatClampNeg ((M.2.1 25) level.toNatClampNeg)))) 86 (eI 8 (upd (M.2.1 24) (M.1 20).toNatClampNeg axis))) 87 (eI 10 (upd (M.2.1 25) level.toNatClampNeg (M.1 20)))) 73 (eO 9 [.int (M.1 0), .int (M.1 1), .int (M.1 2), .ref 74, .ref 75, .ref 76, .ref 77, .int (M.1 7), .ref 78, .int (M.1 9), .ref 79, .int (M.1 11), .int (M.1 12), .int (M.1 13), .ref 80, .int (M.1 15), .int (M.1 16), .ref 81, .ref 82, .ref 83, .int (M.1 20), .int (M.1 21), .ref 84, .ref 85, .ref 86, .ref 87, .ref 88])) 73 (eO 9 [.int (M.1 0), .int (M.1 1), .int (M.1 2), .ref 74, .ref 75, .ref 76, .ref 77, .int (M.1 7), .ref 78, .int (M.1 9), .ref 79, .int (M.1 11), .int (M.1 12), .int (M.1 13), .ref 80, .int (M.1 15), .int (M.1 16), .ref 81, .ref 82, .ref 83, .int ((M.1 20) + 1), .int (M.1 21), .ref 84, .ref 85, .ref 86, .ref 87, .ref 88])), 123, [(0, .ref 73), (1, .int level), (2, .int axis), (3, .int y2)], [.ref 73, .ref 73])) rfl ?_
            refine Ev.get rfl (by decide) pu_s rfl ?_
            refine Ev.go 2 (s' := ((pu (pu (pu (pu (pu (pu h 84 (eI 8 (upd (M.2.1 22) (M.1 20).toNatClampNeg (y2 - 97)))) 85 (eI 8 (upd (M.2.1 23) (M.1 20).toNatClampNeg ((M.2.1 25) level.toNatClampNeg)))) 86 (eI 8 (upd (M.2.1 24) (M.1 20).toNatClampNeg axis))) 87 (eI 10 (upd (M.2.1 25) level.toNatClampNeg (M.1 20)))) 73 (eO 9 [.int (M.1 0), .int (M.1 1), .int (M.1 2), .ref 74, .ref 75, .ref 76, .ref 77, .int (M.1 7), .ref 78, .int (M.1 9), .ref 79, .int (M.1 11), .int (M.1 12), .int (M.1 13), .ref 80, .int (M.1 15), .int (M.1 16), .ref 81, .ref 82, .ref 83, .int (M.1 20), .int (M.1 21), .ref 84, .ref 85, .ref 86, .ref 87, .ref 88])) 73 (eO 9 [.int (M.1 0), .int (M.1 1), .int (M.1 2), .ref 74, .ref 75, .ref 76, .ref 77, .int (M.1 7), .ref 78, .int (M.1 9), .ref 79, .int (M.1 11), .int (M.1 12), .int (M.1 13), .ref 80, .int (M.1 15), .int (M.1 16), .ref 81, .ref 82, .ref 83, .int ((M.1 20) + 1), .int (M.1 21), .ref 84, .ref 85, .ref 86, .ref 87, .ref 88])), 128, [(0, .ref 73), (1, .int level), (2, .int axis), (3, .int y2)], [.int ((M.1 12) + 1), .ref 73])) rfl ?_
            refine Ev.put rfl rfl (by decide) pu_s (Nat.le_of_ble_eq_true rfl) rfl rfl (fs' := [.int (M.1 0), .int (M.1 1), .int (M.1 2), .ref 74, .ref 75, .ref 76, .ref 77, .int (M.1 7), .ref 78, .int (M.1 9), .ref 79, .int (M.1 11), .int ((M.1 12) + 1), .int (M.1 13), .ref 80, .int (M.1 15), .int (M.1 16), .ref 81, .ref 82, .ref 83, .int ((M.1 20) + 1), .int (M.1 21), .ref 84, .ref 85, .ref 86, .ref 87, .ref 88]) rfl ?_
            refine Ev.go 1 (s' := ((pu (pu (pu (pu (pu (pu (pu h 84 (eI 8 (upd (M.2.1 22) (M.1 20).toNatClampNeg (y2 - 97)))) 85 (eI 8 (upd (M.2.1 23) (M.1 20).toNatClampNeg ((M.2.1 25) level.toNatClampNeg)))) 86 (eI 8 (upd (M.2.1 24) (M.1 20).toNatClampNeg axis))) 87 (eI 10 (upd (M.2.1 25) level.toNatClampNeg (M.1 20)))) 73 (eO 9 [.int (M.1 0), .int (M.1 1), .int (M.1 2), .ref 74, .ref 75, .ref 76, .ref 77, .int (M.1 7), .ref 78, .int (M.1 9), .ref 79, .int (M.1 11), .int (M.1 12), .int (M.1 13), .ref 80, .int (M.1 15), .int (M.1 16), .ref 81, .ref 82, .ref 83, .int (M.1 20), .int (M.1 21), .ref 84, .ref 85, .ref 86, .ref 87, .ref 88])) 73 (eO 9 [.int (M.1 0), .int (M.1 1), .int (M.1 2), .ref 74, .ref 75, .ref 76, .ref 77, .int (M.1 7), .ref 78, .int (M.1 9), .ref 79, .int (M.1 11), .int (M.1 12), .int (M.1 13), .ref 80, .int (M.1 15), .int (M.1 16), .ref 81, .ref 82, .ref 83, .int ((M.1 20) + 1), .int (M.1 21), .ref 84, .ref 85, .ref 86, .ref 87, .ref 88])) 73 (eO 9 [.int (M.1 0), .int (M.1 1), .int (M.1 2), .ref 74, .ref 75, .ref 76, .ref 77, .int (M.1 7), .ref 78, .int (M.1 9), .ref 79, .int (M.1 11), .int ((M.1 12) + 1), .int (M.1 13), .ref 80, .int (M.1 15), .int (M.1 16), .ref 81, .ref 82, .ref 83, .int ((M.1 20) + 1), .int (M.1 21), .ref 84, .ref 85, .ref 86, .ref 87, .ref 88])), 132, [(0, .ref 73), (1, .int level), (2, .int axis), (3, .int y2)], [.int 1])) rfl ?_
            have H := Option.some.inj H
            subst H
            exact Ev.ret rfl rfl (p_retZ rfl) ⟨rfl, ⟨pu_s, (pu_n (by decide) (pu_n (by decide) (pu_n (by decide) (pu_n (by decide) (pu_n (by decide) (pu_n (by decide) (pu_n (by decide) xM.2.1))))))), (pu_n (by decide) (pu_n (by decide) (pu_n (by decide) (pu_n (by decide) (pu_n (by decide) (pu_n (by decide) (pu_n (by decide) xM.2.2.1))))))), (pu_n (by decide) (pu_n (by decide) (pu_n (by decide) (pu_n (by decide) (pu_n (by decide) (pu_n (by decide) (pu_n (by decide) xM.2.2.2.1))))))), (pu_n (by decide) (pu_n (by decide) (pu_n (by decide) (pu_n (by decide) (pu_n (by decide) (pu_n (by decide) (pu_n (by decide) xM.2.2.2.2.1))))))), (pu_n (by decide) (pu_n (by decide) (pu_n (by decide) (pu_n (by decide) (pu_n (by decide) (pu_n (by decide) (pu_n (by decide) xM.2.2.2.2.2.1))))))), (pu_n (by decide) (pu_n (by decide) (pu_n (by decide) (pu_n (by decide) (pu_n (by decide) (pu_n (by decide) (pu_n (by decide) xM.2.2.2.2.2.2.1))))))), (pu_n (by decide) (pu_n (by decide) (pu_n (by decide) (pu_n (by decide) (pu_n (by decide) (pu_n (by decide) (pu_n (by decide) xM.2.2.2.2.2.2.2.1))))))), (pu_n (by decide) (pu_n (by decide) (pu_n (by decide) (pu_n (by decide) (pu_n (by decide) (pu_n (by decide) (pu_n (by decide) xM.2.2.2.2.2.2.2.2.1))))))), (pu_n (by decide) (pu_n (by decide) (pu_n (by decide) (pu_n (by decide) (pu_n (by decide) (pu_n (by decide) (pu_n (by decide) xM.2.2.2.2.2.2.2.2.2.1))))))), (pu_n (by decide) (pu_n (by decide) (pu_n (by decide) (pu_n (by decide) (pu_n (by decide) (pu_n (by decide) (pu_n (by decide) xM.2.2.2.2.2.2.2.2.2.2.1))))))), (pu_n (by decide) (pu_n (by decide) (pu_n (by decide) (pu_n (by decide) (pu_n (by decide) (pu_n (by decide) pu_s)))))), (pu_n (by decide) (pu_n (by decide) (pu_n (by decide) (pu_n (by decide) (pu_n (by decide) pu_s))))), (pu_n (by decide) (pu_n (by decide) (pu_n (by decide) (pu_n (by decide) pu_s)))), (pu_n (by decide) (pu_n (by decide) (pu_n (by decide) pu_s))), (pu_n (by decide) (pu_n (by decide) (pu_n (by decide) (pu_n (by decide) (pu_n (by decide) (pu_n (by decide) (pu_n (by decide) xM.2.2.2.2.2.2.2.2.2.2.2.2.2.2.2)))))))⟩, (fun k hk => by rw [pu_x (show k ≠ 73 from fun e => by have := hk; simp at this; omega)]; rw [pu_x (show k ≠ 73 from fun e => by have := hk; simp at this; omega)]; rw [pu_x (show k ≠ 73 from fun e => by have := hk; simp at this; omega)]; rw [pu_x (show k ≠ 87 from fun e => by have := hk; simp at this; omega)]; rw [pu_x (show k ≠ 86 from fun e => by have := hk; simp at this; omega)]; rw [pu_x (show k ≠ 85 from fun e => by have := hk; simp at this; omega)]; rw [pu_x (show k ≠ 84 from fun e => by have := hk; simp at this; omega)])⟩
          · have c16 : ¬ (¬ level = 0) := c16
            rw [if_neg c16] at H
            refine Ev.go 1 (s' := ((pu (pu (pu (pu h 84 (eI 8 (upd (M.2.1 22) (M.1 20).toNatClampNeg (y2 - 97)))) 85 (eI 8 (upd (M.2.1 23) (M.1 20).toNatClampNeg ((M.2.1 25) level.toNatClampNeg)))) 86 (eI 8 (upd (M.2.1 24) (M.1 20).toNatClampNeg axis))) 87 (eI 10 (upd (M.2.1 25) level.toNatClampNeg (M.1 20)))), 98, [(0, .ref 73), (1, .int level), (2, .int axis), (3, .int y2)], [.ref 73, .ref 73])) rfl ?_
            refine Ev.get rfl (by decide) (pu_n (by decide) (pu_n (by decide) (pu_n (by decide) (pu_n (by decide) xM.1)))) rfl ?_
            refine Ev.go 1 (s' := ((pu (pu (pu (pu h 84 (eI 8 (upd (M.2.1 22) (M.1 20).toNatClampNeg (y2 - 97)))) 85 (eI 8 (upd (M.2.1 23) (M.1 20).toNatClampNeg ((M.2.1 25) level.toNatClampNeg)))) 86 (eI 8 (upd (M.2.1 24) (M.1 20).toNatClampNeg axis))) 87 (eI 10 (upd (M.2.1 25) level.toNatClampNeg (M.1 20)))), 108, [(0, .ref 73), (1, .int level), (2, .int axis), (3, .int y2)], [.int (M.1 20), .ref 73])) rfl ?_
            refine Ev.put rfl rfl (by decide) (pu_n (by decide) (pu_n (by decide) (pu_n (by decide) (pu_n (by decide) xM.1)))) (Nat.le_of_ble_eq_true rfl) rfl rfl (fs' := [.int (M.1 0), .int (M.1 1), .int (M.1 2), .ref 74, .ref 75, .ref 76, .ref 77, .int (M.1 7), .ref 78, .int (M.1 9), .ref 79, .int (M.1 11), .int (M.1 12), .int (M.1 13), .ref 80, .int (M.1 15), .int (M.1 16), .ref 81, .ref 82, .ref 83, .int (M.1 20), .int (M.1 20), .ref 84, .ref 85, .ref 86, .ref 87, .ref 88]) rfl ?_
            refine Ev.go 2 (s' := ((pu (pu (pu (pu (pu h 84 (eI 8 (upd (M.2.1 22) (M.1 20).toNatClampNeg (y2 - 97)))) 85 (eI 8 (upd (M.2.1 23) (M.1 20).toNatClampNeg ((M.2.1 25) level.toNatClampNeg)))) 86 (eI 8 (upd (M.2.1 24) (M.1 20).toNatClampNeg axis))) 87 (eI 10 (upd (M.2.1 25) level.toNatClampNeg (M.1 20)))) 73 (eO 9 [.int (M.1 0), .int (M.1 1), .int (M.1 2), .ref 74, .ref 75, .ref 76, .ref 77, .int (M.1 7), .ref 78, .int (M.1 9), .ref 79, .int (M.1 11), .int (M.1 12), .int (M.1 13), .ref 80, .int (M.1 15), .int (M.1 16), .ref 81, .ref 82, .ref 83, .int (M.1 20), .int (M.1 20), .ref 84, .ref 85, .ref 86, .ref 87, .ref 88])), 113, [(0, .ref 73), (1, .int level), (2, .int axis), (3, .int y2)], [.ref 73, .ref 73])) rfl ?_
            refine Ev.get rfl (by decide) pu_s rfl ?_
            refine Ev.go 2 (s' := ((pu (pu (pu (pu (pu h 84 (eI 8 (upd (M.2.1 22) (M.1 20).toNatClampNeg (y2 - 97)))) 85 (eI 8 (upd (M.2.1 23) (M.1 20).toNatClampNeg ((M.2.1 25) level.toNatClampNeg)))) 86 (eI 8 (upd (M.2.1 24) (M.1 20).toNatClampNeg axis))) 87 (eI 10 (upd (M.2.1 25) level.toNatClampNeg (M.1 20)))) 73 (eO 9 [.int (M.1 0), .int (M.1 1), .int (M.1 2), .ref 74, .ref 75, .ref 76, .ref 77, .int (M.1 7), .ref 78, .int (M.1 9), .ref 79, .int (M.1 11), .int (M.1 12), .int (M.1 13), .ref 80, .int (M.1 15), .int (M.1 16), .ref 81, .ref 82, .ref 83, .int (M.1 20), .int (M.1 20), .ref 84, .ref 85, .ref 86, .ref 87, .ref 88])), 118, [(0, .ref 73), (1, .int level), (2, .int axis), (3, .int y2)], [.int ((M.1 20) + 1), .ref 73])) rfl ?_
            refine Ev.put rfl rfl (by decide) pu_s (Nat.le_of_ble_eq_true rfl) rfl rfl (fs' := [.int (M.1 0), .int (M.1 1), .int (M.1 2), .ref 74, .ref 75, .ref 76, .ref 77, .int (M.1 7), .ref 78, .int (M.1 9), .ref 79, .int (M.1 11), .int (M.1 12), .int (M.1 13), .ref 80, .int (M.1 15), .int (M.1 16), .ref 81, .ref 82, .ref 83, .int ((M.1 20) + 1), .int (M.1 20), .ref 84, .ref 85, .ref 86, .ref 87, .ref 88]) rfl ?_
            refine Ev.go 2 (s' := ((pu (pu (pu (pu (pu (pu h 84 (eI 8 (upd (M.2.1 22) (M.1 20).toNatClampNeg (y2 - 97)))) 85 (eI 8 (upd (M.2.1 23) (M.1 20).toNatClampNeg ((M.2.1 25) level.toNatClampNeg)))) 86 (eI 8 (upd (M.2.1 24) (M.1 20).toNatClampNeg axis))) 87 (eI 10 (upd (M.2.1 25) level.toNatClampNeg (M.1 20)))) 73 (eO 9 [.int (M.1 0), .int (M.1 1), .int (M.1 2), .ref 74, .ref 75, .ref 76, .ref 77, .int (M.1 7), .ref 78, .int (M.1 9), .ref 79, .int (M.1 11), .int (M.1 12), .int (M.1 13), .ref 80, .int (M.1 15), .int (M.1 16), .ref 81, .ref 82, .ref 83, .int (M.1 20), .int (M.1 20), .ref 84, .ref 85, .ref 86, .ref 87, .ref 88])) 73 (eO 9 [.int (M.1 0), .int (M.1 1), .int (M.1 2), .ref 74, .ref 75, .ref 76, .ref 77, .int (M.1 7), .ref 78, .int (M.1 9), .ref 79, .int (M.1 11), .int (M.1 12), .int (M.1 13), .ref 80, .int (M.1 15), .int (M.1 16), .ref 81, .ref 82, .ref 83, .int ((M.1 20) + 1), .int (M.1 20), .ref 84, .ref 85, .ref 86, .ref 87, .ref 88])), 123, [(0, .ref 73), (1, .int level), (2, .int axis), (3, .int y2)], [.ref 73, .ref 73])) rfl ?_
            refine Ev.get rfl (by decide) pu_s rfl ?_
            refine Ev.go 2 (s' := ((pu (pu (pu (pu (pu (pu h 84 (eI 8 (upd (M.2.1 22) (M.1 20).toNatClampNeg (y2 - 97)))) 85 (eI 8 (upd (M.2.1 23) (M.1 20).toNatClampNeg ((M.2.1 25) level.toNatClampNeg)))) 86 (eI 8 (upd (M.2.1 24) (M.1 20).toNatClampNeg axis))) 87 (eI 10 (upd (M.2.1 25) level.toNatClampNeg (M.1 20)))) 73 (eO 9 [.int (M.1 0), .int (M.1 1), .int (M.1 2), .ref 74, .ref 75, .ref 76, .ref 77, .int (M.1 7), .ref 78, .int (M.1 9), .ref 79, .int (M.1 11), .int (M.1 12), .int (M.1 13), .ref 80, .int (M.1 15), .int (M.1 16), .ref 81, .ref 82, .ref 83, .int (M.1 20), .int (M.1 20), .ref 84, .ref 85, .ref 86, .ref 87, .ref 88])) 73 (eO 9 [.int (M.1 0), .int (M.1 1), .int (M.1 2), .ref 74, .ref 75, .ref 76, .ref 77, .int (M.1 7), .ref 78, .int (M.1 9), .ref 79, .int (M.1 11), .int (M.1 12), .int (M.1 13), .ref 80, .int (M.1 15), .int (M.1 16), .ref 81, .ref 82, .ref 83, .int ((M.1 20) + 1), .int (M.1 20), .ref 84, .ref 85, .ref 86, .ref 87, .ref 88])), 128, [(0, .ref 73), (1, .int level), (2, .int axis), (3, .int y2)], [.int ((M.1 12) + 1), .ref 73])) rfl ?_
            refine Ev.put rfl rfl (by decide) pu_s (Nat.le_of_ble_eq_true rfl) rfl rfl (fs' := [.int (M.1 0), .int (M.1 1), .int (M.1 2), .ref 74, .ref 75, .ref 76, .ref 77, .int (M.1 7), .ref 78, .int (M.1 9), .ref 79, .int (M.1 11), .int ((M.1 12) + 1), .int (M.1 13), .ref 80, .int (M.1 15), .int (M.1 16), .ref 81, .ref 82, .ref 83, .int ((M.1 20) + 1), .int (M.1 20), .ref 84, .ref 85, .ref 86, .ref 87, .ref 88]) rfl ?_
            refine Ev.go 1 (s' := ((pu (pu (pu (pu (pu (pu (pu h 84 (eI 8 (upd (M.2.1 22) (M.1 20).toNatClampNeg (y2 - 97)))) 85 (eI 8 (upd (M.2.1 23) (M.1 20).toNatClampNeg ((M.2.1 25) level.toNatClampNeg)))) 86 (eI 8 (upd (M.2.1 24) (M.1 20).toNatClampNeg axis))) 87 (eI 10 (upd (M.2.1 25) level.toNatClampNeg (M.1 20)))) 73 (eO 9 [.int (M.1 0), .int (M.1 1), .int (M.1 2), .ref 74, .ref 75, .ref 76, .ref 77, .int (M.1 7), .ref 78, .int (M.1 9), .ref 79, .int (M.1 11), .int (M.1 12), .int (M.1 13), .ref 80, .int (M.1 15), .int (M.1 16), .ref 81, .ref 82, .ref 83, .int (M.1 20), .int (M.1 20), .ref 84, .ref 85, .ref 86, .ref 87, .ref 88])) 73 (eO 9 [.int (M.1 0), .int (M.1 1), .int (M.1 2), .ref 74, .ref 75, .ref 76, .ref 77, .int (M.1 7), .ref 78, .int (M.1 9), .ref 79, .int (M.1 11), .int (M.1 12), .int (M.1 13), .ref 80, .int (M.1 15), .int (M.1 16), .ref 81, .ref 82, .ref 83, .int ((M.1 20) + 1), .int (M.1 20), .ref 84, .ref 85, .ref 86, .ref 87, .ref 88])) 73 (eO 9 [.int (M.1 0), .int (M.1 1), .int (M.1 2), .ref 74, .ref 75, .ref 76, .ref 77, .int (M.1 7), .ref 78, .int (M.1 9), .ref 79, .int (M.1 11), .int ((M.1 12) + 1), .int (M.1 13), .ref 80, .int (M.1 15), .int (M.1 16), .ref 81, .ref 82, .ref 83, .int ((M.1 20) + 1), .int (M.1 20), .ref 84, .ref 85, .ref 86, .ref 87, .ref 88])), 132, [(0, .ref 73), (1, .int level), (2, .int axis), (3, .int y2)], [.int 1])) rfl ?_
            have H := Option.some.inj H
            subst H
            exact Ev.ret rfl rfl (p_retZ rfl) ⟨rfl, ⟨pu_s, (pu_n (by decide) (pu_n (by decide) (pu_n (by decide) (pu_n (by decide) (pu_n (by decide) (pu_n (by decide) (pu_n (by decide) xM.2.1))))))), (pu_n (by decide) (pu_n (by decide) (pu_n (by decide) (pu_n (by decide) (pu_n (by decide) (pu_n (by decide) (pu_n (by decide) xM.2.2.1))))))), (pu_n (by decide) (pu_n (by decide) (pu_n (by decide) (pu_n (by decide) (pu_n (by decide) (pu_n (by decide) (pu_n (by decide) xM.2.2.2.1))))))), (pu_n (by decide) (pu_n (by decide) (pu_n (by decide) (pu_n (by decide) (pu_n (by decide) (pu_n (by decide) (pu_n (by decide) xM.2.2.2.2.1))))))), (pu_n (by decide) (pu_n (by decide) (pu_n (by decide) (pu_n (by decide) (pu_n (by decide) (pu_n (by decide) (pu_n (by decide) xM.2.2.2.2.2.1))))))), (pu_n (by decide) (pu_n (by decide) (pu_n (by decide) (pu_n (by decide) (pu_n (by decide) (pu_n (by decide) (pu_n (by decide) xM.2.2.2.2.2.2.1))))))), (pu_n (by decide) (pu_n (by decide) (pu_n (by decide) (pu_n (by decide) (pu_n (by decide) (pu_n (by decide) (pu_n (by decide) xM.2.2.2.2.2.2.2.1))))))), (pu_n (by decide) (pu_n (by decide) (pu_n (by decide) (pu_n (by decide) (pu_n (by decide) (pu_n (by decide) (pu_n (by decide) xM.2.2.2.2.2.2.2.2.1))))))), (pu_n (by decide) (pu_n (by decide) (pu_n (by decide) (pu_n (by decide) (pu_n (by decide) (pu_n (by decide) (pu_n (by decide) xM.2.2.2.2.2.2.2.2.2.1))))))), (pu_n (by decide) (pu_n (by decide) (pu_n (by decide) (pu_n (by decide) (pu_n (by decide) (pu_n (by decide) (pu_n (by decide) xM.2.2.2.2.2.2.2.2.2.2.1))))))), (pu_n (by decide) (pu_n (by decide) (pu_n (by decide) (pu_n (by decide) (pu_n (by decide) (pu_n (by decide) pu_s)))))), (pu_n (by decide) (pu_n (by decide) (pu_n (by decide) (pu_n (by decide) (pu_n (by decide) pu_s))))), (pu_n (by decide) (pu_n (by decide) (pu_n (by decide) (pu_n (by decide) pu_s)))), (pu_n (by decide) (pu_n (by decide) (pu_n (by decide) pu_s))), (pu_n (by decide) (pu_n (by decide) (pu_n (by decide) (pu_n (by decide) (pu_n (by decide) (pu_n (by decide) (pu_n (by decide) xM.2.2.2.2.2.2.2.2.2.2.2.2.2.2.2)))))))⟩, (fun k hk => by rw [pu_x (show k ≠ 73 from fun e => by have := hk; simp at this; omega)]; rw [pu_x (show k ≠ 73 from fun e => by have := hk; simp at this; omega)]; rw [pu_x (show k ≠ 73 from fun e => by have := hk; simp at this; omega)]; rw [pu_x (show k ≠ 87 from fun e => by have := hk; simp at this; omega)]; rw [pu_x (show k ≠ 86 from fun e => by have := hk; simp at this; omega)]; rw [pu_x (show k ≠ 85 from fun e => by have := hk; simp at this; omega)]; rw [pu_x (show k ≠ 84 from fun e => by have := hk; simp at this; omega)])⟩
        · have c13 : ¬ (¬ y2 = 42) := c13
          rw [if_neg c13] at H
          refine Ev.go 2 (s' := (h, 56, [(0, .ref 73), (1, .int level), (2, .int axis), (3, .int y2)], [.int 6, .int (M.1 20), .ref 84])) rfl ?_
          have v17 : vp_in (M.1 20) 8 := fun q => by rw [if_pos q] at H; cases H
          rw [if_neg v17] at H
          refine Ev.iast rfl (by decide) xM.2.2.2.2.2.2.2.2.2.2.2.1 v17 ?_
          refine Ev.go 1 (s' := ((pu h 84 (eI 8 (upd (M.2.1 22) (M.1 20).toNatClampNeg 6))), 58, [(0, .ref 73), (1, .int level), (2, .int axis), (3, .int y2)], [.ref 73])) rfl ?_
          refine Ev.get rfl (by decide) (pu_n (by decide) xM.1) rfl ?_
          refine Ev.go 1 (s' := ((pu h 84 (eI 8 (upd (M.2.1 22) (M.1 20).toNatClampNeg 6))), 62, [(0, .ref 73), (1, .int level), (2, .int axis), (3, .int y2)], [.ref 73, .ref 85])) rfl ?_
          refine Ev.get rfl (by decide) (pu_n (by decide) xM.1) rfl ?_
          refine Ev.go 1 (s' := ((pu h 84 (eI 8 (upd (M.2.1 22) (M.1 20).toNatClampNeg 6))), 66, [(0, .ref 73), (1, .int level), (2, .int axis), (3, .int y2)], [.ref 73, .int (M.1 20), .ref 85])) rfl ?_
          refine Ev.get rfl (by decide) (pu_n (by decide) xM.1) rfl ?_
          refine Ev.go 1 (s' := ((pu h 84 (eI 8 (upd (M.2.1 22) (M.1 20).toNatClampNeg 6))), 70, [(0, .ref 73), (1, .int level), (2, .int axis), (3, .int y2)], [.int level, .ref 87, .int (M.1 20), .ref 85])) rfl ?_
          have v18 : vp_in level 10 := fun q => by rw [if_pos q] at H; cases H
          rw [if_neg v18] at H
          refine Ev.iald rfl (by decide) (pu_n (by decide) xM.2.2.2.2.2.2.2.2.2.2.2.2.2.2.1) v18 ?_
          refine Ev.iast rfl (by decide) (pu_n (by decide) xM.2.2.2.2.2.2.2.2.2.2.2.2.1) v17 ?_
          refine Ev.go 1 (s' := ((pu (pu h 84 (eI 8 (upd (M.2.1 22) (M.1 20).toNatClampNeg 6))) 85 (eI 8 (upd (M.2.1 23) (M.1 20).toNatClampNeg ((M.2.1 25) level.toNatClampNeg)))), 73, [(0, .ref 73), (1, .int level), (2, .int axis), (3, .int y2)], [.ref 73])) rfl ?_
          refine Ev.get rfl (by decide) (pu_n (by decide) (pu_n (by decide) xM.1)) rfl ?_
          refine Ev.go 1 (s' := ((pu (pu h 84 (eI 8 (upd (M.2.1 22) (M.1 20).toNatClampNeg 6))) 85 (eI 8 (upd (M.2.1 23) (M.1 20).toNatClampNeg ((M.2.1 25) level.toNatClampNeg)))), 77, [(0, .ref 73), (1, .int level), (2, .int axis), (3, .int y2)], [.ref 73, .ref 86])) rfl ?_
          refine Ev.get rfl (by decide) (pu_n (by decide) (pu_n (by decide) xM.1)) rfl ?_
          refine Ev.go 1 (s' := ((pu (pu h 84 (eI 8 (upd (M.2.1 22) (M.1 20).toNatClampNeg 6))) 85 (eI 8 (upd (M.2.1 23) (M.1 20).toNatClampNeg ((M.2.1 25) level.toNatClampNeg)))), 81, [(0, .ref 73), (1, .int level), (2, .int axis), (3, .int y2)], [.int axis, .int (M.1 20), .ref 86])) rfl ?_
          refine Ev.iast rfl (by decide) (pu_n (by decide) (pu_n (by decide) xM.2.2.2.2.2.2.2.2.2.2.2.2.2.1)) v17 ?_
          refine Ev.go 1 (s' := ((pu (pu (pu h 84 (eI 8 (upd (M.2.1 22) (M.1 20).toNatClampNeg 6))) 85 (eI 8 (upd (M.2.1 23) (M.1 20).toNatClampNeg ((M.2.1 25) level.toNatClampNeg)))) 86 (eI 8 (upd (M.2.1 24) (M.1 20).toNatClampNeg axis))), 83, [(0, .ref 73), (1, .int level), (2, .int axis), (3, .int y2)], [.ref 73])) rfl ?_
          refine Ev.get rfl (by decide) (pu_n (by decide) (pu_n (by decide) (pu_n (by decide) xM.1))) rfl ?_
          refine Ev.go 2 (s' := ((pu (pu (pu h 84 (eI 8 (upd (M.2.1 22) (M.1 20).toNatClampNeg 6))) 85 (eI 8 (upd (M.2.1 23) (M.1 20).toNatClampNeg ((M.2.1 25) level.toNatClampNeg)))) 86 (eI 8 (upd (M.2.1 24) (M.1 20).toNatClampNeg axis))), 88, [(0, .ref 73), (1, .int level), (2, .int axis), (3, .int y2)], [.ref 73, .int level, .ref 87])) rfl ?_
          refine Ev.get rfl (by decide) (pu_n (by decide) (pu_n (by decide) (pu_n (by decide) xM.1))) rfl ?_
          refine Ev.iast rfl (by decide) (pu_n (by decide) (pu_n (by decide) (pu_n (by decide) xM.2.2.2.2.2.2.2.2.2.2.2.2.2.2.1))) v18 ?_
          refine Ev.go 2 (s' := ((pu (pu (pu (pu h 84 (eI 8 (upd (M.2.1 22) (M.1 20).toNatClampNeg 6))) 85 (eI 8 (upd (M.2.1 23) (M.1 20).toNatClampNeg ((M.2.1 25) level.toNatClampNeg)))) 86 (eI 8 (upd (M.2.1 24) (M.1 20).toNatClampNeg axis))) 87 (eI 10 (upd (M.2.1 25) level.toNatClampNeg (M.1 20)))), 94, [(0, .ref 73), (1, .int level), (2, .int axis), (3, .int y2)], [.int level, .ref 73])) rfl ?_
          refine Ev.if1 rfl (fun c19 => ?_) (fun c19 => ?_)
          · have c19 : ¬ level = 0 := c19
            rw [if_pos c19] at H
            refine Ev.go 1 (s' := ((pu (pu (pu (pu h 84 (eI 8 (upd (M.2.1 22) (M.1 20).toNatClampNeg 6))) 85 (eI 8 (upd (M.2.1 23) (M.1 20).toNatClampNeg ((M.2.1 25) level.toNatClampNeg)))) 86 (eI 8 (upd (M.2.1 24) (M.1 20).toNatClampNeg axis))) 87 (eI 10 (upd (M.2.1 25) level.toNatClampNeg (M.1 20)))), 105, [(0, .ref 73), (1, .int level), (2, .int axis), (3, .int y2)], [.ref 73, .ref 73])) rfl ?_
            refine Ev.get rfl (by decide) (pu_n (by decide) (pu_n (by decide) (pu_n (by decide) (pu_n (by decide) xM.1)))) rfl ?_
            refine Ev.put rfl rfl (by decide) (pu_n (by decide) (pu_n (by decide) (pu_n (by decide) (pu_n (by decide) xM.1)))) (Nat.le_of_ble_eq_true rfl) rfl rfl (fs' := [.int (M.1 0), .int (M.1 1), .int (M.1 2), .ref 74, .ref 75, .ref 76, .ref 77, .int (M.1 7), .ref 78, .int (M.1 9), .ref 79, .int (M.1 11), .int (M.1 12), .int (M.1 13), .ref 80, .int (M.1 15), .int (M.1 16), .ref 81, .ref 82, .ref 83, .int (M.1 20), .int (M.1 21), .ref 84, .ref 85, .ref 86, .ref 87, .ref 88]) rfl ?_
            refine Ev.go 2 (s' := ((pu (pu (pu (pu (pu h 84 (eI 8 (upd (M.2.1 22) (M.1 20).toNatClampNeg 6))) 85 (eI 8 (upd (M.2.1 23) (M.1 20).toNatClampNeg ((M.2.1 25) level.toNatClampNeg)))) 86 (eI 8 (upd (M.2.1 24) (M.1 20).toNatClampNeg axis))) 87 (eI 10 (upd (M.2.1 25) level.toNatClampNeg (M.1 20)))) 73 (eO 9 [.int (M.1 0), .int (M.1 1), .int (M.1 2), .ref 74, .ref 75, .ref 76, .ref 77, .int (M.1 7), .ref 78, .int (M.1 9), .ref 79, .int (M.1 11), .int (M.1 12), .int (M.1 13), .ref 80, .int (M.1 15), .int (M.1 16), .ref 81, .ref 82, .ref 83, .int (M.1 20), .int (M.1 21), .ref 84, .ref 85, .ref 86, .ref 87, .ref 88])), 113, [(0, .ref 73), (1, .int level), (2, .int axis), (3, .int y2)], [.ref 73, .ref 73])) rfl ?_
            refine Ev.get rfl (by decide) pu_s rfl ?_
            refine Ev.go 2 (s' := ((pu (pu (pu (pu (pu h 84 (eI 8 (upd (M.2.1 22) (M.1 20).toNatClampNeg 6))) 85 (eI 8 (upd (M.2.1 23) (M.1 20).toNatClampNeg ((M.2.1 25) level.toNatClampNeg)))) 86 (eI 8 (upd (M.2.1 24) (M.1 20).toNatClampNeg axis))) 87 (eI 10 (upd (M.2.1 25) level.toNatClampNeg (M.1 20)))) 73 (eO 9 [.int (M.1 0), .int (M.1 1), .int (M.1 2), .ref 74, .ref 75, .ref 76, .ref 77, .int (M.1 7), .ref 78, .int (M.1 9), .ref 79, .int (M.1 11), .int (M.1 12), .int (M.1 13), .ref 80, .int (M.1 15), .int (M.1 16), .ref 81, .ref 82, .ref 83, .int (M.1 20), .int (M.1 21), .ref 84, .ref 85, .ref 86, .ref 87, .ref 88])), 118, [(0, .ref 73), (1, .int level), (2, .int axis), (3, .int y2)], [.int ((M.1 20) + 1), .ref 73])) rfl ?_
            refine Ev.put rfl rfl (by decide) pu_s (Nat.le_of_ble_eq_true rfl) rfl rfl (fs' := [.int (M.1 0), .int (M.1 1), .int (M.1 2), .ref 74, .ref 75, .ref 76, .ref 77, .int (M.1 7), .ref 78, .int (M.1 9), .ref 79, .int (M.1 11), .int (M.1 12), .int (M.1 13), .ref 80, .int (M.1 15), .int (M.1 16), .ref 81, .ref 82, .ref 83, .int ((M.1 20) + 1), .int (M.1 21), .ref 84, .ref 85, .ref 86, .ref 87, .ref 88]) rfl ?_
            refine Ev.go 2 (s' := ((pu (pu (pu (pu (pu (pu h 84 (eI 8 (upd (M.2.1 22) (M.1 20).toNatClampNeg 6))) 85 (eI 8 (upd (M.2.1 23) (M.1 20).toNatClampNeg ((M.2.1 25) level.toNatClampNeg)))) 86 (eI 8 (upd (M.2.1 24) (M.1 20).toNatClampNeg axis))) 87 (eI 10 (upd (M.2.1 25) level.toNatClampNeg (M.1 20)))) 73 (eO 9 [.int (M.1 0), .int (M.1 1), .int (M.1 2), .ref 74, .ref 75, .ref 76, .ref 77, .int (M.1 7), .ref 78, .int (M.1 9), .ref 79, .int (M.1 11), .int (M.1 12), .int (M.1 13), .ref 80, .int (M.1 15), .int (M.1 16), .ref 81, .ref 82, .ref 83, .int (M.1 20), .int (M.1 21), .ref 84, .ref 85, .ref 86, .ref 87, .ref 88])) 73 (eO 9 [.int (M.1 0), .int (M.1 1), .int (M.1 2), .ref 74, .ref 75, .ref 76, .ref 77, .int (M.1 7), .ref 78, .int (M.1 9), .ref 79, .int (M.1 11), .int (M.1 12), .int (M.1 13), .ref 80, .int (M.1 15), .int (M.1 16), .ref 81, .ref 82, .ref 83, .int ((M.1 20) + 1), .int (M.1 21), .ref 84, .ref 85, .ref 86, .ref 87, .ref 88])), 123, [(0, .ref 73), (1, .int level), (2, .int axis), (3, .int y2)], [.ref 73, .ref 73])) rfl ?_
            refine Ev.get rfl (by decide) pu_s rfl ?_
            refine Ev.go 2 (s' := ((pu (pu (pu (pu (pu (pu h 84 (eI 8 (upd (M.2.1 22) (M.1 20).toNatClampNeg 6))) 85 (eI 8 (upd (M.2.1 23) (M.1 20).toNatClampNeg ((M.2.1 25) level.toNatClampNeg)))) 86 (eI 8 (upd (M.2.1 24) (M.1 20).toNatClampNeg axis))) 87 (eI 10 (upd (M.2.1 25) level.toNatClampNeg (M.1 20)))) 73 (eO 9 [.int (M.1 0), .int (M.1 1), .int (M.1 2), .ref 74, .ref 75, .ref 76, .ref 77, .int (M.1 7), .ref 78, .int (M.1 9), .ref 79, .int (M.1 11), .int (M.1 12), .int (M.1 13), .ref 80, .int (M.1 15), .int (M.1 16), .ref 81, .ref 82, .ref 83, .int (M.1 20), .int (M.1 21), .ref 84, .ref 85, .ref 86, .ref 87, .ref 88])) 73 (eO 9 [.int (M.1 0), .int (M.1 1), .int (M.1 2), .ref 74, .ref 75, .ref 76, .ref 77, .int (M.1 7), .ref 78, .int (M.1 9), .ref 79, .int (M.1 11), .int (M.1 12), .int (M.1 13), .ref 80, .int (M.1 15), .int (M.1 16), .ref 81, .ref 82, .ref 83, .int ((M.1 20) + 1), .int (M.1 21), .ref 84, .ref 85, .ref 86, .ref 87, .ref 88])), 128, [(0, .ref 73), (1, .int level), (2, .int axis), (3, .int y2)], [.int ((M.1 12) + 1), .ref 73])) rfl ?_
            refine Ev.put rfl rfl (by decide) pu_s (Nat.le_of_ble_eq_true rfl) rfl rfl (fs' := [.int (M.1 0), .int (M.1 1), .int (M.1 2), .ref 74, .ref 75, .ref 76, .ref 77, .int (M.1 7), .ref 78, .int (M.1 9), .ref 79, .int (M.1 11), .int ((M.1 12) + 1), .int (M.1 13), .ref 80, .int (M.1 15), .int (M.1 16), .ref 81, .ref 82, .ref 83, .int ((M.1 20) + 1), .int (M.1 21), .ref 84, .ref 85, .ref 86, .ref 87, .ref 88]) rfl ?_
            refine Ev.go 1 (s' := ((pu (pu (pu (pu (pu (pu (pu h 84 (eI 8 (upd (M.2.1 22) (M.1 20).toNatClampNeg 6))) 85 (eI 8 (upd (M.2.1 23) (M.1 20).toNatClampNeg ((M.2.1 25) level.toNatClampNeg)))) 86 (eI 8 (upd (M.2.1 24) (M.1 20).toNatClampNeg axis))) 87 (eI 10 (upd (M.2.1 25) level.toNatClampNeg (M.1 20)))) 73 (eO 9 [.int (M.1 0), .int (M.1 1), .int (M.1 2), .ref 74, .ref 75, .ref 76, .ref 77, .int (M.1 7), .ref 78, .int (M.1 9), .ref 79, .int (M.1 11), .int (M.1 12), .int (M.1 13), .ref 80, .int (M.1 15), .int (M.1 16), .ref 81, .ref 82, .ref 83, .int (M.1 20), .int (M.1 21), .ref 84, .ref 85, .ref 86, .ref 87, .ref 88])) 73 (eO 9 [.int (M.1 0), .int (M.1 1), .int (M.1 2), .ref 74, .ref 75, .ref 76, .ref 77, .int (M.1 7), .ref 78, .int (M.1 9), .ref 79, .int (M.1 11), .int (M.1 12), .int (M.1 13), .ref 80, .int (M.1 15), .int (M.1 16), .ref 81, .ref 82, .ref 83, .int ((M.1 20) + 1), .int (M.1 21), .ref 84, .ref 85, .ref 86, .ref 87, .ref 88])) 73 (eO 9 [.int (M.1 0), .int (M.1 1), .int (M.1 2), .ref 74, .ref 75, .ref 76, .ref 77, .int (M.1 7), .ref 78, .int (M.1 9), .ref 79, .int (M.1 11), .int ((M.1 12) + 1), .int (M.1 13), .ref 80, .int (M.1 15), .int (M.1 16), .ref 81, .ref 82, .ref 83, .int ((M.1 20) + 1), .int (M.1 21), .ref 84, .ref 85, .ref 86, .ref 87, .ref 88])), 132, [(0, .ref 73), (1, .int level), (2, .int axis), (3, .int y2)], [.int 1])) rfl ?_
            have H := Option.some.inj H
            subst H
            exact Ev.ret rfl rfl (p_retZ rfl) ⟨rfl, ⟨pu_s, (pu_n (by decide) (pu_n (by decide) (pu_n (by decide) (pu_n (by decide) (pu_n (by decide) (pu_n (by decide) (pu_n (by decide) xM.2.1))))))), (pu_n (by decide) (pu_n (by decide) (pu_n (by decide) (pu_n (by decide) (pu_n (by decide) (pu_n (by decide) (pu_n (by decide) xM.2.2.1))))))), (pu_n (by decide) (pu_n (by decide) (pu_n (by decide) (pu_n (by decide) (pu_n (by decide) (pu_n (by decide) (pu_n (by decide) xM.2.2.2.1))))))), (pu_n (by decide) (pu_n (by decide) (pu_n (by decide) (pu_n (by decide) (pu_n (by decide) (pu_n (by decide) (pu_n (by decide) xM.2.2.2.2.1))))))), (pu_n (by decide) (pu_n (by decide) (pu_n (by decide) (pu_n (by decide) (pu_n (by decide) (pu_n (by decide) (pu_n (by decide) xM.2.2.2.2.2.1))))))), (pu_n (by decide) (pu_n (by decide) (pu_n (by decide) (pu_n (by decide) (pu_n (by decide) (pu_n (by decide) (pu_n (by decide) xM.2.2.2.2.2.2.1))))))), (pu_n (by decide) (pu_n (by decide) (pu_n (by decide) (pu_n (by decide) (pu_n (by decide) (pu_n (by decide) (pu_n (by decide) xM.2.2.2.2.2.2.2.1))))))), (pu_n (by decide) (pu_n (by decide) (pu_n (by decide) (pu_n (by decide) (pu_n (by decide) (pu_n (by decide) (pu_n (by decide) xM.2.2.2.2.2.2.2.2.1))))))), (pu_n (by decide) (pu_n (by decide) (pu_n (by decide) (pu_n (by decide) (pu_n (by decide) (pu_n (by decide) (pu_n (by decide) xM.2.2.2.2.2.2.2.2.2.1))))))), (pu_n (by decide) (pu_n (by decide) (pu_n (by decide) (pu_n (by decide) (pu_n (by decide) (pu_n (by decide) (pu_n (by decide) xM.2.2.2.2.2.2.2.2.2.2.1))))))), (pu_n (by decide) (pu_n (by decide) (pu_n (by decide) (pu_n (by decide) (pu_n (by decide) (pu_n (by decide) pu_s)))))), (pu_n (by decide) (pu_n (by decide) (pu_n (by decide) (pu_n (by decide) (pu_n (by decide) pu_s))))), (pu_n (by decide) (pu_n (by decide) (pu_n (by decide) (pu_n (by decide) pu_s)))), (pu_n (by decide) (pu_n (by decide) (pu_n (by decide) pu_s))), (pu_n (by decide) (pu_n (by decide) (pu_n (by decide) (pu_n (by decide) (pu_n (by decide) (pu_n (by decide) (pu_n (by decide) xM.2.2.2.2.2.2.2.2.2.2.2.2.2.2.2)))))))⟩, (fun k hk => by rw [pu_x (show k ≠ 73 from fun e => by have := hk; simp at this; omega)]; rw [pu_x (show k ≠ 73 from fun e => by have := hk; simp at this; omega)]; rw [pu_x (show k ≠ 73 from fun e => by have := hk; simp at this; omega)]; rw [pu_x (show k ≠ 87 from fun e => by have := hk; simp at this; omega)]; rw [pu_x (show k ≠ 86 from fun e => by have := hk; simp at this; omega)]; rw [pu_x (show k ≠ 85 from fun e => by have := hk; simp at this; omega)]; rw [pu_x (show k ≠ 84 from fun e => by have := hk; simp at this; omega)])⟩
          · have c19 : ¬ (¬ level = 0) := c19
            rw [if_neg c19] at H
            refine Ev.go 1 (s' := ((pu (pu (pu (pu h 84 (eI 8 (upd (M.2.1 22) (M.1 20).toNatClampNeg 6))) 85 (eI 8 (upd (M.2.1 23) (M.1 20).toNatClampNeg ((M.2.1 25) level.toNatClampNeg)))) 86 (eI 8 (upd (M.2.1 24) (M.1 20).toNatClampNeg axis))) 87 (eI 10 (upd (M.2.1 25) level.toNatClampNeg (M.1 20)))), 98, [(0, .ref 73), (1, .int level), (2, .int axis), (3, .int y2)], [.ref 73, .ref 73])) rfl ?_
            refine Ev.get rfl (by decide) (pu_n (by decide) (pu_n (by decide) (pu_n (by decide) (pu_n (by decide) xM.1)))) rfl ?_
            refine Ev.go 1 (s' := ((pu (pu (pu (pu h 84 (eI 8 (upd (M.2.1 22) (M.1 20).toNatClampNeg 6))) 85 (eI 8 (upd (M.2.1 23) (M.1 20).toNatClampNeg ((M.2.1 25) level.toNatClampNeg)))) 86 (eI 8 (upd (M.2.1 24) (M.1 20).toNatClampNeg axis))) 87 (eI 10 (upd (M.2.1 25) level.toNatClampNeg (M.1 20)))), 108, [(0, .ref 73), (1, .int level), (2, .int axis), (3, .int y2)], [.int (M.1 20), .ref 73])) rfl ?_
            refine Ev.put rfl rfl (by decide) (pu_n (by decide) (pu_n (by decide) (pu_n (by decide) (pu_n (by decide) xM.1)))) (Nat.le_of_ble_eq_true rfl) rfl rfl (fs' := [.int (M.1 0), .int (M.1 1), .int (M.1 2), .ref 74, .ref 75, .ref 76, .ref 77, .int (M.1 7), .ref 78, .int (M.1 9), .ref 79, .int (M.1 11), .int (M.1 12), .int (M.1 13), .ref 80, .int (M.1 15), .int (M.1 16), .ref 81, .ref 82, .ref 83, .int (M.1 20), .int (M.1 20), .ref 84, .ref 85, .ref 86, .ref 87, .ref 88]) rfl ?_
            refine Ev.go 2 (s' := ((pu (pu (pu (pu (pu h 84 (eI 8 (upd (M.2.1 22) (M.1 20).toNatClampNeg 6))) 85 (eI 8 (upd (M.2.1 23) (M.1 20).toNatClampNeg ((M.2.1 25) level.toNatClampNeg)))) 86 (eI 8 (upd (M.2.1 24) (M.1 20).toNatClampNeg axis))) 87 (eI 10 (upd (M.2.1 25) level.toNatClampNeg (M.1 20)))) 73 (eO 9 [.int (M.1 0), .int (M.1 1), .int (M.1 2), .ref 74, .ref 75, .ref 76, .ref 77, .int (M.1 7), .ref 78, .int (M.1 9), .ref 79, .int (M.1 11), .int (M.1 12), .int (M.1 13), .ref 80, .int (M.1 15), .int (M.1 16), .ref 81, .ref 82, .ref 83, .int (M.1 20), .int (M.1 20), .ref 84, .ref 85, .ref 86, .ref 87, .ref 88])), 113, [(0, .ref 73), (1, .int level), (2, .int axis), (3, .int y2)], [.ref 73, .ref 73])) rfl ?_
            refine Ev.get rfl (by decide) pu_s rfl ?_
            refine Ev.go 2 (s' := ((pu (pu (pu (pu (pu h 84 (eI 8 (upd (M.2.1 22) (M.1 20).toNatClampNeg 6))) 85 (eI 8 (upd (M.2.1 23) (M.1 20).toNatClampNeg ((M.2.1 25) level.toNatClampNeg)))) 86 (eI 8 (upd (M.2.1 24) (M.1 20).toNatClampNeg axis))) 87 (eI 10 (upd (M.2.1 25) level.toNatClampNeg (M.1 20)))) 73 (eO 9 [.int (M.1 0), .int (M.1 1), .int (M.1 2), .ref 74, .ref 75, .ref 76, .ref 77, .int (M.1 7), .ref 78, .int (M.1 9), .ref 79, .int (M.1 11), .int (M.1 12), .int (M.1 13), .ref 80, .int (M.1 15), .int (M.1 16), .ref 81, .ref 82, .ref 83, .int (M.1 20), .int (M.1 20), .ref 84, .ref 85, .ref 86, .ref 87, .ref 88])), 118, [(0, .ref 73), (1, .int level), (2, .int axis), (3, .int y2)], [.int ((M.1 20) + 1), .ref 73])) rfl ?_
            refine Ev.put rfl rfl (by decide) pu_s (Nat.le_of_ble_eq_true rfl) rfl rfl (fs' := [.int (M.1 0), .int (M.1 1), .int (M.1 2), .ref 74, .ref 75, .ref 76, .ref 77, .int (M.1 7), .ref 78, .int (M.1 9), .ref 79, .int (M.1 11), .int (M.1 12), .int (M.1 13), .ref 80, .int (M.1 15), .int (M.1 16), .ref 81, .ref 82, .ref 83, .int ((M.1 20) + 1), .int (M.1 20), .ref 84, .ref 85, .ref 86, .ref 87, .ref 88]) rfl ?_
            refine Ev.go 2 (s' := ((pu (pu (pu (pu (pu (pu h 84 (eI 8 (upd (M.2.1 22) (M.1 20).toNatClampNeg 6))) 85 (eI 8 (upd (M.2.1 23) (M.1 20).toNatClampNeg ((M.2.1 25) level.toNatClampNeg)))) 86 (eI 8 (upd (M.2.1 24) (M.1 20).toNatClampNeg axis))) 87 (eI 10 (upd (M.2.1 25) level.toNatClampNeg (M.1 20)))) 73 (eO 9 [.int (M.1 0), .int (M.1 1), .int (M.1 2), .ref 74, .ref 75, .ref 76, .ref 77, .int (M.1 7), .ref 78, .int (M.1 9), .ref 79, .int (M.1 11), .int (M.1 12), .int (M.1 13), .ref 80, .int (M.1 15), .int (M.1 16), .ref 81, .ref 82, .ref 83, .int (M.1 20), .int (M.1 20), .ref 84, .ref 85, .ref 86, .ref 87, .ref 88])) 73 (eO 9 [.int (M.1 0), .int (M.1 1), .int (M.1 2), .ref 74, .ref 75, .ref 76, .ref 77, .int (M.1 7), .ref 78, .int (M.1 9), .ref 79, .int (M.1 11), .int (M.1 12), .int (M.1 13), .ref 80, .int (M.1 15), .int (M.1 16), .ref 81, .ref 82, .ref 83, .int ((M.1 20) + 1), .int (M.1 20), .ref 84, .ref 85, .ref 86, .ref 87, .ref 88])), 123, [(0, .ref 73), (1, .int level), (2, .int axis), (3, .int y2)], [.ref 73, .ref 73])) rfl ?_
            refine Ev.get rfl (by decide) pu_s rfl ?_
            refine Ev.go 2 (s' := ((pu (pu (pu (pu (pu (pu h 84 (eI 8 (upd (M.2.1 22) (M.1 20).toNatClampNeg 6))) 85 (eI 8 (upd (M.2.1 23) (M.1 20).toNatClampNeg ((M.2.1 25) level.toNatClampNeg)))) 86 (eI 8 (upd (M.2.1 24) (M.1 20).toNatClampNeg axis))) 87 (eI 10 (upd (M.2.1 25) level.toNatClampNeg (M.1 20)))) 73 (eO 9 [.int (M.1 0), .int (M.1 1), .int (M.1 2), .ref 74, .ref 75, .ref 76, .ref 77, .int (M.1 7), .ref 78, .int (M.1 9), .ref 79, .int (M.1 11), .int (M.1 12), .int (M.1 13), .ref 80, .int (M.1 15), .int (M.1 16), .ref 81, .ref 82, .ref 83, .int (M.1 20), .int (M.1 20), .ref 84, .ref 85, .ref 86, .ref 87, .ref 88])) 73 (eO 9 [.int (M.1 0), .int (M.1 1), .int (M.1 2), .ref 74, .ref 75, .ref 76, .ref 77, .int (M.1 7), .ref 78, .int (M.1 9), .ref 79, .int (M.1 11), .int (M.1 12), .int (M.1 13), .ref 80, .int (M.1 15), .int (M.1 16), .ref 81, .ref 82, .ref 83, .int ((M.1 20) + 1), .int (M.1 20), .ref 84, .ref 85, .ref 86, .ref 87, .ref 88])), 128, [(0, .ref 73), (1, .int level), (2, .int axis), (3, .int y2)], [.int ((M.1 12) + 1), .ref 73])) rfl ?_
            refine Ev.put rfl rfl (by decide) pu_s (Nat.le_of_ble_eq_true rfl) rfl rfl (fs' := [.int (M.1 0), .int (M.1 1), .int (M.1 2), .ref 74, .ref 75, .ref 76, .ref 77, .int (M.1 7), .ref 78, .int (M.1 9), .ref 79, .int (M.1 11), .int ((M.1 12) + 1), .int (M.1 13), .ref 80, .int (M.1 15), .int (M.1 16), .ref 81, .ref 82, .ref 83, .int ((M.1 20) + 1), .int (M.1 20), .ref 84, .ref 85, .ref 86, .ref 87, .ref 88]) rfl ?_
            refine Ev.go 1 (s' := ((pu (pu (pu (pu (pu (pu (pu h 84 (eI 8 (upd (M.2.1 22) (M.1 20).toNatClampNeg 6))) 85 (eI 8 (upd (M.2.1 23) (M.1 20).toNatClampNeg ((M.2.1 25) level.toNatClampNeg)))) 86 (eI 8 (upd (M.2.1 24) (M.1 20).toNatClampNeg axis))) 87 (eI 10 (upd (M.2.1 25) level.toNatClampNeg (M.1 20)))) 73 (eO 9 [.int (M.1 0), .int (M.1 1), .int (M.1 2), .ref 74, .ref 75, .ref 76, .ref 77, .int (M.1 7), .ref 78, .int (M.1 9), .ref 79, .int (M.1 11), .int (M.1 12), .int (M.1 13), .ref 80, .int (M.1 15), .int (M.1 16), .ref 81, .ref 82, .ref 83, .int (M.1 20), .int (M.1 20), .ref 84, .ref 85, .ref 86, .ref 87, .ref 88])) 73 (eO 9 [.int (M.1 0), .int (M.1 1), .int (M.1 2), .ref 74, .ref 75, .ref 76, .ref 77, .int (M.1 7), .ref 78, .int (M.1 9), .ref 79, .int (M.1 11), .int (M.1 12), .int (M.1 13), .ref 80, .int (M.1 15), .int (M.1 16), .ref 81, .ref 82, .ref 83, .int ((M.1 20) + 1), .int (M.1 20), .ref 84, .ref 85, .ref 86, .ref 87, .ref 88])) 73 (eO 9 [.int (M.1 0), .int (M.1 1), .int (M.1 2), .ref 74, .ref 75, .ref 76, .ref 77, .int (M.1 7), .ref 78, .int (M.1 9), .ref 79, .int (M.1 11), .int ((M.1 12) + 1), .int (M.1 13), .ref 80, .int (M.1 15), .int (M.1 16), .ref 81, .ref 82, .ref 83, .int ((M.1 20) + 1), .int (M.1 20), .ref 84, .ref 85, .ref 86, .ref 87, .ref 88])), 132, [(0, .ref 73), (1, .int level), (2, .int axis), (3, .int y2)], [.int 1])) rfl ?_
            have H := Option.some.inj H
            subst H
            exact Ev.ret rfl rfl (p_retZ rfl) ⟨rfl, ⟨pu_s, (pu_n (by decide) (pu_n (by decide) (pu_n (by decide) (pu_n (by decide) (pu_n (by decide) (pu_n (by decide) (pu_n (by decide) xM.2.1))))))), (pu_n (by decide) (pu_n (by decide) (pu_n (by decide) (pu_n (by decide) (pu_n (by decide) (pu_n (by decide) (pu_n (by decide) xM.2.2.1))))))), (pu_n (by decide) (pu_n (by decide) (pu_n (by decide) (pu_n (by decide) (pu_n (by decide) (pu_n (by decide) (pu_n (by decide) xM.2.2.2.1))))))), (pu_n (by decide) (pu_n (by decide) (pu_n (by decide) (pu_n (by decide) (pu_n (by decide) (pu_n (by decide) (pu_n (by decide) xM.2.2.2.2.1))))))), (pu_n (by decide) (pu_n (by decide) (pu_n (by decide) (pu_n (by decide) (pu_n (by decide) (pu_n (by decide) (pu_n (by decide) xM.2.2.2.2.2.1))))))), (pu_n (by decide) (pu_n (by decide) (pu_n (by decide) (pu_n (by decide) (pu_n (by decide) (pu_n (by decide) (pu_n (by decide) xM.2.2.2.2.2.2.1))))))), (pu_n (by decide) (pu_n (by decide) (pu_n (by decide) (pu_n (by decide) (pu_n (by decide) (pu_n (by decide) (pu_n (by decide) xM.2.2.2.2.2.2.2.1))))))), (pu_n (by decide) (pu_n (by decide) (pu_n (by decide) (pu_n (by decide) (pu_n (by decide) (pu_n (by decide) (pu_n (by decide) xM.2.2.2.2.2.2.2.2.1))))))), (pu_n (by decide) (pu_n (by decide) (pu_n (by decide) (pu_n (by decide) (pu_n (by decide) (pu_n (by decide) (pu_n (by decide) xM.2.2.2.2.2.2.2.2.2.1))))))), (pu_n (by decide) (pu_n (by decide) (pu_n (by decide) (pu_n (by decide) (pu_n (by decide) (pu_n (by decide) (pu_n (by decide) xM.2.2.2.2.2.2.2.2.2.2.1))))))), (pu_n (by decide) (pu_n (by decide) (pu_n (by decide) (pu_n (by decide) (pu_n (by decide) (pu_n (by decide) pu_s)))))), (pu_n (by decide) (pu_n (by decide) (pu_n (by decide) (pu_n (by decide) (pu_n (by decide) pu_s))))), (pu_n (by decide) (pu_n (by decide) (pu_n (by decide) (pu_n (by decide) pu_s)))), (pu_n (by decide) (pu_n (by decide) (pu_n (by decide) pu_s))), (pu_n (by decide) (pu_n (by decide) (pu_n (by decide) (pu_n (by decide) (pu_n (by decide) (pu_n (by decide) (pu_n (by decide) xM.2.2.2.2.2.2.2.2.2.2.2.2.2.2.2)))))))⟩, (fun k hk => by rw [pu_x (show k ≠ 73 from fun e => by have := hk; simp at this; omega)]; rw [pu_x (show k ≠ 73 from fun e => by have := hk; simp at this; omega)]; rw [pu_x (show k ≠ 73 from fun e => by have := hk; simp at this; omega)]; rw [pu_x (show k ≠ 87 from fun e => by have := hk; simp at this; omega)]; rw [pu_x (show k ≠ 86 from fun e => by have := hk; simp at this; omega)]; rw [pu_x (show k ≠ 85 from fun e => by have := hk; simp at this; omega)]; rw [pu_x (show k ≠ 84 from fun e => by have := hk; simp at this; omega)])⟩
      · have c12 : ¬ (¬ (fX10_in y2 97 102) = 0) := c12
        rw [if_neg c12] at H
        refine Ev.go 1 (s' := (h, 32, [(0, .ref 73), (1, .int level), (2, .int axis), (3, .int y2)], [.int 0])) rfl ?_
        have H := Option.some.inj H
        subst H
        exact Ev.ret rfl rfl (p_retZ rfl) ⟨rfl, xM, (fun k _ => rfl)⟩
def lX10_readsPattern_35 (n : Nat) : Nat → Int32 → tM → Option (Int32 × tM)
  | 0, _, _ => none
  | m + 1, x1, M => (if (M.1 11) ≤ (M.1 12) then (if ¬ x1 = 0 then some (M.1 11, M) else some ((-4), M)) else ((fX10_here M).bind fun y9 => (if ¬ y9 = 91 then (if ¬ y9 = 93 then ((fX10_here M).bind fun y13 => ((fX10_axisBy y13).bind fun y15 => (if ¬ y15 = (-4) then ((fX10_readsStep (va_up M.1 12 ((M.1 12) + 1), M.2.1, M.2.2) x1 y15).bind fun y18 => (if ¬ y18.1 = 0 then lX10_readsPattern_35 n m x1 y18.2 else some (y18.2.1 12, y18.2))) else some (M.1 12, M)))) else (if ¬ x1 = 0 then lX10_readsPattern_35 n m (x1 + (-1)) (va_up M.1 12 ((M.1 12) + 1), M.2.1, M.2.2) else some (M.1 12, M))) else (if ¬ y9 = 93 then (if x1 < 0 ∨ 10 ≤ x1.toNatClampNeg then none else (if (x1 + 1) < 0 ∨ 10 ≤ (x1 + 1).toNatClampNeg then none else ((fX10_here (va_up M.1 12 ((M.1 12) + 1), va_up M.2.1 25 (upd (M.2.1 25) (x1 + 1).toNatClampNeg ((M.2.1 25) x1.toNatClampNeg)), M.2.2)).bind fun y27 => ((fX10_axisBy y27).bind fun y29 => (if ¬ y29 = (-4) then ((fX10_readsStep (va_up M.1 12 (((M.1 12) + 1) + 1), va_up M.2.1 25 (upd (M.2.1 25) (x1 + 1).toNatClampNeg ((M.2.1 25) x1.toNatClampNeg)), M.2.2) (x1 + 1) y29).bind fun y32 => (if ¬ y32.1 = 0 then lX10_readsPattern_35 n m (x1 + 1) y32.2 else some (y32.2.1 12, y32.2))) else some ((M.1 12) + 1, (va_up M.1 12 ((M.1 12) + 1), va_up M.2.1 25 (upd (M.2.1 25) (x1 + 1).toNatClampNeg ((M.2.1 25) x1.toNatClampNeg)), M.2.2))))))) else (if ¬ x1 = 0 then lX10_readsPattern_35 n m (x1 + (-1)) (va_up M.1 12 ((M.1 12) + 1), M.2.1, M.2.2) else some (M.1 12, M))))))
theorem llX10_readsPattern_35 {d n : Nat} : ∀ (m : Nat) (h : pH) (x1 : Int32) (M : tM) (res : Int32 × tM), lX10_readsPattern_35 n m x1 M = some res → isM h M → Ev (d + 2) mX10_readsPattern (h, 35, [(0, .ref 73), (1, .int x1)], []) (fun r h1 => r = some (.int res.1) ∧ isM h1 res.2 ∧ fr [(73, 89)] h h1)
  | 0, h, x1, M, res, H, _ => by cases H
  | m + 1, h, x1, M, res, H, xM => by
    have H : (if (M.1 11) ≤ (M.1 12) then (if ¬ x1 = 0 then some (M.1 11, M) else some ((-4), M)) else ((fX10_here M).bind fun y9 => (if ¬ y9 = 91 then (if ¬ y9 = 93 then ((fX10_here M).bind fun y13 => ((fX10_axisBy y13).bind fun y15 => (if ¬ y15 = (-4) then ((fX10_readsStep (va_up M.1 12 ((M.1 12) + 1), M.2.1, M.2.2) x1 y15).bind fun y18 => (if ¬ y18.1 = 0 then lX10_readsPattern_35 n m x1 y18.2 else some (y18.2.1 12, y18.2))) else some (M.1 12, M)))) else (if ¬ x1 = 0 then lX10_readsPattern_35 n m (x1 + (-1)) (va_up M.1 12 ((M.1 12) + 1), M.2.1, M.2.2) else some (M.1 12, M))) else (if ¬ y9 = 93 then (if x1 < 0 ∨ 10 ≤ x1.toNatClampNeg then none else (if (x1 + 1) < 0 ∨ 10 ≤ (x1 + 1).toNatClampNeg then none else ((fX10_here (va_up M.1 12 ((M.1 12) + 1), va_up M.2.1 25 (upd (M.2.1 25) (x1 + 1).toNatClampNeg ((M.2.1 25) x1.toNatClampNeg)), M.2.2)).bind fun y27 => ((fX10_axisBy y27).bind fun y29 => (if ¬ y29 = (-4) then ((fX10_readsStep (va_up M.1 12 (((M.1 12) + 1) + 1), va_up M.2.1 25 (upd (M.2.1 25) (x1 + 1).toNatClampNeg ((M.2.1 25) x1.toNatClampNeg)), M.2.2) (x1 + 1) y29).bind fun y32 => (if ¬ y32.1 = 0 then lX10_readsPattern_35 n m (x1 + 1) y32.2 else some (y32.2.1 12, y32.2))) else some ((M.1 12) + 1, (va_up M.1 12 ((M.1 12) + 1), va_up M.2.1 25 (upd (M.2.1 25) (x1 + 1).toNatClampNeg ((M.2.1 25) x1.toNatClampNeg)), M.2.2))))))) else (if ¬ x1 = 0 then lX10_readsPattern_35 n m (x1 + (-1)) (va_up M.1 12 ((M.1 12) + 1), M.2.1, M.2.2) else some (M.1 12, M)))))) = some res := H
    refine Ev.go 1 (s' := (h, 36, [(0, .ref 73), (1, .int x1)], [.ref 73])) rfl ?_
    refine Ev.get rfl (by decide) xM.1 rfl ?_
    refine Ev.go 1 (s' := (h, 40, [(0, .ref 73), (1, .int x1)], [.ref 73, .int (M.1 12)])) rfl ?_
    refine Ev.get rfl (by decide) xM.1 rfl ?_
    refine Ev.if2 rfl (fun c6 => ?_) (fun c6 => ?_)
    · have c6 : (M.1 11) ≤ (M.1 12) := c6
      rw [if_pos c6] at H
      refine Ev.go 1 (s' := (h, 175, [(0, .ref 73), (1, .int x1)], [.int x1])) rfl ?_
      refine Ev.if1 rfl (fun c7 => ?_) (fun c7 => ?_)
      · have c7 : ¬ x1 = 0 := c7
        rw [if_pos c7] at H
        refine Ev.go 1 (s' := (h, 184, [(0, .ref 73), (1, .int x1)], [.ref 73])) rfl ?_
        refine Ev.get rfl (by decide) xM.1 rfl ?_
        have H := Option.some.inj H
        subst H
        exact Ev.ret rfl rfl (p_retZ rfl) ⟨rfl, xM, (fun k _ => rfl)⟩
      · have c7 : ¬ (¬ x1 = 0) := c7
        rw [if_neg c7] at H
        refine Ev.go 2 (s' := (h, 187, [(0, .ref 73), (1, .int x1)], [.int ((-4))])) rfl ?_
        have H := Option.some.inj H
        subst H
        exact Ev.ret rfl rfl (p_retZ rfl) ⟨rfl, xM, (fun k _ => rfl)⟩
    · have c6 : ¬ ((M.1 11) ≤ (M.1 12)) := c6
      rw [if_neg c6] at H
      refine Ev.go 1 (s' := (h, 47, [(0, .ref 73), (1, .int x1)], [.ref 73])) rfl ?_
      obtain ⟨y9, e8, H⟩ := Option.bind_eq_some_iff.mp H
      refine Ev.callE rfl rfl rfl (p_argsV (by decide) xM.1 (Nat.le_of_ble_eq_true rfl)) rfl (Nat.le_of_ble_eq_true rfl) (spX10_here xM  e8) ?_
      refine Ev.go 3 (s' := (h, 54, [(0, .ref 73), (1, .int x1), (2, .int y9)], [.int 91, .int y9])) rfl ?_
      refine Ev.if2 rfl (fun c10 => ?_) (fun c10 => ?_)
      · have c10 : ¬ y9 = 91 := c10
        rw [if_pos c10] at H
        refine Ev.go 4 (s' := (h, 66, [(0, .ref 73), (1, .int x1), (2, .int y9), (3, .int 0)], [.int 93, .int y9])) rfl ?_
        refine Ev.if2 rfl (fun c11 => ?_) (fun c11 => ?_)
        · have c11 : ¬ y9 = 93 := c11
          rw [if_pos c11] at H
          refine Ev.go 1 (s' := (h, 95, [(0, .ref 73), (1, .int x1), (2, .int y9), (3, .int 0)], [.int 0])) rfl ?_
          refine Ev.if1 rfl (fun c => ?_) (fun c => ?_)
          · refine Ev.go 1 (s' := (h, 126, [(0, .ref 73), (1, .int x1), (2, .int y9), (3, .int 0)], [.ref 73])) rfl ?_
            obtain ⟨y13, e12, H⟩ := Option.bind_eq_some_iff.mp H
            refine Ev.callE rfl rfl rfl (p_argsV (by decide) xM.1 (Nat.le_of_ble_eq_true rfl)) rfl (Nat.le_of_ble_eq_true rfl) (spX10_here xM  e12) ?_
            obtain ⟨y15, e14, H⟩ := Option.bind_eq_some_iff.mp H
            refine Ev.callE rfl rfl rfl rfl rfl (Nat.le_of_ble_eq_true rfl) (spX10_axisBy  y13 e14) ?_
            refine Ev.go 3 (s' := (h, 138, [(0, .ref 73), (1, .int x1), (2, .int y9), (3, .int 0), (4, .int y15)], [.int ((-4)), .int y15])) rfl ?_
            refine Ev.if2 rfl (fun c16 => ?_) (fun c16 => ?_)
            · have c16 : ¬ y15 = (-4) := c16
              rw [if_pos c16] at H
              refine Ev.go 2 (s' := (h, 148, [(0, .ref 73), (1, .int x1), (2, .int y9), (3, .int 0), (4, .int y15)], [.ref 73, .ref 73])) rfl ?_
              refine Ev.get rfl (by decide) xM.1 rfl ?_
              refine Ev.go 2 (s' := (h, 153, [(0, .ref 73), (1, .int x1), (2, .int y9), (3, .int 0), (4, .int y15)], [.int ((M.1 12) + 1), .ref 73])) rfl ?_
              refine Ev.put rfl rfl (by decide) xM.1 (Nat.le_of_ble_eq_true rfl) rfl rfl (fs' := [.int (M.1 0), .int (M.1 1), .int (M.1 2), .ref 74, .ref 75, .ref 76, .ref 77, .int (M.1 7), .ref 78, .int (M.1 9), .ref 79, .int (M.1 11), .int ((M.1 12) + 1), .int (M.1 13), .ref 80, .int (M.1 15), .int (M.1 16), .ref 81, .ref 82, .ref 83, .int (M.1 20), .int (M.1 21), .ref 84, .ref 85, .ref 86, .ref 87, .ref 88]) rfl ?_
              refine Ev.go 3 (s' := ((pu h 73 (eO 9 [.int (M.1 0), .int (M.1 1), .int (M.1 2), .ref 74, .ref 75, .ref 76, .ref 77, .int (M.1 7), .ref 78, .int (M.1 9), .ref 79, .int (M.1 11), .int ((M.1 12) + 1), .int (M.1 13), .ref 80, .int (M.1 15), .int (M.1 16), .ref 81, .ref 82, .ref 83, .int (M.1 20), .int (M.1 21), .ref 84, .ref 85, .ref 86, .ref 87, .ref 88])), 160, [(0, .ref 73), (1, .int x1), (2, .int y9), (3, .int 0), (4, .int y15)], [.int y15, .int x1, .ref 73])) rfl ?_
              obtain ⟨y18, e17, H⟩ := Option.bind_eq_some_iff.mp H
              refine Ev.call rfl rfl rfl (p_argsV (by decide) pu_s (Nat.le_of_ble_eq_true rfl)) rfl (Nat.le_of_ble_eq_true rfl) ((spX10_readsStep (h := (pu h 73 (eO 9 [.int (M.1 0), .int (M.1 1), .int (M.1 2), .ref 74, .ref 75, .ref 76, .ref 77, .int (M.1 7), .ref 78, .int (M.1 9), .ref 79, .int (M.1 11), .int ((M.1 12) + 1), .int (M.1 13), .ref 80, .int (M.1 15), .int (M.1 16), .ref 81, .ref 82, .ref 83, .int (M.1 20), .int (M.1 21), .ref 84, .ref 85, .ref 86, .ref 87, .ref 88]))) (M := (va_up M.1 12 ((M.1 12) + 1), M.2.1, M.2.2)) ⟨pu_s, (pu_n (by decide) xM.2.1), (pu_n (by decide) xM.2.2.1), (pu_n (by decide) xM.2.2.2.1), (pu_n (by decide) xM.2.2.2.2.1), (pu_n (by decide) xM.2.2.2.2.2.1), (pu_n (by decide) xM.2.2.2.2.2.2.1), (pu_n (by decide) xM.2.2.2.2.2.2.2.1), (pu_n (by decide) xM.2.2.2.2.2.2.2.2.1), (pu_n (by decide) xM.2.2.2.2.2.2.2.2.2.1), (pu_n (by decide) xM.2.2.2.2.2.2.2.2.2.2.1), (pu_n (by decide) xM.2.2.2.2.2.2.2.2.2.2.2.1), (pu_n (by decide) xM.2.2.2.2.2.2.2.2.2.2.2.2.1), (pu_n (by decide) xM.2.2.2.2.2.2.2.2.2.2.2.2.2.1), (pu_n (by decide) xM.2.2.2.2.2.2.2.2.2.2.2.2.2.2.1), (pu_n (by decide) xM.2.2.2.2.2.2.2.2.2.2.2.2.2.2.2)⟩ x1 y15 e17).mono (fun r h19 q20 => ?_))
              obtain ⟨rfl, q20_M, q20_f⟩ := q20
              refine Ev.if1 rfl (fun c21 => ?_) (fun c21 => ?_)
              · have c21 : ¬ y18.1 = 0 := c21
                rw [if_pos c21] at H
                refine Ev.go 1 (s' := (h19, 35, [(0, .ref 73), (1, .int x1), (2, .int y9), (3, .int 0), (4, .int y15)], [])) rfl ?_
                refine Ev.live rfl (lv' := [(0, .ref 73), (1, .int x1)]) rfl ?_
                refine (llX10_readsPattern_35 m h19 x1 y18.2 _ H q20_M).mono (fun r h9 q9 => ?_)
                obtain ⟨q9r, q9_0, q9f⟩ := q9
                exact ⟨q9r, q9_0, fun k hk => (q9f k hk).trans (by rw [q20_f k (by have := hk; simp at this ⊢; omega)]; rw [pu_x (show k ≠ 73 from fun e => by have := hk; simp at this; omega)])⟩
              · have c21 : ¬ (¬ y18.1 = 0) := c21
                rw [if_neg c21] at H
                refine Ev.go 1 (s' := (h19, 167, [(0, .ref 73), (1, .int x1), (2, .int y9), (3, .int 0), (4, .int y15)], [.ref 73])) rfl ?_
                refine Ev.get rfl (by decide) q20_M.1 rfl ?_
                have H := Option.some.inj H
                subst H
                exact Ev.ret rfl rfl (p_retZ rfl) ⟨rfl, q20_M, (fun k hk => by rw [q20_f k (by have := hk; simp at this ⊢; omega)]; rw [pu_x (show k ≠ 73 from fun e => by have := hk; simp at this; omega)])⟩
            · have c16 : ¬ (¬ y15 = (-4)) := c16
              rw [if_neg c16] at H
              refine Ev.go 1 (s' := (h, 142, [(0, .ref 73), (1, .int x1), (2, .int y9), (3, .int 0), (4, .int y15)], [.ref 73])) rfl ?_
              refine Ev.get rfl (by decide) xM.1 rfl ?_
              have H := Option.some.inj H
              subst H
              exact Ev.ret rfl rfl (p_retZ rfl) ⟨rfl, xM, (fun k _ => rfl)⟩
          · exact absurd (show (0 : Int32) = 0 by decide) c
        · have c11 : ¬ (¬ y9 = 93) := c11
          rw [if_neg c11] at H
          refine Ev.go 1 (s' := (h, 70, [(0, .ref 73), (1, .int x1), (2, .int y9), (3, .int 0)], [.int x1])) rfl ?_
          refine Ev.if1 rfl (fun c22 => ?_) (fun c22 => ?_)
          · have c22 : ¬ x1 = 0 := c22
            rw [if_pos c22] at H
            refine Ev.go 3 (s' := (h, 83, [(0, .ref 73), (1, .int (x1 + (-1))), (2, .int y9), (3, .int 0)], [.ref 73, .ref 73])) rfl ?_
            refine Ev.get rfl (by decide) xM.1 rfl ?_
            refine Ev.go 2 (s' := (h, 88, [(0, .ref 73), (1, .int (x1 + (-1))), (2, .int y9), (3, .int 0)], [.int ((M.1 12) + 1), .ref 73])) rfl ?_
            refine Ev.put rfl rfl (by decide) xM.1 (Nat.le_of_ble_eq_true rfl) rfl rfl (fs' := [.int (M.1 0), .int (M.1 1), .int (M.1 2), .ref 74, .ref 75, .ref 76, .ref 77, .int (M.1 7), .ref 78, .int (M.1 9), .ref 79, .int (M.1 11), .int ((M.1 12) + 1), .int (M.1 13), .ref 80, .int (M.1 15), .int (M.1 16), .ref 81, .ref 82, .ref 83, .int (M.1 20), .int (M.1 21), .ref 84, .ref 85, .ref 86, .ref 87, .ref 88]) rfl ?_
            refine Ev.go 2 (s' := ((pu h 73 (eO 9 [.int (M.1 0), .int (M.1 1), .int (M.1 2), .ref 74, .ref 75, .ref 76, .ref 77, .int (M.1 7), .ref 78, .int (M.1 9), .ref 79, .int (M.1 11), .int ((M.1 12) + 1), .int (M.1 13), .ref 80, .int (M.1 15), .int (M.1 16), .ref 81, .ref 82, .ref 83, .int (M.1 20), .int (M.1 21), .ref 84, .ref 85, .ref 86, .ref 87, .ref 88])), 35, [(0, .ref 73), (1, .int (x1 + (-1))), (2, .int y9), (3, .int 0)], [])) rfl ?_
            refine Ev.live rfl (lv' := [(0, .ref 73), (1, .int (x1 + (-1)))]) rfl ?_
            refine (llX10_readsPattern_35 m (pu h 73 (eO 9 [.int (M.1 0), .int (M.1 1), .int (M.1 2), .ref 74, .ref 75, .ref 76, .ref 77, .int (M.1 7), .ref 78, .int (M.1 9), .ref 79, .int (M.1 11), .int ((M.1 12) + 1), .int (M.1 13), .ref 80, .int (M.1 15), .int (M.1 16), .ref 81, .ref 82, .ref 83, .int (M.1 20), .int (M.1 21), .ref 84, .ref 85, .ref 86, .ref 87, .ref 88])) (x1 + (-1)) (va_up M.1 12 ((M.1 12) + 1), M.2.1, M.2.2) _ H ⟨pu_s, (pu_n (by decide) xM.2.1), (pu_n (by decide) xM.2.2.1), (pu_n (by decide) xM.2.2.2.1), (pu_n (by decide) xM.2.2.2.2.1), (pu_n (by decide) xM.2.2.2.2.2.1), (pu_n (by decide) xM.2.2.2.2.2.2.1), (pu_n (by decide) xM.2.2.2.2.2.2.2.1), (pu_n (by decide) xM.2.2.2.2.2.2.2.2.1), (pu_n (by decide) xM.2.2.2.2.2.2.2.2.2.1), (pu_n (by decide) xM.2.2.2.2.2.2.2.2.2.2.1), (pu_n (by decide) xM.2.2.2.2.2.2.2.2.2.2.2.1), (pu_n (by decide) xM.2.2.2.2.2.2.2.2.2.2.2.2.1), (pu_n (by decide) xM.2.2.2.2.2.2.2.2.2.2.2.2.2.1), (pu_n (by decide) xM.2.2.2.2.2.2.2.2.2.2.2.2.2.2.1), (pu_n (by decide) xM.2.2.2.2.2.2.2.2.2.2.2.2.2.2.2)⟩).mono (fun r h9 q9 => ?_)
            obtain ⟨q9r, q9_0, q9f⟩ := q9
            exact ⟨q9r, q9_0, fun k hk => (q9f k hk).trans (by rw [pu_x (show k ≠ 73 from fun e => by have := hk; simp at this; omega)])⟩
          · have c22 : ¬ (¬ x1 = 0) := c22
            rw [if_neg c22] at H
            refine Ev.go 1 (s' := (h, 74, [(0, .ref 73), (1, .int x1), (2, .int y9), (3, .int 0)], [.ref 73])) rfl ?_
            refine Ev.get rfl (by decide) xM.1 rfl ?_
            have H := Option.some.inj H
            subst H
            exact Ev.ret rfl rfl (p_retZ rfl) ⟨rfl, xM, (fun k _ => rfl)⟩
      · have c10 : ¬ (¬ y9 = 91) := c10
        rw [if_neg c10] at H
        refine Ev.go 5 (s' := (h, 66, [(0, .ref 73), (1, .int x1), (2, .int y9), (3, .int 1)], [.int 93, .int y9])) rfl ?_
        refine Ev.if2 rfl (fun c23 => ?_) (fun c23 => ?_)
        · have c23 : ¬ y9 = 93 := c23
          rw [if_pos c23] at H
          refine Ev.go 1 (s' := (h, 95, [(0, .ref 73), (1, .int x1), (2, .int y9), (3, .int 1)], [.int 1])) rfl ?_
          refine Ev.if1 rfl (fun c => ?_) (fun c => ?_)
          · exact absurd (show (1 : Int32) = 0 from c) (by decide)
          · refine Ev.go 2 (s' := (h, 100, [(0, .ref 73), (1, .int x1), (2, .int y9), (3, .int 1)], [.ref 73, .ref 73])) rfl ?_
            refine Ev.get rfl (by decide) xM.1 rfl ?_
            refine Ev.go 2 (s' := (h, 105, [(0, .ref 73), (1, .int x1), (2, .int y9), (3, .int 1)], [.int ((M.1 12) + 1), .ref 73])) rfl ?_
            refine Ev.put rfl rfl (by decide) xM.1 (Nat.le_of_ble_eq_true rfl) rfl rfl (fs' := [.int (M.1 0), .int (M.1 1), .int (M.1 2), .ref 74, .ref 75, .ref 76, .ref 77, .int (M.1 7), .ref 78, .int (M.1 9), .ref 79, .int (M.1 11), .int ((M.1 12) + 1), .int (M.1 13), .ref 80, .int (M.1 15), .int (M.1 16), .ref 81, .ref 82, .ref 83, .int (M.1 20), .int (M.1 21), .ref 84, .ref 85, .ref 86, .ref 87, .ref 88]) rfl ?_
            refine Ev.go 1 (s' := ((pu h 73 (eO 9 [.int (M.1 0), .int (M.1 1), .int (M.1 2), .ref 74, .ref 75, .ref 76, .ref 77, .int (M.1 7), .ref 78, .int (M.1 9), .ref 79, .int (M.1 11), .int ((M.1 12) + 1), .int (M.1 13), .ref 80, .int (M.1 15), .int (M.1 16), .ref 81, .ref 82, .ref 83, .int (M.1 20), .int (M.1 21), .ref 84, .ref 85, .ref 86, .ref 87, .ref 88])), 109, [(0, .ref 73), (1, .int x1), (2, .int y9), (3, .int 1)], [.ref 73])) rfl ?_
            refine Ev.get rfl (by decide) pu_s rfl ?_
            refine Ev.go 4 (s' := ((pu h 73 (eO 9 [.int (M.1 0), .int (M.1 1), .int (M.1 2), .ref 74, .ref 75, .ref 76, .ref 77, .int (M.1 7), .ref 78, .int (M.1 9), .ref 79, .int (M.1 11), .int ((M.1 12) + 1), .int (M.1 13), .ref 80, .int (M.1 15), .int (M.1 16), .ref 81, .ref 82, .ref 83, .int (M.1 20), .int (M.1 21), .ref 84, .ref 85, .ref 86, .ref 87, .ref 88])), 116, [(0, .ref 73), (1, .int x1), (2, .int y9), (3, .int 1)], [.ref 73, .int (x1 + 1), .ref 87])) rfl ?_
            refine Ev.get rfl (by decide) pu_s rfl ?_
            refine Ev.go 1 (s' := ((pu h 73 (eO 9 [.int (M.1 0), .int (M.1 1), .int (M.1 2), .ref 74, .ref 75, .ref 76, .ref 77, .int (M.1 7), .ref 78, .int (M.1 9), .ref 79, .int (M.1 11), .int ((M.1 12) + 1), .int (M.1 13), .ref 80, .int (M.1 15), .int (M.1 16), .ref 81, .ref 82, .ref 83, .int (M.1 20), .int (M.1 21), .ref 84, .ref 85, .ref 86, .ref 87, .ref 88])), 120, [(0, .ref 73), (1, .int x1), (2, .int y9), (3, .int 1)], [.int x1, .ref 87, .int (x1 + 1), .ref 87])) rfl ?_
            have v24 : vp_in x1 10 := fun q => by rw [if_pos q] at H; cases H
            rw [if_neg v24] at H
            refine Ev.iald rfl (by decide) (pu_n (by decide) xM.2.2.2.2.2.2.2.2.2.2.2.2.2.2.1) v24 ?_
            have v25 : vp_in (x1 + 1) 10 := fun q => by rw [if_pos q] at H; cases H
            rw [if_neg v25] at H
            refine Ev.iast rfl (by decide) (pu_n (by decide) xM.2.2.2.2.2.2.2.2.2.2.2.2.2.2.1) v25 ?_
            refine Ev.go 2 (s' := ((pu (pu h 73 (eO 9 [.int (M.1 0), .int (M.1 1), .int (M.1 2), .ref 74, .ref 75, .ref 76, .ref 77, .int (M.1 7), .ref 78, .int (M.1 9), .ref 79, .int (M.1 11), .int ((M.1 12) + 1), .int (M.1 13), .ref 80, .int (M.1 15), .int (M.1 16), .ref 81, .ref 82, .ref 83, .int (M.1 20), .int (M.1 21), .ref 84, .ref 85, .ref 86, .ref 87, .ref 88])) 87 (eI 10 (upd (M.2.1 25) (x1 + 1).toNatClampNeg ((M.2.1 25) x1.toNatClampNeg)))), 126, [(0, .ref 73), (1, .int (x1 + 1)), (2, .int y9), (3, .int 1)], [.ref 73])) rfl ?_
            obtain ⟨y27, e26, H⟩ := Option.bind_eq_some_iff.mp H
            refine Ev.callE rfl rfl rfl (p_argsV (by decide) (pu_n (by decide) pu_s) (Nat.le_of_ble_eq_true rfl)) rfl (Nat.le_of_ble_eq_true rfl) (spX10_here (h := (pu (pu h 73 (eO 9 [.int (M.1 0), .int (M.1 1), .int (M.1 2), .ref 74, .ref 75, .ref 76, .ref 77, .int (M.1 7), .ref 78, .int (M.1 9), .ref 79, .int (M.1 11), .int ((M.1 12) + 1), .int (M.1 13), .ref 80, .int (M.1 15), .int (M.1 16), .ref 81, .ref 82, .ref 83, .int (M.1 20), .int (M.1 21), .ref 84, .ref 85, .ref 86, .ref 87, .ref 88])) 87 (eI 10 (upd (M.2.1 25) (x1 + 1).toNatClampNeg ((M.2.1 25) x1.toNatClampNeg))))) (M := (va_up M.1 12 ((M.1 12) + 1), va_up M.2.1 25 (upd (M.2.1 25) (x1 + 1).toNatClampNeg ((M.2.1 25) x1.toNatClampNeg)), M.2.2)) ⟨(pu_n (by decide) pu_s), (pu_n (by decide) (pu_n (by decide) xM.2.1)), (pu_n (by decide) (pu_n (by decide) xM.2.2.1)), (pu_n (by decide) (pu_n (by decide) xM.2.2.2.1)), (pu_n (by decide) (pu_n (by decide) xM.2.2.2.2.1)), (pu_n (by decide) (pu_n (by decide) xM.2.2.2.2.2.1)), (pu_n (by decide) (pu_n (by decide) xM.2.2.2.2.2.2.1)), (pu_n (by decide) (pu_n (by decide) xM.2.2.2.2.2.2.2.1)), (pu_n (by decide) (pu_n (by decide) xM.2.2.2.2.2.2.2.2.1)), (pu_n (by decide) (pu_n (by decide) xM.2.2.2.2.2.2.2.2.2.1)), (pu_n (by decide) (pu_n (by decide) xM.2.2.2.2.2.2.2.2.2.2.1)), (pu_n (by decide) (pu_n (by decide) xM.2.2.2.2.2.2.2.2.2.2.2.1)), (pu_n (by decide) (pu_n (by decide) xM.2.2.2.2.2.2.2.2.2.2.2.2.1)), (pu_n (by decide) (pu_n (by decide) xM.2.2.2.2.2.2.2.2.2.2.2.2.2.1)), pu_s, (pu_n (by decide) (pu_n (by decide) xM.2.2.2.2.2.2.2.2.2.2.2.2.2.2.2))⟩  e26) ?_
            obtain ⟨y29, e28, H⟩ := Option.bind_eq_some_iff.mp H
            refine Ev.callE rfl rfl rfl rfl rfl (Nat.le_of_ble_eq_true rfl) (spX10_axisBy  y27 e28) ?_
            refine Ev.go 3 (s' := ((pu (pu h 73 (eO 9 [.int (M.1 0), .int (M.1 1), .int (M.1 2), .ref 74, .ref 75, .ref 76, .ref 77, .int (M.1 7), .ref 78, .int (M.1 9), .ref 79, .int (M.1 11), .int ((M.1 12) + 1), .int (M.1 13), .ref 80, .int (M.1 15), .int (M.1 16), .ref 81, .ref 82, .ref 83, .int (M.1 20), .int (M.1 21), .ref 84, .ref 85, .ref 86, .ref 87, .ref 88])) 87 (eI 10 (upd (M.2.1 25) (x1 + 1).toNatClampNeg ((M.2.1 25) x1.toNatClampNeg)))), 138, [(0, .ref 73), (1, .int (x1 + 1)), (2, .int y9), (3, .int 1), (4, .int y29)], [.int ((-4)), .int y29])) rfl ?_
            refine Ev.if2 rfl (fun c30 => ?_) (fun c30 => ?_)
            · have c30 : ¬ y29 = (-4) := c30
              rw [if_pos c30] at H
              refine Ev.go 2 (s' := ((pu (pu h 73 (eO 9 [.int (M.1 0), .int (M.1 1), .int (M.1 2), .ref 74, .ref 75, .ref 76, .ref 77, .int (M.1 7), .ref 78, .int (M.1 9), .ref 79, .int (M.1 11), .int ((M.1 12) + 1), .int (M.1 13), .ref 80, .int (M.1 15), .int (M.1 16), .ref 81, .ref 82, .ref 83, .int (M.1 20), .int (M.1 21), .ref 84, .ref 85, .ref 86, .ref 87, .ref 88])) 87 (eI 10 (upd (M.2.1 25) (x1 + 1).toNatClampNeg ((M.2.1 25) x1.toNatClampNeg)))), 148, [(0, .ref 73), (1, .int (x1 + 1)), (2, .int y9), (3, .int 1), (4, .int y29)], [.ref 73, .ref 73])) rfl ?_
              refine Ev.get rfl (by decide) (pu_n (by decide) pu_s) rfl ?_
              refine Ev.go 2 (s' := ((pu (pu h 73 (eO 9 [.int (M.1 0), .int (M.1 1), .int (M.1 2), .ref 74, .ref 75, .ref 76, .ref 77, .int (M.1 7), .ref 78, .int (M.1 9), .ref 79, .int (M.1 11), .int ((M.1 12) + 1), .int (M.1 13), .ref 80, .int (M.1 15), .int (M.1 16), .ref 81, .ref 82, .ref 83, .int (M.1 20), .int (M.1 21), .ref 84, .ref 85, .ref 86, .ref 87, .ref 88])) 87 (eI 10 (upd (M.2.1 25) (x1 + 1).toNatClampNeg ((M.2.1 25) x1.toNatClampNeg)))), 153, [(0, .ref 73), (1, .int (x1 + 1)), (2, .int y9), (3, .int 1), (4, .int y29)], [.int (((M.1 12) + 1) + 1), .ref 73])) rfl ?_
              refine Ev.put rfl rfl (by decide) (pu_n (by decide) pu_s) (Nat.le_of_ble_eq_true rfl) rfl rfl (fs' := [.int (M.1 0), .int (M.1 1), .int (M.1 2), .ref 74, .ref 75, .ref 76, .ref 77, .int (M.1 7), .ref 78, .int (M.1 9), .ref 79, .int (M.1 11), .int (((M.1 12) + 1) + 1), .int (M.1 13), .ref 80, .int (M.1 15), .int (M.1 16), .ref 81, .ref 82, .ref 83, .int (M.1 20), .int (M.1 21), .ref 84, .ref 85, .ref 86, .ref 87, .ref 88]) rfl ?_
              refine Ev.go 3 (s' := ((pu (pu (pu h 73 (eO 9 [.int (M.1 0), .int (M.1 1), .int (M.1 2), .ref 74, .ref 75, .ref 76, .ref 77, .int (M.1 7), .ref 78, .int (M.1 9), .ref 79, .int (M.1 11), .int ((M.1 12) + 1), .int (M.1 13), .ref 80, .int (M.1 15), .int (M.1 16), .ref 81, .ref 82, .ref 83, .int (M.1 20), .int (M.1 21), .ref 84, .ref 85, .ref 86, .ref 87, .ref 88])) 87 (eI 10 (upd (M.2.1 25) (x1 + 1).toNatClampNeg ((M.2.1 25) x1.toNatClampNeg)))) 73 (eO 9 [.int (M.1 0), .int (M.1 1), .int (M.1 2), .ref 74, .ref 75, .ref 76, .ref 77, .int (M.1 7), .ref 78, .int (M.1 9), .ref 79, .int (M.1 11), .int (((M.1 12) + 1) + 1), .int (M.1 13), .ref 80, .int (M.1 15), .int (M.1 16), .ref 81, .ref 82, .ref 83, .int (M.1 20), .int (M.1 21), .ref 84, .ref 85, .ref 86, .ref 87, .ref 88])), 160, [(0, .ref 73), (1, .int (x1 + 1)), (2, .int y9), (3, .int 1), (4, .int y29)], [.int y29, .int (x1 + 1), .ref 73])) rfl ?_
              obtain ⟨y32, e31, H⟩ := Option.bind_eq_some_iff.mp H
              refine Ev.call rfl rfl rfl (p_argsV (by decide) pu_s (Nat.le_of_ble_eq_true rfl)) rfl (Nat.le_of_ble_eq_true rfl) ((spX10_readsStep (h := (pu (pu (pu h 73 (eO 9 [.int (M.1 0), .int (M.1 1), .int (M.1 2), .ref 74, .ref 75, .ref 76, .ref 77, .int (M.1 7), .ref 78, .int (M.1 9), .ref 79, .int (M.1 11), .int ((M.1 12) + 1), .int (M.1 13), .ref 80, .int (M.1 15), .int (M.1 16), .ref 81, .ref 82, .ref 83, .int (M.1 20), .int (M.1 21), .ref 84, .ref 85, .ref 86, .ref 87, .ref 88])) 87 (eI 10 (upd (M.2.1 25) (x1 + 1).toNatClampNeg ((M.2.1 25) x1.toNatClampNeg)))) 73 (eO 9 [.int (M.1 0), .int (M.1 1), .int (M.1 2), .ref 74, .ref 75, .ref 76, .ref 77, .int (M.1 7), .ref 78, .int (M.1 9), .ref 79, .int (M.1 11), .int (((M.1 12) + 1) + 1), .int (M.1 13), .ref 80, .int (M.1 15), .int (M.1 16), .ref 81, .ref 82, .ref 83, .int (M.1 20), .int (M.1 21), .ref 84, .ref 85, .ref 86, .ref 87, .ref 88]))) (M := (va_up M.1 12 (((M.1 12) + 1) + 1), va_up M.2.1 25 (upd (M.2.1 25) (x1 + 1).toNatClampNeg ((M.2.1 25) x1.toNatClampNeg)), M.2.2)) ⟨pu_s, (pu_n (by decide) (pu_n (by decide) (pu_n (by decide) xM.2.1))), (pu_n (by decide) (pu_n (by decide) (pu_n (by decide) xM.2.2.1))), (pu_n (by decide) (pu_n (by decide) (pu_n (by decide) xM.2.2.2.1))), (pu_n (by decide) (pu_n (by decide) (pu_n (by decide) xM.2.2.2.2.1))), (pu_n (by decide) (pu_n (by decide) (pu_n (by decide) xM.2.2.2.2.2.1))), (pu_n (by decide) (pu_n (by decide) (pu_n (by decide) xM.2.2.2.2.2.2.1))), (pu_n (by decide) (pu_n (by decide) (pu_n (by decide) xM.2.2.2.2.2.2.2.1))), (pu_n (by decide) (pu_n (by decide) (pu_n (by decide) xM.2.2.2.2.2.2.2.2.1))), (pu_n (by decide) (pu_n (by decide) (pu_n (by decide) xM.2.2.2.2.2.2.2.2.2.1))), (pu_n (by decide) (pu_n (by decide) (pu_n (by decide) xM.2.2.2.2.2.2.2.2.2.2.1))), (pu_n (by decide) (pu_n (by decide) (pu_n (by decide) xM.2.2.2.2.2.2.2.2.2.2.2.1))), (pu_n (by decide) (pu_n (by decide) (pu_n (by decide) xM.2.2.2.2.2.2.2.2.2.2.2.2.1))), (pu_n (by decide) (pu_n (by decide) (pu_n (by decide) xM.2.2.2.2.2.2.2.2.2.2.2.2.2.1))), (pu_n (by decide) pu_s), (pu_n (by decide) (pu_n (by decide) (pu_n (by decide) xM.2.2.2.2.2.2.2.2.2.2.2.2.2.2.2)))⟩ (x1 + 1) y29 e31).mono (fun r h33 q34 => ?_))
              obtain ⟨rfl, q34_M, q34_f⟩ := q34
              refine Ev.if1 rfl (fun c35 => ?_) (fun c35 => ?_)
              · have c35 : ¬ y32.1 = 0 := c35
                rw [if_pos c35] at H
                refine Ev.go 1 (s' := (h33, 35, [(0, .ref 73), (1, .int (x1 + 1)), (2, .int y9), (3, .int 1), (4, .int y29)], [])) rfl ?_
                refine Ev.live rfl (lv' := [(0, .ref 73), (1, .int (x1 + 1))]) rfl ?_
                refine (llX10_readsPattern_35 m h33 (x1 + 1) y32.2 _ H q34_M).mono (fun r h9 q9 => ?_)
                obtain ⟨q9r, q9_0, q9f⟩ := q9
                exact ⟨q9r, q9_0, fun k hk => (q9f k hk).trans (by rw [q34_f k (by have := hk; simp at this ⊢; omega)]; rw [pu_x (show k ≠ 73 from fun e => by have := hk; simp at this; omega)]; rw [pu_x (show k ≠ 87 from fun e => by have := hk; simp at this; omega)]; rw [pu_x (show k ≠ 73 from fun e => by have := hk; simp at this; omega)])⟩
              · have c35 : ¬ (¬ y32.1 = 0) := c35
                rw [if_neg c35] at H
                refine Ev.go 1 (s' := (h33, 167, [(0, .ref 73), (1, .int (x1 + 1)), (2, .int y9), (3, .int 1), (4, .int y29)], [.ref 73])) rfl ?_
                refine Ev.get rfl (by decide) q34_M.1 rfl ?_
                have H := Option.some.inj H
                subst H
                exact Ev.ret rfl rfl (p_retZ rfl) ⟨rfl, q34_M, (fun k hk => by rw [q34_f k (by have := hk; simp at this ⊢; omega)]; rw [pu_x (show k ≠ 73 from fun e => by have := hk; simp at this; omega)]; rw [pu_x (show k ≠ 87 from fun e => by have := hk; simp at this; omega)]; rw [pu_x (show k ≠ 73 from fun e => by have := hk; simp at this; omega)])⟩
            · have c30 : ¬ (¬ y29 = (-4)) := c30
              rw [if_neg c30] at H
              refine Ev.go 1 (s' := ((pu (pu h 73 (eO 9 [.int (M.1 0), .int (M.1 1), .int (M.1 2), .ref 74, .ref 75, .ref 76, .ref 77, .int (M.1 7), .ref 78, .int (M.1 9), .ref 79, .int (M.1 11), .int ((M.1 12) + 1), .int (M.1 13), .ref 80, .int (M.1 15), .int (M.1 16), .ref 81, .ref 82, .ref 83, .int (M.1 20), .int (M.1 21), .ref 84, .ref 85, .ref 86, .ref 87, .ref 88])) 87 (eI 10 (upd (M.2.1 25) (x1 + 1).toNatClampNeg ((M.2.1 25) x1.toNatClampNeg)))), 142, [(0, .ref 73), (1, .int (x1 + 1)), (2, .int y9), (3, .int 1), (4, .int y29)], [.ref 73])) rfl ?_
              refine Ev.get rfl (by decide) (pu_n (by decide) pu_s) rfl ?_
              have H := Option.some.inj H
              subst H
              exact Ev.ret rfl rfl (p_retZ rfl) ⟨rfl, ⟨(pu_n (by decide) pu_s), (pu_n (by decide) (pu_n (by decide) xM.2.1)), (pu_n (by decide) (pu_n (by decide) xM.2.2.1)), (pu_n (by decide) (pu_n (by decide) xM.2.2.2.1)), (pu_n (by decide) (pu_n (by decide) xM.2.2.2.2.1)), (pu_n (by decide) (pu_n (by decide) xM.2.2.2.2.2.1)), (pu_n (by decide) (pu_n (by decide) xM.2.2.2.2.2.2.1)), (pu_n (by decide) (pu_n (by decide) xM.2.2.2.2.2.2.2.1)), (pu_n (by decide) (pu_n (by decide) xM.2.2.2.2.2.2.2.2.1)), (pu_n (by decide) (pu_n (by decide) xM.2.2.2.2.2.2.2.2.2.1)), (pu_n (by decide) (pu_n (by decide) xM.2.2.2.2.2.2.2.2.2.2.1)), (pu_n (by decide) (pu_n (by decide) xM.2.2.2.2.2.2.2.2.2.2.2.1)), (pu_n (by decide) (pu_n (by decide) xM.2.2.2.2.2.2.2.2.2.2.2.2.1)), (pu_n (by decide) (pu_n (by decide) xM.2.2.2.2.2.2.2.2.2.2.2.2.2.1)), pu_s, (pu_n (by decide) (pu_n (by decide) xM.2.2.2.2.2.2.2.2.2.2.2.2.2.2.2))⟩, (fun k hk => by rw [pu_x (show k ≠ 87 from fun e => by have := hk; simp at this; omega)]; rw [pu_x (show k ≠ 73 from fun e => by have := hk; simp at this; omega)])⟩
        · have c23 : ¬ (¬ y9 = 93) := c23
          rw [if_neg c23] at H
          refine Ev.go 1 (s' := (h, 70, [(0, .ref 73), (1, .int x1), (2, .int y9), (3, .int 1)], [.int x1])) rfl ?_
          refine Ev.if1 rfl (fun c36 => ?_) (fun c36 => ?_)
          · have c36 : ¬ x1 = 0 := c36
            rw [if_pos c36] at H
            refine Ev.go 3 (s' := (h, 83, [(0, .ref 73), (1, .int (x1 + (-1))), (2, .int y9), (3, .int 1)], [.ref 73, .ref 73])) rfl ?_
            refine Ev.get rfl (by decide) xM.1 rfl ?_
            refine Ev.go 2 (s' := (h, 88, [(0, .ref 73), (1, .int (x1 + (-1))), (2, .int y9), (3, .int 1)], [.int ((M.1 12) + 1), .ref 73])) rfl ?_
            refine Ev.put rfl rfl (by decide) xM.1 (Nat.le_of_ble_eq_true rfl) rfl rfl (fs' := [.int (M.1 0), .int (M.1 1), .int (M.1 2), .ref 74, .ref 75, .ref 76, .ref 77, .int (M.1 7), .ref 78, .int (M.1 9), .ref 79, .int (M.1 11), .int ((M.1 12) + 1), .int (M.1 13), .ref 80, .int (M.1 15), .int (M.1 16), .ref 81, .ref 82, .ref 83, .int (M.1 20), .int (M.1 21), .ref 84, .ref 85, .ref 86, .ref 87, .ref 88]) rfl ?_
            refine Ev.go 2 (s' := ((pu h 73 (eO 9 [.int (M.1 0), .int (M.1 1), .int (M.1 2), .ref 74, .ref 75, .ref 76, .ref 77, .int (M.1 7), .ref 78, .int (M.1 9), .ref 79, .int (M.1 11), .int ((M.1 12) + 1), .int (M.1 13), .ref 80, .int (M.1 15), .int (M.1 16), .ref 81, .ref 82, .ref 83, .int (M.1 20), .int (M.1 21), .ref 84, .ref 85, .ref 86, .ref 87, .ref 88])), 35, [(0, .ref 73), (1, .int (x1 + (-1))), (2, .int y9), (3, .int 1)], [])) rfl ?_
            refine Ev.live rfl (lv' := [(0, .ref 73), (1, .int (x1 + (-1)))]) rfl ?_
            refine (llX10_readsPattern_35 m (pu h 73 (eO 9 [.int (M.1 0), .int (M.1 1), .int (M.1 2), .ref 74, .ref 75, .ref 76, .ref 77, .int (M.1 7), .ref 78, .int (M.1 9), .ref 79, .int (M.1 11), .int ((M.1 12) + 1), .int (M.1 13), .ref 80, .int (M.1 15), .int (M.1 16), .ref 81, .ref 82, .ref 83, .int (M.1 20), .int (M.1 21), .ref 84, .ref 85, .ref 86, .ref 87, .ref 88])) (x1 + (-1)) (va_up M.1 12 ((M.1 12) + 1), M.2.1, M.2.2) _ H ⟨pu_s, (pu_n (by decide) xM.2.1), (pu_n (by decide) xM.2.2.1), (pu_n (by decide) xM.2.2.2.1), (pu_n (by decide) xM.2.2.2.2.1), (pu_n (by decide) xM.2.2.2.2.2.1), (pu_n (by decide) xM.2.2.2.2.2.2.1), (pu_n (by decide) xM.2.2.2.2.2.2.2.1), (pu_n (by decide) xM.2.2.2.2.2.2.2.2.1), (pu_n (by decide) xM.2.2.2.2.2.2.2.2.2.1), (pu_n (by decide) xM.2.2.2.2.2.2.2.2.2.2.1), (pu_n (by decide) xM.2.2.2.2.2.2.2.2.2.2.2.1), (pu_n (by decide) xM.2.2.2.2.2.2.2.2.2.2.2.2.1), (pu_n (by decide) xM.2.2.2.2.2.2.2.2.2.2.2.2.2.1), (pu_n (by decide) xM.2.2.2.2.2.2.2.2.2.2.2.2.2.2.1), (pu_n (by decide) xM.2.2.2.2.2.2.2.2.2.2.2.2.2.2.2)⟩).mono (fun r h9 q9 => ?_)
            obtain ⟨q9r, q9_0, q9f⟩ := q9
            exact ⟨q9r, q9_0, fun k hk => (q9f k hk).trans (by rw [pu_x (show k ≠ 73 from fun e => by have := hk; simp at this; omega)])⟩
          · have c36 : ¬ (¬ x1 = 0) := c36
            rw [if_neg c36] at H
            refine Ev.go 1 (s' := (h, 74, [(0, .ref 73), (1, .int x1), (2, .int y9), (3, .int 1)], [.ref 73])) rfl ?_
            refine Ev.get rfl (by decide) xM.1 rfl ?_
            have H := Option.some.inj H
            subst H
            exact Ev.ret rfl rfl (p_retZ rfl) ⟨rfl, xM, (fun k _ => rfl)⟩
def fX10_readsPattern (n : Nat) (M : tM) : Option (Int32 × tM) := ((fX10_readsStep (va_up (va_up M.1 12 0) 20 0, va_up M.2.1 25 (upd (M.2.1 25) 0 (-4)), M.2.2) 0 (-4)).bind fun y2 => (if ¬ y2.1 = 0 then lX10_readsPattern_35 n n 0 y2.2 else some (y2.2.1 12, y2.2)))
theorem spX10_readsPattern {d n : Nat} {h : pH} {M : tM} (xM : isM h M) {res : Int32 × tM} (H : fX10_readsPattern n M = some res) : Ev (d + 2) mX10_readsPattern (h, 0, [(0, .ref 73)], []) (fun r h1 => r = some (.int res.1) ∧ isM h1 res.2 ∧ fr [(73, 89)] h h1) := by
  unfold fX10_readsPattern at H
  refine Ev.go 2 (s' := (h, 2, [(0, .ref 73)], [.int 0, .ref 73])) rfl ?_
  refine Ev.put rfl rfl (by decide) xM.1 (Nat.le_of_ble_eq_true rfl) rfl rfl (fs' := [.int (M.1 0), .int (M.1 1), .int (M.1 2), .ref 74, .ref 75, .ref 76, .ref 77, .int (M.1 7), .ref 78, .int (M.1 9), .ref 79, .int (M.1 11), .int 0, .int (M.1 13), .ref 80, .int (M.1 15), .int (M.1 16), .ref 81, .ref 82, .ref 83, .int (M.1 20), .int (M.1 21), .ref 84, .ref 85, .ref 86, .ref 87, .ref 88]) rfl ?_
  refine Ev.go 2 (s' := ((pu h 73 (eO 9 [.int (M.1 0), .int (M.1 1), .int (M.1 2), .ref 74, .ref 75, .ref 76, .ref 77, .int (M.1 7), .ref 78, .int (M.1 9), .ref 79, .int (M.1 11), .int 0, .int (M.1 13), .ref 80, .int (M.1 15), .int (M.1 16), .ref 81, .ref 82, .ref 83, .int (M.1 20), .int (M.1 21), .ref 84, .ref 85, .ref 86, .ref 87, .ref 88])), 7, [(0, .ref 73)], [.int 0, .ref 73])) rfl ?_
  refine Ev.put rfl rfl (by decide) pu_s (Nat.le_of_ble_eq_true rfl) rfl rfl (fs' := [.int (M.1 0), .int (M.1 1), .int (M.1 2), .ref 74, .ref 75, .ref 76, .ref 77, .int (M.1 7), .ref 78, .int (M.1 9), .ref 79, .int (M.1 11), .int 0, .int (M.1 13), .ref 80, .int (M.1 15), .int (M.1 16), .ref 81, .ref 82, .ref 83, .int 0, .int (M.1 21), .ref 84, .ref 85, .ref 86, .ref 87, .ref 88]) rfl ?_
  refine Ev.go 3 (s' := ((pu (pu h 73 (eO 9 [.int (M.1 0), .int (M.1 1), .int (M.1 2), .ref 74, .ref 75, .ref 76, .ref 77, .int (M.1 7), .ref 78, .int (M.1 9), .ref 79, .int (M.1 11), .int 0, .int (M.1 13), .ref 80, .int (M.1 15), .int (M.1 16), .ref 81, .ref 82, .ref 83, .int (M.1 20), .int (M.1 21), .ref 84, .ref 85, .ref 86, .ref 87, .ref 88])) 73 (eO 9 [.int (M.1 0), .int (M.1 1), .int (M.1 2), .ref 74, .ref 75, .ref 76, .ref 77, .int (M.1 7), .ref 78, .int (M.1 9), .ref 79, .int (M.1 11), .int 0, .int (M.1 13), .ref 80, .int (M.1 15), .int (M.1 16), .ref 81, .ref 82, .ref 83, .int 0, .int (M.1 21), .ref 84, .ref 85, .ref 86, .ref 87, .ref 88])), 13, [(0, .ref 73), (1, .int 0)], [.ref 73])) rfl ?_
  refine Ev.get rfl (by decide) pu_s rfl ?_
  refine Ev.go 2 (s' := ((pu (pu h 73 (eO 9 [.int (M.1 0), .int (M.1 1), .int (M.1 2), .ref 74, .ref 75, .ref 76, .ref 77, .int (M.1 7), .ref 78, .int (M.1 9), .ref 79, .int (M.1 11), .int 0, .int (M.1 13), .ref 80, .int (M.1 15), .int (M.1 16), .ref 81, .ref 82, .ref 83, .int (M.1 20), .int (M.1 21), .ref 84, .ref 85, .ref 86, .ref 87, .ref 88])) 73 (eO 9 [.int (M.1 0), .int (M.1 1), .int (M.1 2), .ref 74, .ref 75, .ref 76, .ref 77, .int (M.1 7), .ref 78, .int (M.1 9), .ref 79, .int (M.1 11), .int 0, .int (M.1 13), .ref 80, .int (M.1 15), .int (M.1 16), .ref 81, .ref 82, .ref 83, .int 0, .int (M.1 21), .ref 84, .ref 85, .ref 86, .ref 87, .ref 88])), 19, [(0, .ref 73), (1, .int 0)], [.int ((-4)), .int 0, .ref 87])) rfl ?_
  refine Ev.iast rfl (by decide) (pu_n (by decide) (pu_n (by decide) xM.2.2.2.2.2.2.2.2.2.2.2.2.2.2.1)) (by unfold vp_in; decide) ?_
  refine Ev.go 3 (s' := ((pu (pu (pu h 73 (eO 9 [.int (M.1 0), .int (M.1 1), .int (M.1 2), .ref 74, .ref 75, .ref 76, .ref 77, .int (M.1 7), .ref 78, .int (M.1 9), .ref 79, .int (M.1 11), .int 0, .int (M.1 13), .ref 80, .int (M.1 15), .int (M.1 16), .ref 81, .ref 82, .ref 83, .int (M.1 20), .int (M.1 21), .ref 84, .ref 85, .ref 86, .ref 87, .ref 88])) 73 (eO 9 [.int (M.1 0), .int (M.1 1), .int (M.1 2), .ref 74, .ref 75, .ref 76, .ref 77, .int (M.1 7), .ref 78, .int (M.1 9), .ref 79, .int (M.1 11), .int 0, .int (M.1 13), .ref 80, .int (M.1 15), .int (M.1 16), .ref 81, .ref 82, .ref 83, .int 0, .int (M.1 21), .ref 84, .ref 85, .ref 86, .ref 87, .ref 88])) 87 (eI 10 (upd (M.2.1 25) 0 (-4)))), 24, [(0, .ref 73), (1, .int 0)], [.int ((-4)), .int 0, .ref 73])) rfl ?_
  obtain ⟨y2, e1, H⟩ := Option.bind_eq_some_iff.mp H
  refine Ev.call rfl rfl rfl (p_argsV (by decide) (pu_n (by decide) pu_s) (Nat.le_of_ble_eq_true rfl)) rfl (Nat.le_of_ble_eq_true rfl) ((spX10_readsStep (h := (pu (pu (pu h 73 (eO 9 [.int (M.1 0), .int (M.1 1), .int (M.1 2), .ref 74, .ref 75, .ref 76, .ref 77, .int (M.1 7), .ref 78, .int (M.1 9), .ref 79, .int (M.1 11), .int 0, .int (M.1 13), .ref 80, .int (M.1 15), .int (M.1 16), .ref 81, .ref 82, .ref 83, .int (M.1 20), .int (M.1 21), .ref 84, .ref 85, .ref 86, .ref 87, .ref 88])) 73 (eO 9 [.int (M.1 0), .int (M.1 1), .int (M.1 2), .ref 74, .ref 75, .ref 76, .ref 77, .int (M.1 7), .ref 78, .int (M.1 9), .ref 79, .int (M.1 11), .int 0, .int (M.1 13), .ref 80, .int (M.1 15), .int (M.1 16), .ref 81, .ref 82, .ref 83, .int 0, .int (M.1 21), .ref 84, .ref 85, .ref 86, .ref 87, .ref 88])) 87 (eI 10 (upd (M.2.1 25) 0 (-4))))) (M := (va_up (va_up M.1 12 0) 20 0, va_up M.2.1 25 (upd (M.2.1 25) 0 (-4)), M.2.2)) ⟨(pu_n (by decide) pu_s), (pu_n (by decide) (pu_n (by decide) (pu_n (by decide) xM.2.1))), (pu_n (by decide) (pu_n (by decide) (pu_n (by decide) xM.2.2.1))), (pu_n (by decide) (pu_n (by decide) (pu_n (by decide) xM.2.2.2.1))), (pu_n (by decide) (pu_n (by decide) (pu_n (by decide) xM.2.2.2.2.1))), (pu_n (by decide) (pu_n (by decide) (pu_n (by decide) xM.2.2.2.2.2.1))), (pu_n (by decide) (pu_n (by decide) (pu_n (by decide) xM.2.2.2.2.2.2.1))), (pu_n (by decide) (pu_n (by decide) (pu_n (by decide) xM.2.2.2.2.2.2.2.1))), (pu_n (by decide) (pu_n (by decide) (pu_n (by decide) xM.2.2.2.2.2.2.2.2.1))), (pu_n (by decide) (pu_n (by decide) (pu_n (by decide) xM.2.2.2.2.2.2.2.2.2.1))), (pu_n (by decide) (pu_n (by decide) (pu_n (by decide) xM.2.2.2.2.2.2.2.2.2.2.1))), (pu_n (by decide) (pu_n (by decide) (pu_n (by decide) xM.2.2.2.2.2.2.2.2.2.2.2.1))), (pu_n (by decide) (pu_n (by decide) (pu_n (by decide) xM.2.2.2.2.2.2.2.2.2.2.2.2.1))), (pu_n (by decide) (pu_n (by decide) (pu_n (by decide) xM.2.2.2.2.2.2.2.2.2.2.2.2.2.1))), pu_s, (pu_n (by decide) (pu_n (by decide) (pu_n (by decide) xM.2.2.2.2.2.2.2.2.2.2.2.2.2.2.2)))⟩ 0 (-4) e1).mono (fun r h3 q4 => ?_))
  obtain ⟨rfl, q4_M, q4_f⟩ := q4
  refine Ev.if1 rfl (fun c5 => ?_) (fun c5 => ?_)
  · have c5 : ¬ y2.1 = 0 := c5
    rw [if_pos c5] at H
    refine Ev.live rfl (lv' := [(0, .ref 73), (1, .int 0)]) rfl ?_
    refine (llX10_readsPattern_35 n h3 0 y2.2 _ H q4_M).mono (fun r h9 q9 => ?_)
    obtain ⟨q9r, q9_0, q9f⟩ := q9
    exact ⟨q9r, q9_0, fun k hk => (q9f k hk).trans (by rw [q4_f k (by have := hk; simp at this ⊢; omega)]; rw [pu_x (show k ≠ 87 from fun e => by have := hk; simp at this; omega)]; rw [pu_x (show k ≠ 73 from fun e => by have := hk; simp at this; omega)]; rw [pu_x (show k ≠ 73 from fun e => by have := hk; simp at this; omega)])⟩
  · have c5 : ¬ (¬ y2.1 = 0) := c5
    rw [if_neg c5] at H
    refine Ev.go 1 (s' := (h3, 31, [(0, .ref 73), (1, .int 0)], [.ref 73])) rfl ?_
    refine Ev.get rfl (by decide) q4_M.1 rfl ?_
    have H := Option.some.inj H
    subst H
    exact Ev.ret rfl rfl (p_retZ rfl) ⟨rfl, q4_M, (fun k hk => by rw [q4_f k (by have := hk; simp at this ⊢; omega)]; rw [pu_x (show k ≠ 87 from fun e => by have := hk; simp at this; omega)]; rw [pu_x (show k ≠ 73 from fun e => by have := hk; simp at this; omega)]; rw [pu_x (show k ≠ 73 from fun e => by have := hk; simp at this; omega)])⟩
def lX10_pattern_34 (n : Nat) : Nat → Int32 → tM → Option (Int32 × tM)
  | 0, _, _ => none
  | m + 1, x2, M => (if (M.1 15) ≤ x2 then some (M.1 15, M) else (if x2 < 0 ∨ 8 ≤ x2.toNatClampNeg then none else lX10_pattern_34 n m (x2 + 1) (M.1, va_up (va_up (va_up M.2.1 17 (upd (M.2.1 17) x2.toNatClampNeg ((M.2.1 22) x2.toNatClampNeg))) 18 (upd (M.2.1 18) x2.toNatClampNeg ((M.2.1 23) x2.toNatClampNeg))) 19 (upd (M.2.1 19) x2.toNatClampNeg ((M.2.1 24) x2.toNatClampNeg)), M.2.2)))
theorem llX10_pattern_34 {d n : Nat} : ∀ (m : Nat) (h : pH) (x2 : Int32) (M : tM) (res : Int32 × tM), lX10_pattern_34 n m x2 M = some res → isM h M → Ev (d + 3) mX10_pattern (h, 34, [(0, .ref 73), (2, .int x2)], []) (fun r h1 => r = some (.int res.1) ∧ isM h1 res.2 ∧ fr [(73, 89)] h h1)
  | 0, h, x2, M, res, H, _ => by cases H
  | m + 1, h, x2, M, res, H, xM => by
    have H : (if (M.1 15) ≤ x2 then some (M.1 15, M) else (if x2 < 0 ∨ 8 ≤ x2.toNatClampNeg then none else lX10_pattern_34 n m (x2 + 1) (M.1, va_up (va_up (va_up M.2.1 17 (upd (M.2.1 17) x2.toNatClampNeg ((M.2.1 22) x2.toNatClampNeg))) 18 (upd (M.2.1 18) x2.toNatClampNeg ((M.2.1 23) x2.toNatClampNeg))) 19 (upd (M.2.1 19) x2.toNatClampNeg ((M.2.1 24) x2.toNatClampNeg)), M.2.2))) = some res := H
    refine Ev.go 2 (s' := (h, 36, [(0, .ref 73), (2, .int x2)], [.ref 73, .int x2])) rfl ?_
    refine Ev.get rfl (by decide) xM.1 rfl ?_
    refine Ev.if2 rfl (fun c6 => ?_) (fun c6 => ?_)
    · have c6 : (M.1 15) ≤ x2 := c6
      rw [if_pos c6] at H
      refine Ev.go 1 (s' := (h, 85, [(0, .ref 73), (2, .int x2)], [.ref 73])) rfl ?_
      refine Ev.get rfl (by decide) xM.1 rfl ?_
      have H := Option.some.inj H
      subst H
      exact Ev.ret rfl rfl (p_retZ rfl) ⟨rfl, xM, (fun k _ => rfl)⟩
    · have c6 : ¬ ((M.1 15) ≤ x2) := c6
      rw [if_neg c6] at H
      refine Ev.go 1 (s' := (h, 43, [(0, .ref 73), (2, .int x2)], [.ref 73])) rfl ?_
      refine Ev.get rfl (by decide) xM.1 rfl ?_
      refine Ev.go 2 (s' := (h, 48, [(0, .ref 73), (2, .int x2)], [.ref 73, .int x2, .ref 81])) rfl ?_
      refine Ev.get rfl (by decide) xM.1 rfl ?_
      refine Ev.go 1 (s' := (h, 52, [(0, .ref 73), (2, .int x2)], [.int x2, .ref 84, .int x2, .ref 81])) rfl ?_
      have v7 : vp_in x2 8 := fun q => by rw [if_pos q] at H; cases H
      rw [if_neg v7] at H
      refine Ev.iald rfl (by decide) xM.2.2.2.2.2.2.2.2.2.2.2.1 v7 ?_
      refine Ev.iast rfl (by decide) xM.2.2.2.2.2.2.2.2.1 v7 ?_
      refine Ev.go 1 (s' := ((pu h 81 (eI 8 (upd (M.2.1 17) x2.toNatClampNeg ((M.2.1 22) x2.toNatClampNeg)))), 55, [(0, .ref 73), (2, .int x2)], [.ref 73])) rfl ?_
      refine Ev.get rfl (by decide) (pu_n (by decide) xM.1) rfl ?_
      refine Ev.go 2 (s' := ((pu h 81 (eI 8 (upd (M.2.1 17) x2.toNatClampNeg ((M.2.1 22) x2.toNatClampNeg)))), 60, [(0, .ref 73), (2, .int x2)], [.ref 73, .int x2, .ref 82])) rfl ?_
      refine Ev.get rfl (by decide) (pu_n (by decide) xM.1) rfl ?_
      refine Ev.go 1 (s' := ((pu h 81 (eI 8 (upd (M.2.1 17) x2.toNatClampNeg ((M.2.1 22) x2.toNatClampNeg)))), 64, [(0, .ref 73), (2, .int x2)], [.int x2, .ref 85, .int x2, .ref 82])) rfl ?_
      refine Ev.iald rfl (by decide) (pu_n (by decide) xM.2.2.2.2.2.2.2.2.2.2.2.2.1) v7 ?_
      refine Ev.iast rfl (by decide) (pu_n (by decide) xM.2.2.2.2.2.2.2.2.2.1) v7 ?_
      refine Ev.go 1 (s' := ((pu (pu h 81 (eI 8 (upd (M.2.1 17) x2.toNatClampNeg ((M.2.1 22) x2.toNatClampNeg)))) 82 (eI 8 (upd (M.2.1 18) x2.toNatClampNeg ((M.2.1 23) x2.toNatClampNeg)))), 67, [(0, .ref 73), (2, .int x2)], [.ref 73])) rfl ?_
      refine Ev.get rfl (by decide) (pu_n (by decide) (pu_n (by decide) xM.1)) rfl ?_
      refine Ev.go 2 (s' := ((pu (pu h 81 (eI 8 (upd (M.2.1 17) x2.toNatClampNeg ((M.2.1 22) x2.toNatClampNeg)))) 82 (eI 8 (upd (M.2.1 18) x2.toNatClampNeg ((M.2.1 23) x2.toNatClampNeg)))), 72, [(0, .ref 73), (2, .int x2)], [.ref 73, .int x2, .ref 83])) rfl ?_
      refine Ev.get rfl (by decide) (pu_n (by decide) (pu_n (by decide) xM.1)) rfl ?_
      refine Ev.go 1 (s' := ((pu (pu h 81 (eI 8 (upd (M.2.1 17) x2.toNatClampNeg ((M.2.1 22) x2.toNatClampNeg)))) 82 (eI 8 (upd (M.2.1 18) x2.toNatClampNeg ((M.2.1 23) x2.toNatClampNeg)))), 76, [(0, .ref 73), (2, .int x2)], [.int x2, .ref 86, .int x2, .ref 83])) rfl ?_
      refine Ev.iald rfl (by decide) (pu_n (by decide) (pu_n (by decide) xM.2.2.2.2.2.2.2.2.2.2.2.2.2.1)) v7 ?_
      refine Ev.iast rfl (by decide) (pu_n (by decide) (pu_n (by decide) xM.2.2.2.2.2.2.2.2.2.2.1)) v7 ?_
      refine Ev.go 2 (s' := ((pu (pu (pu h 81 (eI 8 (upd (M.2.1 17) x2.toNatClampNeg ((M.2.1 22) x2.toNatClampNeg)))) 82 (eI 8 (upd (M.2.1 18) x2.toNatClampNeg ((M.2.1 23) x2.toNatClampNeg)))) 83 (eI 8 (upd (M.2.1 19) x2.toNatClampNeg ((M.2.1 24) x2.toNatClampNeg)))), 34, [(0, .ref 73), (2, .int (x2 + 1))], [])) rfl ?_
      refine Ev.live rfl (lv' := [(0, .ref 73), (2, .int (x2 + 1))]) rfl ?_
      refine (llX10_pattern_34 m (pu (pu (pu h 81 (eI 8 (upd (M.2.1 17) x2.toNatClampNeg ((M.2.1 22) x2.toNatClampNeg)))) 82 (eI 8 (upd (M.2.1 18) x2.toNatClampNeg ((M.2.1 23) x2.toNatClampNeg)))) 83 (eI 8 (upd (M.2.1 19) x2.toNatClampNeg ((M.2.1 24) x2.toNatClampNeg)))) (x2 + 1) (M.1, va_up (va_up (va_up M.2.1 17 (upd (M.2.1 17) x2.toNatClampNeg ((M.2.1 22) x2.toNatClampNeg))) 18 (upd (M.2.1 18) x2.toNatClampNeg ((M.2.1 23) x2.toNatClampNeg))) 19 (upd (M.2.1 19) x2.toNatClampNeg ((M.2.1 24) x2.toNatClampNeg)), M.2.2) _ H ⟨(pu_n (by decide) (pu_n (by decide) (pu_n (by decide) xM.1))), (pu_n (by decide) (pu_n (by decide) (pu_n (by decide) xM.2.1))), (pu_n (by decide) (pu_n (by decide) (pu_n (by decide) xM.2.2.1))), (pu_n (by decide) (pu_n (by decide) (pu_n (by decide) xM.2.2.2.1))), (pu_n (by decide) (pu_n (by decide) (pu_n (by decide) xM.2.2.2.2.1))), (pu_n (by decide) (pu_n (by decide) (pu_n (by decide) xM.2.2.2.2.2.1))), (pu_n (by decide) (pu_n (by decide) (pu_n (by decide) xM.2.2.2.2.2.2.1))), (pu_n (by decide) (pu_n (by decide) (pu_n (by decide) xM.2.2.2.2.2.2.2.1))), (pu_n (by decide) (pu_n (by decide) pu_s)), (pu_n (by decide) pu_s), pu_s, (pu_n (by decide) (pu_n (by decide) (pu_n (by decide) xM.2.2.2.2.2.2.2.2.2.2.2.1))), (pu_n (by decide) (pu_n (by decide) (pu_n (by decide) xM.2.2.2.2.2.2.2.2.2.2.2.2.1))), (pu_n (by decide) (pu_n (by decide) (pu_n (by decide) xM.2.2.2.2.2.2.2.2.2.2.2.2.2.1))), (pu_n (by decide) (pu_n (by decide) (pu_n (by decide) xM.2.2.2.2.2.2.2.2.2.2.2.2.2.2.1))), (pu_n (by decide) (pu_n (by decide) (pu_n (by decide) xM.2.2.2.2.2.2.2.2.2.2.2.2.2.2.2)))⟩).mono (fun r h9 q9 => ?_)
      obtain ⟨q9r, q9_0, q9f⟩ := q9
      exact ⟨q9r, q9_0, fun k hk => (q9f k hk).trans (by rw [pu_x (show k ≠ 83 from fun e => by have := hk; simp at this; omega)]; rw [pu_x (show k ≠ 82 from fun e => by have := hk; simp at this; omega)]; rw [pu_x (show k ≠ 81 from fun e => by have := hk; simp at this; omega)])⟩
def fX10_pattern (n : Nat) (M : tM) : Option (Int32 × tM) := ((fX10_readsPattern n M).bind fun y2 => (if y2.1 = (-4) then lX10_pattern_34 n n 0 (va_up (va_up y2.2.1 15 (y2.2.1 20)) 16 (y2.2.1 21), y2.2.2.1, y2.2.2.2) else some ((-10) - y2.1, y2.2)))
theorem spX10_pattern {d n : Nat} {h : pH} {M : tM} (xM : isM h M) {res : Int32 × tM} (H : fX10_pattern n M = some res) : Ev (d + 3) mX10_pattern (h, 0, [(0, .ref 73)], []) (fun r h1 => r = some (.int res.1) ∧ isM h1 res.2 ∧ fr [(73, 89)] h h1) := by
  unfold fX10_pattern at H
  refine Ev.go 1 (s' := (h, 1, [(0, .ref 73)], [.ref 73])) rfl ?_
  obtain ⟨y2, e1, H⟩ := Option.bind_eq_some_iff.mp H
  refine Ev.call rfl rfl rfl (p_argsV (by decide) xM.1 (Nat.le_of_ble_eq_true rfl)) rfl (Nat.le_of_ble_eq_true rfl) ((spX10_readsPattern xM  e1).mono (fun r h3 q4 => ?_))
  obtain ⟨rfl, q4_M, q4_f⟩ := q4
  refine Ev.go 3 (s' := (h3, 8, [(0, .ref 73), (1, .int y2.1)], [.int ((-4)), .int y2.1])) rfl ?_
  refine Ev.if2 rfl (fun c5 => ?_) (fun c5 => ?_)
  · have c5 : y2.1 = (-4) := c5
    rw [if_pos c5] at H
    refine Ev.go 2 (s' := (h3, 18, [(0, .ref 73), (1, .int y2.1)], [.ref 73, .ref 73])) rfl ?_
    refine Ev.get rfl (by decide) q4_M.1 rfl ?_
    refine Ev.put rfl rfl (by decide) q4_M.1 (Nat.le_of_ble_eq_true rfl) rfl rfl (fs' := [.int (y2.2.1 0), .int (y2.2.1 1), .int (y2.2.1 2), .ref 74, .ref 75, .ref 76, .ref 77, .int (y2.2.1 7), .ref 78, .int (y2.2.1 9), .ref 79, .int (y2.2.1 11), .int (y2.2.1 12), .int (y2.2.1 13), .ref 80, .int (y2.2.1 20), .int (y2.2.1 16), .ref 81, .ref 82, .ref 83, .int (y2.2.1 20), .int (y2.2.1 21), .ref 84, .ref 85, .ref 86, .ref 87, .ref 88]) rfl ?_
    refine Ev.go 2 (s' := ((pu h3 73 (eO 9 [.int (y2.2.1 0), .int (y2.2.1 1), .int (y2.2.1 2), .ref 74, .ref 75, .ref 76, .ref 77, .int (y2.2.1 7), .ref 78, .int (y2.2.1 9), .ref 79, .int (y2.2.1 11), .int (y2.2.1 12), .int (y2.2.1 13), .ref 80, .int (y2.2.1 20), .int (y2.2.1 16), .ref 81, .ref 82, .ref 83, .int (y2.2.1 20), .int (y2.2.1 21), .ref 84, .ref 85, .ref 86, .ref 87, .ref 88])), 26, [(0, .ref 73), (1, .int y2.1)], [.ref 73, .ref 73])) rfl ?_
    refine Ev.get rfl (by decide) pu_s rfl ?_
    refine Ev.put rfl rfl (by decide) pu_s (Nat.le_of_ble_eq_true rfl) rfl rfl (fs' := [.int (y2.2.1 0), .int (y2.2.1 1), .int (y2.2.1 2), .ref 74, .ref 75, .ref 76, .ref 77, .int (y2.2.1 7), .ref 78, .int (y2.2.1 9), .ref 79, .int (y2.2.1 11), .int (y2.2.1 12), .int (y2.2.1 13), .ref 80, .int (y2.2.1 20), .int (y2.2.1 21), .ref 81, .ref 82, .ref 83, .int (y2.2.1 20), .int (y2.2.1 21), .ref 84, .ref 85, .ref 86, .ref 87, .ref 88]) rfl ?_
    refine Ev.go 2 (s' := ((pu (pu h3 73 (eO 9 [.int (y2.2.1 0), .int (y2.2.1 1), .int (y2.2.1 2), .ref 74, .ref 75, .ref 76, .ref 77, .int (y2.2.1 7), .ref 78, .int (y2.2.1 9), .ref 79, .int (y2.2.1 11), .int (y2.2.1 12), .int (y2.2.1 13), .ref 80, .int (y2.2.1 20), .int (y2.2.1 16), .ref 81, .ref 82, .ref 83, .int (y2.2.1 20), .int (y2.2.1 21), .ref 84, .ref 85, .ref 86, .ref 87, .ref 88])) 73 (eO 9 [.int (y2.2.1 0), .int (y2.2.1 1), .int (y2.2.1 2), .ref 74, .ref 75, .ref 76, .ref 77, .int (y2.2.1 7), .ref 78, .int (y2.2.1 9), .ref 79, .int (y2.2.1 11), .int (y2.2.1 12), .int (y2.2.1 13), .ref 80, .int (y2.2.1 20), .int (y2.2.1 21), .ref 81, .ref 82, .ref 83, .int (y2.2.1 20), .int (y2.2.1 21), .ref 84, .ref 85, .ref 86, .ref 87, .ref 88])), 34, [(0, .ref 73), (1, .int y2.1), (2, .int 0)], [])) rfl ?_
    refine Ev.live rfl (lv' := [(0, .ref 73), (2, .int 0)]) rfl ?_
    refine (llX10_pattern_34 n (pu (pu h3 73 (eO 9 [.int (y2.2.1 0), .int (y2.2.1 1), .int (y2.2.1 2), .ref 74, .ref 75, .ref 76, .ref 77, .int (y2.2.1 7), .ref 78, .int (y2.2.1 9), .ref 79, .int (y2.2.1 11), .int (y2.2.1 12), .int (y2.2.1 13), .ref 80, .int (y2.2.1 20), .int (y2.2.1 16), .ref 81, .ref 82, .ref 83, .int (y2.2.1 20), .int (y2.2.1 21), .ref 84, .ref 85, .ref 86, .ref 87, .ref 88])) 73 (eO 9 [.int (y2.2.1 0), .int (y2.2.1 1), .int (y2.2.1 2), .ref 74, .ref 75, .ref 76, .ref 77, .int (y2.2.1 7), .ref 78, .int (y2.2.1 9), .ref 79, .int (y2.2.1 11), .int (y2.2.1 12), .int (y2.2.1 13), .ref 80, .int (y2.2.1 20), .int (y2.2.1 21), .ref 81, .ref 82, .ref 83, .int (y2.2.1 20), .int (y2.2.1 21), .ref 84, .ref 85, .ref 86, .ref 87, .ref 88])) 0 (va_up (va_up y2.2.1 15 (y2.2.1 20)) 16 (y2.2.1 21), y2.2.2.1, y2.2.2.2) _ H ⟨pu_s, (pu_n (by decide) (pu_n (by decide) q4_M.2.1)), (pu_n (by decide) (pu_n (by decide) q4_M.2.2.1)), (pu_n (by decide) (pu_n (by decide) q4_M.2.2.2.1)), (pu_n (by decide) (pu_n (by decide) q4_M.2.2.2.2.1)), (pu_n (by decide) (pu_n (by decide) q4_M.2.2.2.2.2.1)), (pu_n (by decide) (pu_n (by decide) q4_M.2.2.2.2.2.2.1)), (pu_n (by decide) (pu_n (by decide) q4_M.2.2.2.2.2.2.2.1)), (pu_n (by decide) (pu_n (by decide) q4_M.2.2.2.2.2.2.2.2.1)), (pu_n (by decide) (pu_n (by decide) q4_M.2.2.2.2.2.2.2.2.2.1)), (pu_n (by decide) (pu_n (by decide) q4_M.2.2.2.2.2.2.2.2.2.2.1)), (pu_n (by decide) (pu_n (by decide) q4_M.2.2.2.2.2.2.2.2.2.2.2.1)), (pu_n (by decide) (pu_n (by decide) q4_M.2.2.2.2.2.2.2.2.2.2.2.2.1)), (pu_n (by decide) (pu_n (by decide) q4_M.2.2.2.2.2.2.2.2.2.2.2.2.2.1)), (pu_n (by decide) (pu_n (by decide) q4_M.2.2.2.2.2.2.2.2.2.2.2.2.2.2.1)), (pu_n (by decide) (pu_n (by decide) q4_M.2.2.2.2.2.2.2.2.2.2.2.2.2.2.2))⟩).mono (fun r h9 q9 => ?_)
    obtain ⟨q9r, q9_0, q9f⟩ := q9
    exact ⟨q9r, q9_0, fun k hk => (q9f k hk).trans (by rw [pu_x (show k ≠ 73 from fun e => by have := hk; simp at this; omega)]; rw [pu_x (show k ≠ 73 from fun e => by have := hk; simp at this; omega)]; rw [q4_f k (by have := hk; simp at this ⊢; omega)])⟩
  · have c5 : ¬ (y2.1 = (-4)) := c5
    rw [if_neg c5] at H
    refine Ev.go 3 (s' := (h3, 15, [(0, .ref 73), (1, .int y2.1)], [.int ((-10) - y2.1)])) rfl ?_
    have H := Option.some.inj H
    subst H
    exact Ev.ret rfl rfl (p_retZ rfl) ⟨rfl, q4_M, (fun k hk => by rw [q4_f k (by have := hk; simp at this ⊢; omega)])⟩
def fX10_isStep (M : tM) (q : Int32) : Option (Int32) := (if (fX10_in q 0 ((M.1 15) - 1)) &&& 1 = (fX10_in q 0 ((M.1 15) - 1)) then some (fX10_in q 0 ((M.1 15) - 1)) else none)
theorem spX10_isStep {d : Nat} {h : pH} {M : tM} (xM : isM h M) (q : Int32) {res : Int32} (H : fX10_isStep M q = some res) : Ev (d + 1) mX10_isStep (h, 0, [(0, .ref 73), (1, .int q)], []) (fun r h1 => r = some (.int res) ∧ h1 = h) := by
  unfold fX10_isStep at H
  refine Ev.go 3 (s' := (h, 3, [(0, .ref 73), (1, .int q)], [.ref 73, .int 0, .int q])) rfl ?_
  refine Ev.get rfl (by decide) xM.1 rfl ?_
  refine Ev.go 2 (s' := (h, 8, [(0, .ref 73), (1, .int q)], [.int ((M.1 15) - 1), .int 0, .int q])) rfl ?_
  refine Ev.callE rfl rfl rfl rfl rfl (Nat.le_of_ble_eq_true rfl) (spX10_in  q 0 ((M.1 15) - 1)) ?_
  have v1 : (fX10_in q 0 ((M.1 15) - 1)) &&& 1 = (fX10_in q 0 ((M.1 15) - 1)) := Classical.byContradiction fun q => by rw [if_neg q] at H; cases H
  rw [if_pos v1] at H
  have H := Option.some.inj H
  subst H
  exact Ev.ret rfl rfl (p_retZ (t := .boolean) (congrArg Value.int v1)) ⟨rfl, rfl⟩
def fX10_step (M : tM) (q : Int32) (what : Int32) : Option (Int32) := ((fX10_isStep M q).bind fun y2 => (if y2 = 0 then some (-1) else (if ¬ (fX10_in what 0 2) = 0 then (if ¬ what = 0 then (if ¬ what = 1 then (if q < 0 ∨ 8 ≤ q.toNatClampNeg then none else some ((M.2.1 19) q.toNatClampNeg)) else (if q < 0 ∨ 8 ≤ q.toNatClampNeg then none else some ((M.2.1 18) q.toNatClampNeg))) else (if q < 0 ∨ 8 ≤ q.toNatClampNeg then none else some ((M.2.1 17) q.toNatClampNeg))) else some (-1))))
theorem spX10_step {d : Nat} {h : pH} {M : tM} (xM : isM h M) (q : Int32) (what : Int32) {res : Int32} (H : fX10_step M q what = some res) : Ev (d + 2) mX10_step (h, 0, [(0, .ref 73), (1, .int q), (2, .int what)], []) (fun r h1 => r = some (.int res) ∧ h1 = h) := by
  unfold fX10_step at H
  refine Ev.go 2 (s' := (h, 2, [(0, .ref 73), (1, .int q), (2, .int what)], [.int q, .ref 73])) rfl ?_
  obtain ⟨y2, e1, H⟩ := Option.bind_eq_some_iff.mp H
  refine Ev.callE rfl rfl rfl (p_argsV (by decide) xM.1 (Nat.le_of_ble_eq_true rfl)) rfl (Nat.le_of_ble_eq_true rfl) (spX10_isStep xM q e1) ?_
  refine Ev.if1 rfl (fun c3 => ?_) (fun c3 => ?_)
  · have c3 : y2 = 0 := c3
    rw [if_pos c3] at H
    refine Ev.go 1 (s' := (h, 18, [(0, .ref 73), (1, .int q), (2, .int what)], [.int ((-1))])) rfl ?_
    have H := Option.some.inj H
    subst H
    exact Ev.ret rfl rfl (p_retZ rfl) ⟨rfl, rfl⟩
  · have c3 : ¬ (y2 = 0) := c3
    rw [if_neg c3] at H
    refine Ev.go 3 (s' := (h, 11, [(0, .ref 73), (1, .int q), (2, .int what)], [.int 2, .int 0, .int what])) rfl ?_
    refine Ev.callE rfl rfl rfl rfl rfl (Nat.le_of_ble_eq_true rfl) (spX10_in  what 0 2) ?_
    refine Ev.if1 rfl (fun c4 => ?_) (fun c4 => ?_)
    · have c4 : ¬ (fX10_in what 0 2) = 0 := c4
      rw [if_pos c4] at H
      refine Ev.go 1 (s' := (h, 20, [(0, .ref 73), (1, .int q), (2, .int what)], [.int what])) rfl ?_
      refine Ev.if1 rfl (fun c5 => ?_) (fun c5 => ?_)
      · have c5 : ¬ what = 0 := c5
        rw [if_pos c5] at H
        refine Ev.go 2 (s' := (h, 34, [(0, .ref 73), (1, .int q), (2, .int what)], [.int 1, .int what])) rfl ?_
        refine Ev.if2 rfl (fun c6 => ?_) (fun c6 => ?_)
        · have c6 : ¬ what = 1 := c6
          rw [if_pos c6] at H
          refine Ev.go 1 (s' := (h, 47, [(0, .ref 73), (1, .int q), (2, .int what)], [.ref 73])) rfl ?_
          refine Ev.get rfl (by decide) xM.1 rfl ?_
          refine Ev.go 1 (s' := (h, 51, [(0, .ref 73), (1, .int q), (2, .int what)], [.int q, .ref 83])) rfl ?_
          have v7 : vp_in q 8 := fun q => by rw [if_pos q] at H; cases H
          rw [if_neg v7] at H
          refine Ev.iald rfl (by decide) xM.2.2.2.2.2.2.2.2.2.2.1 v7 ?_
          have H := Option.some.inj H
          subst H
          exact Ev.ret rfl rfl (p_retZ rfl) ⟨rfl, rfl⟩
        · have c6 : ¬ (¬ what = 1) := c6
          rw [if_neg c6] at H
          refine Ev.go 1 (s' := (h, 38, [(0, .ref 73), (1, .int q), (2, .int what)], [.ref 73])) rfl ?_
          refine Ev.get rfl (by decide) xM.1 rfl ?_
          refine Ev.go 1 (s' := (h, 42, [(0, .ref 73), (1, .int q), (2, .int what)], [.int q, .ref 82])) rfl ?_
          have v8 : vp_in q 8 := fun q => by rw [if_pos q] at H; cases H
          rw [if_neg v8] at H
          refine Ev.iald rfl (by decide) xM.2.2.2.2.2.2.2.2.2.1 v8 ?_
          refine Ev.go 1 (s' := (h, 52, [(0, .ref 73), (1, .int q), (2, .int what)], [.int ((M.2.1 18) q.toNatClampNeg)])) rfl ?_
          have H := Option.some.inj H
          subst H
          exact Ev.ret rfl rfl (p_retZ rfl) ⟨rfl, rfl⟩
      · have c5 : ¬ (¬ what = 0) := c5
        rw [if_neg c5] at H
        refine Ev.go 1 (s' := (h, 24, [(0, .ref 73), (1, .int q), (2, .int what)], [.ref 73])) rfl ?_
        refine Ev.get rfl (by decide) xM.1 rfl ?_
        refine Ev.go 1 (s' := (h, 28, [(0, .ref 73), (1, .int q), (2, .int what)], [.int q, .ref 81])) rfl ?_
        have v9 : vp_in q 8 := fun q => by rw [if_pos q] at H; cases H
        rw [if_neg v9] at H
        refine Ev.iald rfl (by decide) xM.2.2.2.2.2.2.2.2.1 v9 ?_
        refine Ev.go 1 (s' := (h, 52, [(0, .ref 73), (1, .int q), (2, .int what)], [.int ((M.2.1 17) q.toNatClampNeg)])) rfl ?_
        have H := Option.some.inj H
        subst H
        exact Ev.ret rfl rfl (p_retZ rfl) ⟨rfl, rfl⟩
    · have c4 : ¬ (¬ (fX10_in what 0 2) = 0) := c4
      rw [if_neg c4] at H
      refine Ev.go 1 (s' := (h, 18, [(0, .ref 73), (1, .int q), (2, .int what)], [.int ((-1))])) rfl ?_
      have H := Option.some.inj H
      subst H
      exact Ev.ret rfl rfl (p_retZ rfl) ⟨rfl, rfl⟩
def fX10_stands (n : Nat) (M : tM) (axis : Int32) (v : Int32) (w : Int32) : Option (Int32) := (if ¬ axis = 0 then (if ¬ axis = 1 then (if v = 0 then (if ¬ axis = 2 then some 0 else some 0) else (if w = 0 then (if ¬ axis = 2 then some 0 else some 0) else (if v < 0 ∨ 24 ≤ v.toNatClampNeg then none else (if w < 0 ∨ 24 ≤ w.toNatClampNeg then none else (if ¬ ((M.2.1 4) v.toNatClampNeg) = ((M.2.1 4) w.toNatClampNeg) then (if ¬ axis = 2 then some 0 else some 0) else (if ((M.2.1 5) w.toNatClampNeg) ≤ ((M.2.1 5) v.toNatClampNeg) then (if ¬ axis = 2 then some 0 else some 0) else (if ¬ axis = 2 then some 1 else ((fX10_childBehind n M ((M.2.1 4) v.toNatClampNeg) ((M.2.1 5) v.toNatClampNeg)).bind fun y15 => (if ¬ y15 = w then some 0 else some 1))))))))) else (if v = w then some 0 else ((fX10_isOver n M v w).bind fun y19 => (if y19 = 0 then some 0 else some 1)))) else (if w < 0 ∨ 24 ≤ w.toNatClampNeg then none else (if ¬ ((M.2.1 4) w.toNatClampNeg) = v then some 0 else some 1)))
theorem spX10_stands {d n : Nat} {h : pH} {M : tM} (xM : isM h M) (axis : Int32) (v : Int32) (w : Int32) {res : Int32} (H : fX10_stands n M axis v w = some res) : Ev (d + 2) mX10_stands (h, 0, [(0, .ref 73), (1, .int axis), (2, .int v), (3, .int w)], []) (fun r h1 => r = some (.int res) ∧ h1 = h) := by
  unfold fX10_stands at H
  refine Ev.go 1 (s' := (h, 1, [(0, .ref 73), (1, .int axis), (2, .int v), (3, .int w)], [.int axis])) rfl ?_
  refine Ev.if1 rfl (fun c1 => ?_) (fun c1 => ?_)
  · have c1 : ¬ axis = 0 := c1
    rw [if_pos c1] at H
    refine Ev.go 2 (s' := (h, 22, [(0, .ref 73), (1, .int axis), (2, .int v), (3, .int w)], [.int 1, .int axis])) rfl ?_
    refine Ev.if2 rfl (fun c2 => ?_) (fun c2 => ?_)
    · have c2 : ¬ axis = 1 := c2
      rw [if_pos c2] at H
      refine Ev.go 1 (s' := (h, 46, [(0, .ref 73), (1, .int axis), (2, .int v), (3, .int w)], [.int v])) rfl ?_
      refine Ev.if1 rfl (fun c3 => ?_) (fun c3 => ?_)
      · have c3 : v = 0 := c3
        rw [if_pos c3] at H
        refine Ev.go 4 (s' := (h, 92, [(0, .ref 73), (1, .int axis), (2, .int v), (3, .int w), (4, .int 0)], [.int 2, .int axis])) rfl ?_
        refine Ev.if2 rfl (fun c4 => ?_) (fun c4 => ?_)
        · have c4 : ¬ axis = 2 := c4
          rw [if_pos c4] at H
          refine Ev.go 1 (s' := (h, 130, [(0, .ref 73), (1, .int axis), (2, .int v), (3, .int w), (4, .int 0)], [.int 0])) rfl ?_
          have H := Option.some.inj H
          subst H
          exact Ev.ret rfl rfl (p_retZ rfl) ⟨rfl, rfl⟩
        · have c4 : ¬ (¬ axis = 2) := c4
          rw [if_neg c4] at H
          refine Ev.go 1 (s' := (h, 97, [(0, .ref 73), (1, .int axis), (2, .int v), (3, .int w), (4, .int 0)], [.int 0])) rfl ?_
          refine Ev.if1 rfl (fun c => ?_) (fun c => ?_)
          · refine Ev.go 2 (s' := (h, 130, [(0, .ref 73), (1, .int axis), (2, .int v), (3, .int w), (4, .int 0)], [.int 0])) rfl ?_
            have H := Option.some.inj H
            subst H
            exact Ev.ret rfl rfl (p_retZ rfl) ⟨rfl, rfl⟩
          · exact absurd (show (0 : Int32) = 0 by decide) c
      · have c3 : ¬ (v = 0) := c3
        rw [if_neg c3] at H
        refine Ev.go 1 (s' := (h, 50, [(0, .ref 73), (1, .int axis), (2, .int v), (3, .int w)], [.int w])) rfl ?_
        refine Ev.if1 rfl (fun c5 => ?_) (fun c5 => ?_)
        · have c5 : w = 0 := c5
          rw [if_pos c5] at H
          refine Ev.go 4 (s' := (h, 92, [(0, .ref 73), (1, .int axis), (2, .int v), (3, .int w), (4, .int 0)], [.int 2, .int axis])) rfl ?_
          refine Ev.if2 rfl (fun c6 => ?_) (fun c6 => ?_)
          · have c6 : ¬ axis = 2 := c6
            rw [if_pos c6] at H
            refine Ev.go 1 (s' := (h, 130, [(0, .ref 73), (1, .int axis), (2, .int v), (3, .int w), (4, .int 0)], [.int 0])) rfl ?_
            have H := Option.some.inj H
            subst H
            exact Ev.ret rfl rfl (p_retZ rfl) ⟨rfl, rfl⟩
          · have c6 : ¬ (¬ axis = 2) := c6
            rw [if_neg c6] at H
            refine Ev.go 1 (s' := (h, 97, [(0, .ref 73), (1, .int axis), (2, .int v), (3, .int w), (4, .int 0)], [.int 0])) rfl ?_
            refine Ev.if1 rfl (fun c => ?_) (fun c => ?_)
            · refine Ev.go 2 (s' := (h, 130, [(0, .ref 73), (1, .int axis), (2, .int v), (3, .int w), (4, .int 0)], [.int 0])) rfl ?_
              have H := Option.some.inj H
              subst H
              exact Ev.ret rfl rfl (p_retZ rfl) ⟨rfl, rfl⟩
            · exact absurd (show (0 : Int32) = 0 by decide) c
        · have c5 : ¬ (w = 0) := c5
          rw [if_neg c5] at H
          refine Ev.go 1 (s' := (h, 54, [(0, .ref 73), (1, .int axis), (2, .int v), (3, .int w)], [.ref 73])) rfl ?_
          refine Ev.get rfl (by decide) xM.1 rfl ?_
          refine Ev.go 1 (s' := (h, 58, [(0, .ref 73), (1, .int axis), (2, .int v), (3, .int w)], [.int v, .ref 75])) rfl ?_
          have v7 : vp_in v 24 := fun q => by rw [if_pos q] at H; cases H
          rw [if_neg v7] at H
          refine Ev.iald rfl (by decide) xM.2.2.1 v7 ?_
          refine Ev.go 1 (s' := (h, 60, [(0, .ref 73), (1, .int axis), (2, .int v), (3, .int w)], [.ref 73, .int ((M.2.1 4) v.toNatClampNeg)])) rfl ?_
          refine Ev.get rfl (by decide) xM.1 rfl ?_
          refine Ev.go 1 (s' := (h, 64, [(0, .ref 73), (1, .int axis), (2, .int v), (3, .int w)], [.int w, .ref 75, .int ((M.2.1 4) v.toNatClampNeg)])) rfl ?_
          have v8 : vp_in w 24 := fun q => by rw [if_pos q] at H; cases H
          rw [if_neg v8] at H
          refine Ev.iald rfl (by decide) xM.2.2.1 v8 ?_
          refine Ev.if2 rfl (fun c9 => ?_) (fun c9 => ?_)
          · have c9 : ¬ ((M.2.1 4) v.toNatClampNeg) = ((M.2.1 4) w.toNatClampNeg) := c9
            rw [if_pos c9] at H
            refine Ev.go 4 (s' := (h, 92, [(0, .ref 73), (1, .int axis), (2, .int v), (3, .int w), (4, .int 0)], [.int 2, .int axis])) rfl ?_
            refine Ev.if2 rfl (fun c10 => ?_) (fun c10 => ?_)
            · have c10 : ¬ axis = 2 := c10
              rw [if_pos c10] at H
              refine Ev.go 1 (s' := (h, 130, [(0, .ref 73), (1, .int axis), (2, .int v), (3, .int w), (4, .int 0)], [.int 0])) rfl ?_
              have H := Option.some.inj H
              subst H
              exact Ev.ret rfl rfl (p_retZ rfl) ⟨rfl, rfl⟩
            · have c10 : ¬ (¬ axis = 2) := c10
              rw [if_neg c10] at H
              refine Ev.go 1 (s' := (h, 97, [(0, .ref 73), (1, .int axis), (2, .int v), (3, .int w), (4, .int 0)], [.int 0])) rfl ?_
              refine Ev.if1 rfl (fun c => ?_) (fun c => ?_)
              · refine Ev.go 2 (s' := (h, 130, [(0, .ref 73), (1, .int axis), (2, .int v), (3, .int w), (4, .int 0)], [.int 0])) rfl ?_
                have H := Option.some.inj H
                subst H
                exact Ev.ret rfl rfl (p_retZ rfl) ⟨rfl, rfl⟩
              · exact absurd (show (0 : Int32) = 0 by decide) c
          · have c9 : ¬ (¬ ((M.2.1 4) v.toNatClampNeg) = ((M.2.1 4) w.toNatClampNeg)) := c9
            rw [if_neg c9] at H
            refine Ev.go 1 (s' := (h, 69, [(0, .ref 73), (1, .int axis), (2, .int v), (3, .int w)], [.ref 73])) rfl ?_
            refine Ev.get rfl (by decide) xM.1 rfl ?_
            refine Ev.go 1 (s' := (h, 73, [(0, .ref 73), (1, .int axis), (2, .int v), (3, .int w)], [.int w, .ref 76])) rfl ?_
            refine Ev.iald rfl (by decide) xM.2.2.2.1 v8 ?_
            refine Ev.go 1 (s' := (h, 75, [(0, .ref 73), (1, .int axis), (2, .int v), (3, .int w)], [.ref 73, .int ((M.2.1 5) w.toNatClampNeg)])) rfl ?_
            refine Ev.get rfl (by decide) xM.1 rfl ?_
            refine Ev.go 1 (s' := (h, 79, [(0, .ref 73), (1, .int axis), (2, .int v), (3, .int w)], [.int v, .ref 76, .int ((M.2.1 5) w.toNatClampNeg)])) rfl ?_
            refine Ev.iald rfl (by decide) xM.2.2.2.1 v7 ?_
            refine Ev.if2 rfl (fun c11 => ?_) (fun c11 => ?_)
            · have c11 : ((M.2.1 5) w.toNatClampNeg) ≤ ((M.2.1 5) v.toNatClampNeg) := c11
              rw [if_pos c11] at H
              refine Ev.go 4 (s' := (h, 92, [(0, .ref 73), (1, .int axis), (2, .int v), (3, .int w), (4, .int 0)], [.int 2, .int axis])) rfl ?_
              refine Ev.if2 rfl (fun c12 => ?_) (fun c12 => ?_)
              · have c12 : ¬ axis = 2 := c12
                rw [if_pos c12] at H
                refine Ev.go 1 (s' := (h, 130, [(0, .ref 73), (1, .int axis), (2, .int v), (3, .int w), (4, .int 0)], [.int 0])) rfl ?_
                have H := Option.some.inj H
                subst H
                exact Ev.ret rfl rfl (p_retZ rfl) ⟨rfl, rfl⟩
              · have c12 : ¬ (¬ axis = 2) := c12
                rw [if_neg c12] at H
                refine Ev.go 1 (s' := (h, 97, [(0, .ref 73), (1, .int axis), (2, .int v), (3, .int w), (4, .int 0)], [.int 0])) rfl ?_
                refine Ev.if1 rfl (fun c => ?_) (fun c => ?_)
                · refine Ev.go 2 (s' := (h, 130, [(0, .ref 73), (1, .int axis), (2, .int v), (3, .int w), (4, .int 0)], [.int 0])) rfl ?_
                  have H := Option.some.inj H
                  subst H
                  exact Ev.ret rfl rfl (p_retZ rfl) ⟨rfl, rfl⟩
                · exact absurd (show (0 : Int32) = 0 by decide) c
            · have c11 : ¬ (((M.2.1 5) w.toNatClampNeg) ≤ ((M.2.1 5) v.toNatClampNeg)) := c11
              rw [if_neg c11] at H
              refine Ev.go 5 (s' := (h, 92, [(0, .ref 73), (1, .int axis), (2, .int v), (3, .int w), (4, .int 1)], [.int 2, .int axis])) rfl ?_
              refine Ev.if2 rfl (fun c13 => ?_) (fun c13 => ?_)
              · have c13 : ¬ axis = 2 := c13
                rw [if_pos c13] at H
                refine Ev.go 1 (s' := (h, 130, [(0, .ref 73), (1, .int axis), (2, .int v), (3, .int w), (4, .int 1)], [.int 1])) rfl ?_
                have H := Option.some.inj H
                subst H
                exact Ev.ret rfl rfl (p_retZ rfl) ⟨rfl, rfl⟩
              · have c13 : ¬ (¬ axis = 2) := c13
                rw [if_neg c13] at H
                refine Ev.go 1 (s' := (h, 97, [(0, .ref 73), (1, .int axis), (2, .int v), (3, .int w), (4, .int 1)], [.int 1])) rfl ?_
                refine Ev.if1 rfl (fun c => ?_) (fun c => ?_)
                · exact absurd (show (1 : Int32) = 0 from c) (by decide)
                · refine Ev.go 2 (s' := (h, 102, [(0, .ref 73), (1, .int axis), (2, .int v), (3, .int w), (4, .int 1)], [.ref 73, .ref 73])) rfl ?_
                  refine Ev.get rfl (by decide) xM.1 rfl ?_
                  refine Ev.go 1 (s' := (h, 106, [(0, .ref 73), (1, .int axis), (2, .int v), (3, .int w), (4, .int 1)], [.int v, .ref 75, .ref 73])) rfl ?_
                  refine Ev.iald rfl (by decide) xM.2.2.1 v7 ?_
                  refine Ev.go 1 (s' := (h, 108, [(0, .ref 73), (1, .int axis), (2, .int v), (3, .int w), (4, .int 1)], [.ref 73, .int ((M.2.1 4) v.toNatClampNeg), .ref 73])) rfl ?_
                  refine Ev.get rfl (by decide) xM.1 rfl ?_
                  refine Ev.go 1 (s' := (h, 112, [(0, .ref 73), (1, .int axis), (2, .int v), (3, .int w), (4, .int 1)], [.int v, .ref 76, .int ((M.2.1 4) v.toNatClampNeg), .ref 73])) rfl ?_
                  refine Ev.iald rfl (by decide) xM.2.2.2.1 v7 ?_
                  obtain ⟨y15, e14, H⟩ := Option.bind_eq_some_iff.mp H
                  refine Ev.callE rfl rfl rfl (p_argsV (by decide) xM.1 (Nat.le_of_ble_eq_true rfl)) rfl (Nat.le_of_ble_eq_true rfl) (spX10_childBehind xM ((M.2.1 4) v.toNatClampNeg) ((M.2.1 5) v.toNatClampNeg) e14) ?_
                  refine Ev.go 1 (s' := (h, 117, [(0, .ref 73), (1, .int axis), (2, .int v), (3, .int w), (4, .int 1)], [.int w, .int y15])) rfl ?_
                  refine Ev.if2 rfl (fun c16 => ?_) (fun c16 => ?_)
                  · have c16 : ¬ y15 = w := c16
                    rw [if_pos c16] at H
                    refine Ev.go 2 (s' := (h, 130, [(0, .ref 73), (1, .int axis), (2, .int v), (3, .int w), (4, .int 1)], [.int 0])) rfl ?_
                    have H := Option.some.inj H
                    subst H
                    exact Ev.ret rfl rfl (p_retZ rfl) ⟨rfl, rfl⟩
                  · have c16 : ¬ (¬ y15 = w) := c16
                    rw [if_neg c16] at H
                    refine Ev.go 2 (s' := (h, 130, [(0, .ref 73), (1, .int axis), (2, .int v), (3, .int w), (4, .int 1)], [.int 1])) rfl ?_
                    have H := Option.some.inj H
                    subst H
                    exact Ev.ret rfl rfl (p_retZ rfl) ⟨rfl, rfl⟩
    · have c2 : ¬ (¬ axis = 1) := c2
      rw [if_neg c2] at H
      refine Ev.go 2 (s' := (h, 27, [(0, .ref 73), (1, .int axis), (2, .int v), (3, .int w)], [.int w, .int v])) rfl ?_
      refine Ev.if2 rfl (fun c17 => ?_) (fun c17 => ?_)
      · have c17 : v = w := c17
        rw [if_pos c17] at H
        refine Ev.go 1 (s' := (h, 44, [(0, .ref 73), (1, .int axis), (2, .int v), (3, .int w)], [.int 0])) rfl ?_
        have H := Option.some.inj H
        subst H
        exact Ev.ret rfl rfl (p_retZ rfl) ⟨rfl, rfl⟩
      · have c17 : ¬ (v = w) := c17
        rw [if_neg c17] at H
        refine Ev.go 3 (s' := (h, 33, [(0, .ref 73), (1, .int axis), (2, .int v), (3, .int w)], [.int w, .int v, .ref 73])) rfl ?_
        obtain ⟨y19, e18, H⟩ := Option.bind_eq_some_iff.mp H
        refine Ev.callE rfl rfl rfl (p_argsV (by decide) xM.1 (Nat.le_of_ble_eq_true rfl)) rfl (Nat.le_of_ble_eq_true rfl) (spX10_isOver xM v w e18) ?_
        refine Ev.if1 rfl (fun c20 => ?_) (fun c20 => ?_)
        · have c20 : y19 = 0 := c20
          rw [if_pos c20] at H
          refine Ev.go 1 (s' := (h, 44, [(0, .ref 73), (1, .int axis), (2, .int v), (3, .int w)], [.int 0])) rfl ?_
          have H := Option.some.inj H
          subst H
          exact Ev.ret rfl rfl (p_retZ rfl) ⟨rfl, rfl⟩
        · have c20 : ¬ (y19 = 0) := c20
          rw [if_neg c20] at H
          refine Ev.go 2 (s' := (h, 44, [(0, .ref 73), (1, .int axis), (2, .int v), (3, .int w)], [.int 1])) rfl ?_
          have H := Option.some.inj H
          subst H
          exact Ev.ret rfl rfl (p_retZ rfl) ⟨rfl, rfl⟩
  · have c1 : ¬ (¬ axis = 0) := c1
    rw [if_neg c1] at H
    refine Ev.go 1 (s' := (h, 5, [(0, .ref 73), (1, .int axis), (2, .int v), (3, .int w)], [.ref 73])) rfl ?_
    refine Ev.get rfl (by decide) xM.1 rfl ?_
    refine Ev.go 1 (s' := (h, 9, [(0, .ref 73), (1, .int axis), (2, .int v), (3, .int w)], [.int w, .ref 75])) rfl ?_
    have v21 : vp_in w 24 := fun q => by rw [if_pos q] at H; cases H
    rw [if_neg v21] at H
    refine Ev.iald rfl (by decide) xM.2.2.1 v21 ?_
    refine Ev.go 1 (s' := (h, 11, [(0, .ref 73), (1, .int axis), (2, .int v), (3, .int w)], [.int v, .int ((M.2.1 4) w.toNatClampNeg)])) rfl ?_
    refine Ev.if2 rfl (fun c22 => ?_) (fun c22 => ?_)
    · have c22 : ¬ ((M.2.1 4) w.toNatClampNeg) = v := c22
      rw [if_pos c22] at H
      refine Ev.go 1 (s' := (h, 19, [(0, .ref 73), (1, .int axis), (2, .int v), (3, .int w)], [.int 0])) rfl ?_
      have H := Option.some.inj H
      subst H
      exact Ev.ret rfl rfl (p_retZ rfl) ⟨rfl, rfl⟩
    · have c22 : ¬ (¬ ((M.2.1 4) w.toNatClampNeg) = v) := c22
      rw [if_neg c22] at H
      refine Ev.go 2 (s' := (h, 19, [(0, .ref 73), (1, .int axis), (2, .int v), (3, .int w)], [.int 1])) rfl ?_
      have H := Option.some.inj H
      subst H
      exact Ev.ret rfl rfl (p_retZ rfl) ⟨rfl, rfl⟩
def lX10_sumOf_5 (n : Nat) (M : tM) : Nat → Int32 → Int32 → Int64 → Int32 → Option (Int64)
  | 0, _, _, _, _ => none
  | m + 1, x1, x2, x3, x5 => (if 24 ≤ x5 then some x3 else (if (fX10_has (M.1 0) x5) = 0 then lX10_sumOf_5 n M m x1 x2 (x3 + 0) (x5 + 1) else (if x1 < 0 ∨ 8 ≤ x1.toNatClampNeg then none else ((fX10_stands n M ((M.2.1 19) x1.toNatClampNeg) x2 x5).bind fun y5 => (if y5 = 0 then lX10_sumOf_5 n M m x1 x2 (x3 + 0) (x5 + 1) else (if ((24 * x1) + x5) < 0 ∨ 192 ≤ ((24 * x1) + x5).toNatClampNeg then none else lX10_sumOf_5 n M m x1 x2 (x3 + (M.2.2 ((24 * x1) + x5).toNatClampNeg)) (x5 + 1)))))))
theorem llX10_sumOf_5 {d n : Nat} {M : tM} : ∀ (m : Nat) (h : pH) (x1 : Int32) (x2 : Int32) (x3 : Int64) (x5 : Int32) (res : Int64), lX10_sumOf_5 n M m x1 x2 x3 x5 = some res → isM h M → Ev (d + 3) mX10_sumOf (h, 5, [(0, .ref 73), (1, .int x1), (2, .int x2), (3, .long x3), (5, .int x5)], []) (fun r h1 => r = some (.long res) ∧ h1 = h)
  | 0, h, x1, x2, x3, x5, res, H, _ => by cases H
  | m + 1, h, x1, x2, x3, x5, res, H, xM => by
    have H : (if 24 ≤ x5 then some x3 else (if (fX10_has (M.1 0) x5) = 0 then lX10_sumOf_5 n M m x1 x2 (x3 + 0) (x5 + 1) else (if x1 < 0 ∨ 8 ≤ x1.toNatClampNeg then none else ((fX10_stands n M ((M.2.1 19) x1.toNatClampNeg) x2 x5).bind fun y5 => (if y5 = 0 then lX10_sumOf_5 n M m x1 x2 (x3 + 0) (x5 + 1) else (if ((24 * x1) + x5) < 0 ∨ 192 ≤ ((24 * x1) + x5).toNatClampNeg then none else lX10_sumOf_5 n M m x1 x2 (x3 + (M.2.2 ((24 * x1) + x5).toNatClampNeg)) (x5 + 1))))))) = some res := H
    refine Ev.go 2 (s' := (h, 9, [(0, .ref 73), (1, .int x1), (2, .int x2), (3, .long x3), (5, .int x5)], [.int 24, .int x5])) rfl ?_
    refine Ev.if2 rfl (fun c1 => ?_) (fun c1 => ?_)
    · have c1 : 24 ≤ x5 := c1
      rw [if_pos c1] at H
      refine Ev.go 1 (s' := (h, 66, [(0, .ref 73), (1, .int x1), (2, .int x2), (3, .long x3), (5, .int x5)], [.long x3])) rfl ?_
      have H := Option.some.inj H
      subst H
      exact Ev.ret rfl rfl rfl ⟨rfl, rfl⟩
    · have c1 : ¬ (24 ≤ x5) := c1
      rw [if_neg c1] at H
      refine Ev.go 2 (s' := (h, 14, [(0, .ref 73), (1, .int x1), (2, .int x2), (3, .long x3), (5, .int x5)], [.ref 73, .long x3])) rfl ?_
      refine Ev.get rfl (by decide) xM.1 rfl ?_
      refine Ev.go 1 (s' := (h, 19, [(0, .ref 73), (1, .int x1), (2, .int x2), (3, .long x3), (5, .int x5)], [.int x5, .int (M.1 0), .long x3])) rfl ?_
      refine Ev.callE rfl rfl rfl rfl rfl (Nat.le_of_ble_eq_true rfl) (spX10_has  (M.1 0) x5) ?_
      refine Ev.if1 rfl (fun c2 => ?_) (fun c2 => ?_)
      · have c2 : (fX10_has (M.1 0) x5) = 0 := c2
        rw [if_pos c2] at H
        refine Ev.go 5 (s' := (h, 5, [(0, .ref 73), (1, .int x1), (2, .int x2), (3, .long (x3 + 0)), (5, .int (x5 + 1))], [])) rfl ?_
        refine Ev.live rfl (lv' := [(0, .ref 73), (1, .int x1), (2, .int x2), (3, .long (x3 + 0)), (5, .int (x5 + 1))]) rfl ?_
        exact llX10_sumOf_5 m h x1 x2 (x3 + 0) (x5 + 1) _ H xM
      · have c2 : ¬ ((fX10_has (M.1 0) x5) = 0) := c2
        rw [if_neg c2] at H
        refine Ev.go 2 (s' := (h, 27, [(0, .ref 73), (1, .int x1), (2, .int x2), (3, .long x3), (5, .int x5)], [.ref 73, .ref 73, .long x3])) rfl ?_
        refine Ev.get rfl (by decide) xM.1 rfl ?_
        refine Ev.go 1 (s' := (h, 31, [(0, .ref 73), (1, .int x1), (2, .int x2), (3, .long x3), (5, .int x5)], [.int x1, .ref 83, .ref 73, .long x3])) rfl ?_
        have v3 : vp_in x1 8 := fun q => by rw [if_pos q] at H; cases H
        rw [if_neg v3] at H
        refine Ev.iald rfl (by decide) xM.2.2.2.2.2.2.2.2.2.2.1 v3 ?_
        refine Ev.go 2 (s' := (h, 35, [(0, .ref 73), (1, .int x1), (2, .int x2), (3, .long x3), (5, .int x5)], [.int x5, .int x2, .int ((M.2.1 19) x1.toNatClampNeg), .ref 73, .long x3])) rfl ?_
        obtain ⟨y5, e4, H⟩ := Option.bind_eq_some_iff.mp H
        refine Ev.callE rfl rfl rfl (p_argsV (by decide) xM.1 (Nat.le_of_ble_eq_true rfl)) rfl (Nat.le_of_ble_eq_true rfl) (spX10_stands xM ((M.2.1 19) x1.toNatClampNeg) x2 x5 e4) ?_
        refine Ev.if1 rfl (fun c6 => ?_) (fun c6 => ?_)
        · have c6 : y5 = 0 := c6
          rw [if_pos c6] at H
          refine Ev.go 5 (s' := (h, 5, [(0, .ref 73), (1, .int x1), (2, .int x2), (3, .long (x3 + 0)), (5, .int (x5 + 1))], [])) rfl ?_
          refine Ev.live rfl (lv' := [(0, .ref 73), (1, .int x1), (2, .int x2), (3, .long (x3 + 0)), (5, .int (x5 + 1))]) rfl ?_
          exact llX10_sumOf_5 m h x1 x2 (x3 + 0) (x5 + 1) _ H xM
        · have c6 : ¬ (y5 = 0) := c6
          rw [if_neg c6] at H
          refine Ev.go 1 (s' := (h, 42, [(0, .ref 73), (1, .int x1), (2, .int x2), (3, .long x3), (5, .int x5)], [.ref 73, .long x3])) rfl ?_
          refine Ev.get rfl (by decide) xM.1 rfl ?_
          refine Ev.go 5 (s' := (h, 52, [(0, .ref 73), (1, .int x1), (2, .int x2), (3, .long x3), (5, .int x5)], [.int ((24 * x1) + x5), .ref 88, .long x3])) rfl ?_
          have v7 : vp_in ((24 * x1) + x5) 192 := fun q => by rw [if_pos q] at H; cases H
          rw [if_neg v7] at H
          refine Ev.lald rfl (by decide) xM.2.2.2.2.2.2.2.2.2.2.2.2.2.2.2 v7 ?_
          refine Ev.go 5 (s' := (h, 5, [(0, .ref 73), (1, .int x1), (2, .int x2), (3, .long (x3 + (M.2.2 ((24 * x1) + x5).toNatClampNeg))), (5, .int (x5 + 1))], [])) rfl ?_
          refine Ev.live rfl (lv' := [(0, .ref 73), (1, .int x1), (2, .int x2), (3, .long (x3 + (M.2.2 ((24 * x1) + x5).toNatClampNeg))), (5, .int (x5 + 1))]) rfl ?_
          exact llX10_sumOf_5 m h x1 x2 (x3 + (M.2.2 ((24 * x1) + x5).toNatClampNeg)) (x5 + 1) _ H xM
def fX10_sumOf (n : Nat) (M : tM) (c : Int32) (v : Int32) : Option (Int64) := lX10_sumOf_5 n M n c v 0 0
theorem spX10_sumOf {d n : Nat} {h : pH} {M : tM} (xM : isM h M) (c : Int32) (v : Int32) {res : Int64} (H : fX10_sumOf n M c v = some res) : Ev (d + 3) mX10_sumOf (h, 0, [(0, .ref 73), (1, .int c), (2, .int v)], []) (fun r h1 => r = some (.long res) ∧ h1 = h) := by
  unfold fX10_sumOf at H
  refine Ev.go 4 (s' := (h, 5, [(0, .ref 73), (1, .int c), (2, .int v), (3, .long 0), (5, .int 0)], [])) rfl ?_
  refine Ev.live rfl (lv' := [(0, .ref 73), (1, .int c), (2, .int v), (3, .long 0), (5, .int 0)]) rfl ?_
  exact llX10_sumOf_5 n h c v 0 0 _ H xM
def lX10_waysBy_176 (n : Nat) : Nat → Int64 → Int32 → tM → Option (Int64 × tM)
  | 0, _, _, _ => none
  | m + 1, x3, x5, M => (if 24 ≤ x5 then some (x3, M) else (if x5 < 0 ∨ 192 ≤ x5.toNatClampNeg then none else lX10_waysBy_176 n m (x3 + (M.2.2 x5.toNatClampNeg)) (x5 + 1) M))
theorem llX10_waysBy_176 {d n : Nat} : ∀ (m : Nat) (h : pH) (x3 : Int64) (x5 : Int32) (M : tM) (res : Int64 × tM), lX10_waysBy_176 n m x3 x5 M = some res → isM h M → Ev (d + 4) mX10_waysBy (h, 176, [(0, .ref 73), (3, .long x3), (5, .int x5)], []) (fun r h1 => r = some (.long res.1) ∧ isM h1 res.2 ∧ fr [(73, 89)] h h1)
  | 0, h, x3, x5, M, res, H, _ => by cases H
  | m + 1, h, x3, x5, M, res, H, xM => by
    have H : (if 24 ≤ x5 then some (x3, M) else (if x5 < 0 ∨ 192 ≤ x5.toNatClampNeg then none else lX10_waysBy_176 n m (x3 + (M.2.2 x5.toNatClampNeg)) (x5 + 1) M)) = some res := H
    refine Ev.go 2 (s' := (h, 180, [(0, .ref 73), (3, .long x3), (5, .int x5)], [.int 24, .int x5])) rfl ?_
    refine Ev.if2 rfl (fun c27 => ?_) (fun c27 => ?_)
    · have c27 : 24 ≤ x5 := c27
      rw [if_pos c27] at H
      refine Ev.go 1 (s' := (h, 200, [(0, .ref 73), (3, .long x3), (5, .int x5)], [.long x3])) rfl ?_
      have H := Option.some.inj H
      subst H
      exact Ev.ret rfl rfl rfl ⟨rfl, xM, (fun k _ => rfl)⟩
    · have c27 : ¬ (24 ≤ x5) := c27
      rw [if_neg c27] at H
      refine Ev.go 2 (s' := (h, 185, [(0, .ref 73), (3, .long x3), (5, .int x5)], [.ref 73, .long x3])) rfl ?_
      refine Ev.get rfl (by decide) xM.1 rfl ?_
      refine Ev.go 1 (s' := (h, 190, [(0, .ref 73), (3, .long x3), (5, .int x5)], [.int x5, .ref 88, .long x3])) rfl ?_
      have v28 : vp_in x5 192 := fun q => by rw [if_pos q] at H; cases H
      rw [if_neg v28] at H
      refine Ev.lald rfl (by decide) xM.2.2.2.2.2.2.2.2.2.2.2.2.2.2.2 v28 ?_
      refine Ev.go 4 (s' := (h, 176, [(0, .ref 73), (3, .long (x3 + (M.2.2 x5.toNatClampNeg))), (5, .int (x5 + 1))], [])) rfl ?_
      refine Ev.live rfl (lv' := [(0, .ref 73), (3, .long (x3 + (M.2.2 x5.toNatClampNeg))), (5, .int (x5 + 1))]) rfl ?_
      exact llX10_waysBy_176 m h (x3 + (M.2.2 x5.toNatClampNeg)) (x5 + 1) M _ H xM
def lX10_waysBy (n : Nat) : Nat → Nat → Int32 → Int32 → Int32 → Int32 → Int32 → Int32 → tM → Option (Int64 × tM)
  | 0, _, _, _, _, _, _, _, _ => none
  | m + 1, tg, x1, x2, x3, x4, x5, x6, M => (if tg = 7 then (if x3 < 0 then lX10_waysBy_176 n n 0 0 M else lX10_waysBy n m 14 x1 x2 x3 0 0 0 M) else (if tg = 14 then (if 24 ≤ x4 then lX10_waysBy n m 7 x1 x2 (x3 + (-1)) 0 0 0 M else (if (fX10_has (M.1 0) x4) = 0 then (if ((24 * x3) + x4) < 0 ∨ 192 ≤ ((24 * x3) + x4).toNatClampNeg then none else lX10_waysBy n m 105 x1 x2 x3 x4 0 (x3 + 1) (M.1, M.2.1, vp_updL M.2.2 ((24 * x3) + x4).toNatClampNeg 0)) else (if x3 < 0 ∨ 8 ≤ x3.toNatClampNeg then none else (if ((M.2.1 17) x3.toNatClampNeg) = 6 then (if ¬ x3 = x1 then (if ((24 * x3) + x4) < 0 ∨ 192 ≤ ((24 * x3) + x4).toNatClampNeg then none else lX10_waysBy n m 105 x1 x2 x3 x4 1 (x3 + 1) (M.1, M.2.1, vp_updL M.2.2 ((24 * x3) + x4).toNatClampNeg 1)) else (if ¬ x4 = x2 then (if ((24 * x3) + x4) < 0 ∨ 192 ≤ ((24 * x3) + x4).toNatClampNeg then none else lX10_waysBy n m 105 x1 x2 x3 x4 0 (x3 + 1) (M.1, M.2.1, vp_updL M.2.2 ((24 * x3) + x4).toNatClampNeg 0)) else (if ((24 * x3) + x4) < 0 ∨ 192 ≤ ((24 * x3) + x4).toNatClampNeg then none else lX10_waysBy n m 105 x1 x2 x3 x4 1 (x3 + 1) (M.1, M.2.1, vp_updL M.2.2 ((24 * x3) + x4).toNatClampNeg 1)))) else (if x4 < 0 ∨ 24 ≤ x4.toNatClampNeg then none else (if ¬ ((M.2.1 17) x3.toNatClampNeg) = ((M.2.1 3) x4.toNatClampNeg) then (if ((24 * x3) + x4) < 0 ∨ 192 ≤ ((24 * x3) + x4).toNatClampNeg then none else lX10_waysBy n m 105 x1 x2 x3 x4 0 (x3 + 1) (M.1, M.2.1, vp_updL M.2.2 ((24 * x3) + x4).toNatClampNeg 0)) else (if ¬ x3 = x1 then (if ((24 * x3) + x4) < 0 ∨ 192 ≤ ((24 * x3) + x4).toNatClampNeg then none else lX10_waysBy n m 105 x1 x2 x3 x4 1 (x3 + 1) (M.1, M.2.1, vp_updL M.2.2 ((24 * x3) + x4).toNatClampNeg 1)) else (if ¬ x4 = x2 then (if ((24 * x3) + x4) < 0 ∨ 192 ≤ ((24 * x3) + x4).toNatClampNeg then none else lX10_waysBy n m 105 x1 x2 x3 x4 0 (x3 + 1) (M.1, M.2.1, vp_updL M.2.2 ((24 * x3) + x4).toNatClampNeg 0)) else (if ((24 * x3) + x4) < 0 ∨ 192 ≤ ((24 * x3) + x4).toNatClampNeg then none else lX10_waysBy n m 105 x1 x2 x3 x4 1 (x3 + 1) (M.1, M.2.1, vp_updL M.2.2 ((24 * x3) + x4).toNatClampNeg 1)))))))))) else (if (M.1 15) ≤ x6 then lX10_waysBy n m 14 x1 x2 x3 (x4 + 1) 0 0 M else (if x5 = 0 then lX10_waysBy n m 14 x1 x2 x3 (x4 + 1) 0 0 M else (if x6 < 0 ∨ 8 ≤ x6.toNatClampNeg then none else (if ¬ ((M.2.1 18) x6.toNatClampNeg) = x3 then lX10_waysBy n m 105 x1 x2 x3 x4 x5 (x6 + 1) M else (if ((24 * x3) + x4) < 0 ∨ 192 ≤ ((24 * x3) + x4).toNatClampNeg then none else ((fX10_sumOf n M x6 x4).bind fun y26 => lX10_waysBy n m 105 x1 x2 x3 x4 x5 (x6 + 1) (M.1, M.2.1, vp_updL M.2.2 ((24 * x3) + x4).toNatClampNeg ((M.2.2 ((24 * x3) + x4).toNatClampNeg) * y26))))))))))
theorem lX10_waysBy_s7 {n m : Nat} {x1 x2 x3 x4 x5 x6 : Int32} {M : tM} : lX10_waysBy n (m + 1) 7 x1 x2 x3 x4 x5 x6 M = (if x3 < 0 then lX10_waysBy_176 n n 0 0 M else lX10_waysBy n m 14 x1 x2 x3 0 0 0 M) := by rw [lX10_waysBy, if_pos rfl]
theorem lX10_waysBy_s14 {n m : Nat} {x1 x2 x3 x4 x5 x6 : Int32} {M : tM} : lX10_waysBy n (m + 1) 14 x1 x2 x3 x4 x5 x6 M = (if 24 ≤ x4 then lX10_waysBy n m 7 x1 x2 (x3 + (-1)) 0 0 0 M else (if (fX10_has (M.1 0) x4) = 0 then (if ((24 * x3) + x4) < 0 ∨ 192 ≤ ((24 * x3) + x4).toNatClampNeg then none else lX10_waysBy n m 105 x1 x2 x3 x4 0 (x3 + 1) (M.1, M.2.1, vp_updL M.2.2 ((24 * x3) + x4).toNatClampNeg 0)) else (if x3 < 0 ∨ 8 ≤ x3.toNatClampNeg then none else (if ((M.2.1 17) x3.toNatClampNeg) = 6 then (if ¬ x3 = x1 then (if ((24 * x3) + x4) < 0 ∨ 192 ≤ ((24 * x3) + x4).toNatClampNeg then none else lX10_waysBy n m 105 x1 x2 x3 x4 1 (x3 + 1) (M.1, M.2.1, vp_updL M.2.2 ((24 * x3) + x4).toNatClampNeg 1)) else (if ¬ x4 = x2 then (if ((24 * x3) + x4) < 0 ∨ 192 ≤ ((24 * x3) + x4).toNatClampNeg then none else lX10_waysBy n m 105 x1 x2 x3 x4 0 (x3 + 1) (M.1, M.2.1, vp_updL M.2.2 ((24 * x3) + x4).toNatClampNeg 0)) else (if ((24 * x3) + x4) < 0 ∨ 192 ≤ ((24 * x3) + x4).toNatClampNeg then none else lX10_waysBy n m 105 x1 x2 x3 x4 1 (x3 + 1) (M.1, M.2.1, vp_updL M.2.2 ((24 * x3) + x4).toNatClampNeg 1)))) else (if x4 < 0 ∨ 24 ≤ x4.toNatClampNeg then none else (if ¬ ((M.2.1 17) x3.toNatClampNeg) = ((M.2.1 3) x4.toNatClampNeg) then (if ((24 * x3) + x4) < 0 ∨ 192 ≤ ((24 * x3) + x4).toNatClampNeg then none else lX10_waysBy n m 105 x1 x2 x3 x4 0 (x3 + 1) (M.1, M.2.1, vp_updL M.2.2 ((24 * x3) + x4).toNatClampNeg 0)) else (if ¬ x3 = x1 then (if ((24 * x3) + x4) < 0 ∨ 192 ≤ ((24 * x3) + x4).toNatClampNeg then none else lX10_waysBy n m 105 x1 x2 x3 x4 1 (x3 + 1) (M.1, M.2.1, vp_updL M.2.2 ((24 * x3) + x4).toNatClampNeg 1)) else (if ¬ x4 = x2 then (if ((24 * x3) + x4) < 0 ∨ 192 ≤ ((24 * x3) + x4).toNatClampNeg then none else lX10_waysBy n m 105 x1 x2 x3 x4 0 (x3 + 1) (M.1, M.2.1, vp_updL M.2.2 ((24 * x3) + x4).toNatClampNeg 0)) else (if ((24 * x3) + x4) < 0 ∨ 192 ≤ ((24 * x3) + x4).toNatClampNeg then none else lX10_waysBy n m 105 x1 x2 x3 x4 1 (x3 + 1) (M.1, M.2.1, vp_updL M.2.2 ((24 * x3) + x4).toNatClampNeg 1)))))))))) := by rw [lX10_waysBy, if_neg (by decide), if_pos rfl]
theorem lX10_waysBy_s105 {n m : Nat} {x1 x2 x3 x4 x5 x6 : Int32} {M : tM} : lX10_waysBy n (m + 1) 105 x1 x2 x3 x4 x5 x6 M = (if (M.1 15) ≤ x6 then lX10_waysBy n m 14 x1 x2 x3 (x4 + 1) 0 0 M else (if x5 = 0 then lX10_waysBy n m 14 x1 x2 x3 (x4 + 1) 0 0 M else (if x6 < 0 ∨ 8 ≤ x6.toNatClampNeg then none else (if ¬ ((M.2.1 18) x6.toNatClampNeg) = x3 then lX10_waysBy n m 105 x1 x2 x3 x4 x5 (x6 + 1) M else (if ((24 * x3) + x4) < 0 ∨ 192 ≤ ((24 * x3) + x4).toNatClampNeg then none else ((fX10_sumOf n M x6 x4).bind fun y26 => lX10_waysBy n m 105 x1 x2 x3 x4 x5 (x6 + 1) (M.1, M.2.1, vp_updL M.2.2 ((24 * x3) + x4).toNatClampNeg ((M.2.2 ((24 * x3) + x4).toNatClampNeg) * y26)))))))) := by rw [lX10_waysBy, if_neg (by decide), if_neg (by decide)]
theorem llX10_waysBy {d n : Nat} : ∀ (m : Nat) (h : pH) (x1 x2 x3 x4 x5 x6 : Int32) (M : tM) (res : Int64 × tM), (lX10_waysBy n m 7 x1 x2 x3 x4 x5 x6 M = some res → isM h M → Ev (d + 4) mX10_waysBy (h, 7, [(0, .ref 73), (1, .int x1), (2, .int x2), (3, .int x3)], []) (fun r h1 => r = some (.long res.1) ∧ isM h1 res.2 ∧ fr [(73, 89)] h h1)) ∧ (lX10_waysBy n m 14 x1 x2 x3 x4 x5 x6 M = some res → isM h M → Ev (d + 4) mX10_waysBy (h, 14, [(0, .ref 73), (1, .int x1), (2, .int x2), (3, .int x3), (4, .int x4)], []) (fun r h1 => r = some (.long res.1) ∧ isM h1 res.2 ∧ fr [(73, 89)] h h1)) ∧ (lX10_waysBy n m 105 x1 x2 x3 x4 x5 x6 M = some res → isM h M → Ev (d + 4) mX10_waysBy (h, 105, [(0, .ref 73), (1, .int x1), (2, .int x2), (3, .int x3), (4, .int x4), (5, .int x5), (6, .int x6)], []) (fun r h1 => r = some (.long res.1) ∧ isM h1 res.2 ∧ fr [(73, 89)] h h1))
  := by
  intro m
  induction m with
  | zero =>
    intro h x1 x2 x3 x4 x5 x6 M res
    exact ⟨fun H _ => (by cases H), fun H _ => (by cases H), fun H _ => (by cases H)⟩
  | succ m ih =>
    intro h x1 x2 x3 x4 x5 x6 M res
    refine ⟨fun H xM => ?_, fun H xM => ?_, fun H xM => ?_⟩
    · rw [lX10_waysBy_s7] at H
      refine Ev.go 1 (s' := (h, 8, [(0, .ref 73), (1, .int x1), (2, .int x2), (3, .int x3)], [.int x3])) rfl ?_
      refine Ev.if1 rfl (fun c1 => ?_) (fun c1 => ?_)
      · have c1 : x3 < 0 := c1
        rw [if_pos c1] at H
        refine Ev.go 4 (s' := (h, 176, [(0, .ref 73), (1, .int x1), (2, .int x2), (3, .long 0), (5, .int 0)], [])) rfl ?_
        refine Ev.live rfl (lv' := [(0, .ref 73), (3, .long 0), (5, .int 0)]) rfl ?_
        exact llX10_waysBy_176 n h 0 0 M _ H xM
      · have c1 : ¬ (x3 < 0) := c1
        rw [if_neg c1] at H
        refine Ev.go 2 (s' := (h, 14, [(0, .ref 73), (1, .int x1), (2, .int x2), (3, .int x3), (4, .int 0)], [])) rfl ?_
        refine Ev.live rfl (lv' := [(0, .ref 73), (1, .int x1), (2, .int x2), (3, .int x3), (4, .int 0)]) rfl ?_
        exact (ih h x1 x2 x3 0 0 0 M _).2.1 H xM
    · rw [lX10_waysBy_s14] at H
      refine Ev.go 2 (s' := (h, 18, [(0, .ref 73), (1, .int x1), (2, .int x2), (3, .int x3), (4, .int x4)], [.int 24, .int x4])) rfl ?_
      refine Ev.if2 rfl (fun c2 => ?_) (fun c2 => ?_)
      · have c2 : 24 ≤ x4 := c2
        rw [if_pos c2] at H
        refine Ev.go 2 (s' := (h, 7, [(0, .ref 73), (1, .int x1), (2, .int x2), (3, .int (x3 + (-1))), (4, .int x4)], [])) rfl ?_
        refine Ev.live rfl (lv' := [(0, .ref 73), (1, .int x1), (2, .int x2), (3, .int (x3 + (-1)))]) rfl ?_
        exact (ih h x1 x2 (x3 + (-1)) 0 0 0 M _).1 H xM
      · have c2 : ¬ (24 ≤ x4) := c2
        rw [if_neg c2] at H
        refine Ev.go 1 (s' := (h, 22, [(0, .ref 73), (1, .int x1), (2, .int x2), (3, .int x3), (4, .int x4)], [.ref 73])) rfl ?_
        refine Ev.get rfl (by decide) xM.1 rfl ?_
        refine Ev.go 1 (s' := (h, 27, [(0, .ref 73), (1, .int x1), (2, .int x2), (3, .int x3), (4, .int x4)], [.int x4, .int (M.1 0)])) rfl ?_
        refine Ev.callE rfl rfl rfl rfl rfl (Nat.le_of_ble_eq_true rfl) (spX10_has  (M.1 0) x4) ?_
        refine Ev.if1 rfl (fun c3 => ?_) (fun c3 => ?_)
        · have c3 : (fX10_has (M.1 0) x4) = 0 := c3
          rw [if_pos c3] at H
          refine Ev.go 3 (s' := (h, 79, [(0, .ref 73), (1, .int x1), (2, .int x2), (3, .int x3), (4, .int x4), (5, .int 0)], [.ref 73])) rfl ?_
          refine Ev.get rfl (by decide) xM.1 rfl ?_
          refine Ev.go 6 (s' := (h, 91, [(0, .ref 73), (1, .int x1), (2, .int x2), (3, .int x3), (4, .int x4), (5, .int 0)], [.int 0, .int ((24 * x3) + x4), .ref 88])) rfl ?_
          refine Ev.if1 rfl (fun c => ?_) (fun c => ?_)
          · refine Ev.go 1 (s' := (h, 99, [(0, .ref 73), (1, .int x1), (2, .int x2), (3, .int x3), (4, .int x4), (5, .int 0)], [.long 0, .int ((24 * x3) + x4), .ref 88])) rfl ?_
            have v4 : vp_in ((24 * x3) + x4) 192 := fun q => by rw [if_pos q] at H; cases H
            rw [if_neg v4] at H
            refine Ev.last rfl (by decide) xM.2.2.2.2.2.2.2.2.2.2.2.2.2.2.2 v4 ?_
            refine Ev.go 4 (s' := ((pu h 88 (eJ 192 (vp_updL M.2.2 ((24 * x3) + x4).toNatClampNeg 0))), 105, [(0, .ref 73), (1, .int x1), (2, .int x2), (3, .int x3), (4, .int x4), (5, .int 0), (6, .int (x3 + 1))], [])) rfl ?_
            refine Ev.live rfl (lv' := [(0, .ref 73), (1, .int x1), (2, .int x2), (3, .int x3), (4, .int x4), (5, .int 0), (6, .int (x3 + 1))]) rfl ?_
            refine ((ih (pu h 88 (eJ 192 (vp_updL M.2.2 ((24 * x3) + x4).toNatClampNeg 0))) x1 x2 x3 x4 0 (x3 + 1) (M.1, M.2.1, vp_updL M.2.2 ((24 * x3) + x4).toNatClampNeg 0) _).2.2 H ⟨(pu_n (by decide) xM.1), (pu_n (by decide) xM.2.1), (pu_n (by decide) xM.2.2.1), (pu_n (by decide) xM.2.2.2.1), (pu_n (by decide) xM.2.2.2.2.1), (pu_n (by decide) xM.2.2.2.2.2.1), (pu_n (by decide) xM.2.2.2.2.2.2.1), (pu_n (by decide) xM.2.2.2.2.2.2.2.1), (pu_n (by decide) xM.2.2.2.2.2.2.2.2.1), (pu_n (by decide) xM.2.2.2.2.2.2.2.2.2.1), (pu_n (by decide) xM.2.2.2.2.2.2.2.2.2.2.1), (pu_n (by decide) xM.2.2.2.2.2.2.2.2.2.2.2.1), (pu_n (by decide) xM.2.2.2.2.2.2.2.2.2.2.2.2.1), (pu_n (by decide) xM.2.2.2.2.2.2.2.2.2.2.2.2.2.1), (pu_n (by decide) xM.2.2.2.2.2.2.2.2.2.2.2.2.2.2.1), pu_s⟩).mono (fun r h9 q9 => ?_)
            obtain ⟨q9r, q9_0, q9f⟩ := q9
            exact ⟨q9r, q9_0, fun k hk => (q9f k hk).trans (by rw [pu_x (show k ≠ 88 from fun e => by have := hk; simp at this; omega)])⟩
          · exact absurd (show (0 : Int32) = 0 by decide) c
        · have c3 : ¬ ((fX10_has (M.1 0) x4) = 0) := c3
          rw [if_neg c3] at H
          refine Ev.go 1 (s' := (h, 34, [(0, .ref 73), (1, .int x1), (2, .int x2), (3, .int x3), (4, .int x4)], [.ref 73])) rfl ?_
          refine Ev.get rfl (by decide) xM.1 rfl ?_
          refine Ev.go 1 (s' := (h, 38, [(0, .ref 73), (1, .int x1), (2, .int x2), (3, .int x3), (4, .int x4)], [.int x3, .ref 81])) rfl ?_
          have v5 : vp_in x3 8 := fun q => by rw [if_pos q] at H; cases H
          rw [if_neg v5] at H
          refine Ev.iald rfl (by decide) xM.2.2.2.2.2.2.2.2.1 v5 ?_
          refine Ev.go 1 (s' := (h, 41, [(0, .ref 73), (1, .int x1), (2, .int x2), (3, .int x3), (4, .int x4)], [.int 6, .int ((M.2.1 17) x3.toNatClampNeg)])) rfl ?_
          refine Ev.if2 rfl (fun c6 => ?_) (fun c6 => ?_)
          · have c6 : ((M.2.1 17) x3.toNatClampNeg) = 6 := c6
            rw [if_pos c6] at H
            refine Ev.go 2 (s' := (h, 62, [(0, .ref 73), (1, .int x1), (2, .int x2), (3, .int x3), (4, .int x4)], [.int x1, .int x3])) rfl ?_
            refine Ev.if2 rfl (fun c7 => ?_) (fun c7 => ?_)
            · have c7 : ¬ x3 = x1 := c7
              rw [if_pos c7] at H
              refine Ev.go 4 (s' := (h, 79, [(0, .ref 73), (1, .int x1), (2, .int x2), (3, .int x3), (4, .int x4), (5, .int 1)], [.ref 73])) rfl ?_
              refine Ev.get rfl (by decide) xM.1 rfl ?_
              refine Ev.go 6 (s' := (h, 91, [(0, .ref 73), (1, .int x1), (2, .int x2), (3, .int x3), (4, .int x4), (5, .int 1)], [.int 1, .int ((24 * x3) + x4), .ref 88])) rfl ?_
              refine Ev.if1 rfl (fun c => ?_) (fun c => ?_)
              · exact absurd (show (1 : Int32) = 0 from c) (by decide)
              · refine Ev.go 2 (s' := (h, 99, [(0, .ref 73), (1, .int x1), (2, .int x2), (3, .int x3), (4, .int x4), (5, .int 1)], [.long 1, .int ((24 * x3) + x4), .ref 88])) rfl ?_
                have v8 : vp_in ((24 * x3) + x4) 192 := fun q => by rw [if_pos q] at H; cases H
                rw [if_neg v8] at H
                refine Ev.last rfl (by decide) xM.2.2.2.2.2.2.2.2.2.2.2.2.2.2.2 v8 ?_
                refine Ev.go 4 (s' := ((pu h 88 (eJ 192 (vp_updL M.2.2 ((24 * x3) + x4).toNatClampNeg 1))), 105, [(0, .ref 73), (1, .int x1), (2, .int x2), (3, .int x3), (4, .int x4), (5, .int 1), (6, .int (x3 + 1))], [])) rfl ?_
                refine Ev.live rfl (lv' := [(0, .ref 73), (1, .int x1), (2, .int x2), (3, .int x3), (4, .int x4), (5, .int 1), (6, .int (x3 + 1))]) rfl ?_
                refine ((ih (pu h 88 (eJ 192 (vp_updL M.2.2 ((24 * x3) + x4).toNatClampNeg 1))) x1 x2 x3 x4 1 (x3 + 1) (M.1, M.2.1, vp_updL M.2.2 ((24 * x3) + x4).toNatClampNeg 1) _).2.2 H ⟨(pu_n (by decide) xM.1), (pu_n (by decide) xM.2.1), (pu_n (by decide) xM.2.2.1), (pu_n (by decide) xM.2.2.2.1), (pu_n (by decide) xM.2.2.2.2.1), (pu_n (by decide) xM.2.2.2.2.2.1), (pu_n (by decide) xM.2.2.2.2.2.2.1), (pu_n (by decide) xM.2.2.2.2.2.2.2.1), (pu_n (by decide) xM.2.2.2.2.2.2.2.2.1), (pu_n (by decide) xM.2.2.2.2.2.2.2.2.2.1), (pu_n (by decide) xM.2.2.2.2.2.2.2.2.2.2.1), (pu_n (by decide) xM.2.2.2.2.2.2.2.2.2.2.2.1), (pu_n (by decide) xM.2.2.2.2.2.2.2.2.2.2.2.2.1), (pu_n (by decide) xM.2.2.2.2.2.2.2.2.2.2.2.2.2.1), (pu_n (by decide) xM.2.2.2.2.2.2.2.2.2.2.2.2.2.2.1), pu_s⟩).mono (fun r h9 q9 => ?_)
                obtain ⟨q9r, q9_0, q9f⟩ := q9
                exact ⟨q9r, q9_0, fun k hk => (q9f k hk).trans (by rw [pu_x (show k ≠ 88 from fun e => by have := hk; simp at this; omega)])⟩
            · have c7 : ¬ (¬ x3 = x1) := c7
              rw [if_neg c7] at H
              refine Ev.go 2 (s' := (h, 68, [(0, .ref 73), (1, .int x1), (2, .int x2), (3, .int x3), (4, .int x4)], [.int x2, .int x4])) rfl ?_
              refine Ev.if2 rfl (fun c9 => ?_) (fun c9 => ?_)
              · have c9 : ¬ x4 = x2 := c9
                rw [if_pos c9] at H
                refine Ev.go 3 (s' := (h, 79, [(0, .ref 73), (1, .int x1), (2, .int x2), (3, .int x3), (4, .int x4), (5, .int 0)], [.ref 73])) rfl ?_
                refine Ev.get rfl (by decide) xM.1 rfl ?_
                refine Ev.go 6 (s' := (h, 91, [(0, .ref 73), (1, .int x1), (2, .int x2), (3, .int x3), (4, .int x4), (5, .int 0)], [.int 0, .int ((24 * x3) + x4), .ref 88])) rfl ?_
                refine Ev.if1 rfl (fun c => ?_) (fun c => ?_)
                · refine Ev.go 1 (s' := (h, 99, [(0, .ref 73), (1, .int x1), (2, .int x2), (3, .int x3), (4, .int x4), (5, .int 0)], [.long 0, .int ((24 * x3) + x4), .ref 88])) rfl ?_
                  have v10 : vp_in ((24 * x3) + x4) 192 := fun q => by rw [if_pos q] at H; cases H
                  rw [if_neg v10] at H
                  refine Ev.last rfl (by decide) xM.2.2.2.2.2.2.2.2.2.2.2.2.2.2.2 v10 ?_
                  refine Ev.go 4 (s' := ((pu h 88 (eJ 192 (vp_updL M.2.2 ((24 * x3) + x4).toNatClampNeg 0))), 105, [(0, .ref 73), (1, .int x1), (2, .int x2), (3, .int x3), (4, .int x4), (5, .int 0), (6, .int (x3 + 1))], [])) rfl ?_
                  refine Ev.live rfl (lv' := [(0, .ref 73), (1, .int x1), (2, .int x2), (3, .int x3), (4, .int x4), (5, .int 0), (6, .int (x3 + 1))]) rfl ?_
                  refine ((ih (pu h 88 (eJ 192 (vp_updL M.2.2 ((24 * x3) + x4).toNatClampNeg 0))) x1 x2 x3 x4 0 (x3 + 1) (M.1, M.2.1, vp_updL M.2.2 ((24 * x3) + x4).toNatClampNeg 0) _).2.2 H ⟨(pu_n (by decide) xM.1), (pu_n (by decide) xM.2.1), (pu_n (by decide) xM.2.2.1), (pu_n (by decide) xM.2.2.2.1), (pu_n (by decide) xM.2.2.2.2.1), (pu_n (by decide) xM.2.2.2.2.2.1), (pu_n (by decide) xM.2.2.2.2.2.2.1), (pu_n (by decide) xM.2.2.2.2.2.2.2.1), (pu_n (by decide) xM.2.2.2.2.2.2.2.2.1), (pu_n (by decide) xM.2.2.2.2.2.2.2.2.2.1), (pu_n (by decide) xM.2.2.2.2.2.2.2.2.2.2.1), (pu_n (by decide) xM.2.2.2.2.2.2.2.2.2.2.2.1), (pu_n (by decide) xM.2.2.2.2.2.2.2.2.2.2.2.2.1), (pu_n (by decide) xM.2.2.2.2.2.2.2.2.2.2.2.2.2.1), (pu_n (by decide) xM.2.2.2.2.2.2.2.2.2.2.2.2.2.2.1), pu_s⟩).mono (fun r h9 q9 => ?_)
                  obtain ⟨q9r, q9_0, q9f⟩ := q9
                  exact ⟨q9r, q9_0, fun k hk => (q9f k hk).trans (by rw [pu_x (show k ≠ 88 from fun e => by have := hk; simp at this; omega)])⟩
                · exact absurd (show (0 : Int32) = 0 by decide) c
              · have c9 : ¬ (¬ x4 = x2) := c9
                rw [if_neg c9] at H
                refine Ev.go 4 (s' := (h, 79, [(0, .ref 73), (1, .int x1), (2, .int x2), (3, .int x3), (4, .int x4), (5, .int 1)], [.ref 73])) rfl ?_
                refine Ev.get rfl (by decide) xM.1 rfl ?_
                refine Ev.go 6 (s' := (h, 91, [(0, .ref 73), (1, .int x1), (2, .int x2), (3, .int x3), (4, .int x4), (5, .int 1)], [.int 1, .int ((24 * x3) + x4), .ref 88])) rfl ?_
                refine Ev.if1 rfl (fun c => ?_) (fun c => ?_)
                · exact absurd (show (1 : Int32) = 0 from c) (by decide)
                · refine Ev.go 2 (s' := (h, 99, [(0, .ref 73), (1, .int x1), (2, .int x2), (3, .int x3), (4, .int x4), (5, .int 1)], [.long 1, .int ((24 * x3) + x4), .ref 88])) rfl ?_
                  have v11 : vp_in ((24 * x3) + x4) 192 := fun q => by rw [if_pos q] at H; cases H
                  rw [if_neg v11] at H
                  refine Ev.last rfl (by decide) xM.2.2.2.2.2.2.2.2.2.2.2.2.2.2.2 v11 ?_
                  refine Ev.go 4 (s' := ((pu h 88 (eJ 192 (vp_updL M.2.2 ((24 * x3) + x4).toNatClampNeg 1))), 105, [(0, .ref 73), (1, .int x1), (2, .int x2), (3, .int x3), (4, .int x4), (5, .int 1), (6, .int (x3 + 1))], [])) rfl ?_
                  refine Ev.live rfl (lv' := [(0, .ref 73), (1, .int x1), (2, .int x2), (3, .int x3), (4, .int x4), (5, .int 1), (6, .int (x3 + 1))]) rfl ?_
                  refine ((ih (pu h 88 (eJ 192 (vp_updL M.2.2 ((24 * x3) + x4).toNatClampNeg 1))) x1 x2 x3 x4 1 (x3 + 1) (M.1, M.2.1, vp_updL M.2.2 ((24 * x3) + x4).toNatClampNeg 1) _).2.2 H ⟨(pu_n (by decide) xM.1), (pu_n (by decide) xM.2.1), (pu_n (by decide) xM.2.2.1), (pu_n (by decide) xM.2.2.2.1), (pu_n (by decide) xM.2.2.2.2.1), (pu_n (by decide) xM.2.2.2.2.2.1), (pu_n (by decide) xM.2.2.2.2.2.2.1), (pu_n (by decide) xM.2.2.2.2.2.2.2.1), (pu_n (by decide) xM.2.2.2.2.2.2.2.2.1), (pu_n (by decide) xM.2.2.2.2.2.2.2.2.2.1), (pu_n (by decide) xM.2.2.2.2.2.2.2.2.2.2.1), (pu_n (by decide) xM.2.2.2.2.2.2.2.2.2.2.2.1), (pu_n (by decide) xM.2.2.2.2.2.2.2.2.2.2.2.2.1), (pu_n (by decide) xM.2.2.2.2.2.2.2.2.2.2.2.2.2.1), (pu_n (by decide) xM.2.2.2.2.2.2.2.2.2.2.2.2.2.2.1), pu_s⟩).mono (fun r h9 q9 => ?_)
                  obtain ⟨q9r, q9_0, q9f⟩ := q9
                  exact ⟨q9r, q9_0, fun k hk => (q9f k hk).trans (by rw [pu_x (show k ≠ 88 from fun e => by have := hk; simp at this; omega)])⟩
          · have c6 : ¬ (((M.2.1 17) x3.toNatClampNeg) = 6) := c6
            rw [if_neg c6] at H
            refine Ev.go 1 (s' := (h, 45, [(0, .ref 73), (1, .int x1), (2, .int x2), (3, .int x3), (4, .int x4)], [.ref 73])) rfl ?_
            refine Ev.get rfl (by decide) xM.1 rfl ?_
            refine Ev.go 1 (s' := (h, 49, [(0, .ref 73), (1, .int x1), (2, .int x2), (3, .int x3), (4, .int x4)], [.int x3, .ref 81])) rfl ?_
            refine Ev.iald rfl (by decide) xM.2.2.2.2.2.2.2.2.1 v5 ?_
            refine Ev.go 1 (s' := (h, 51, [(0, .ref 73), (1, .int x1), (2, .int x2), (3, .int x3), (4, .int x4)], [.ref 73, .int ((M.2.1 17) x3.toNatClampNeg)])) rfl ?_
            refine Ev.get rfl (by decide) xM.1 rfl ?_
            refine Ev.go 1 (s' := (h, 56, [(0, .ref 73), (1, .int x1), (2, .int x2), (3, .int x3), (4, .int x4)], [.int x4, .ref 74, .int ((M.2.1 17) x3.toNatClampNeg)])) rfl ?_
            have v12 : vp_in x4 24 := fun q => by rw [if_pos q] at H; cases H
            rw [if_neg v12] at H
            refine Ev.iald rfl (by decide) xM.2.1 v12 ?_
            refine Ev.if2 rfl (fun c13 => ?_) (fun c13 => ?_)
            · have c13 : ¬ ((M.2.1 17) x3.toNatClampNeg) = ((M.2.1 3) x4.toNatClampNeg) := c13
              rw [if_pos c13] at H
              refine Ev.go 3 (s' := (h, 79, [(0, .ref 73), (1, .int x1), (2, .int x2), (3, .int x3), (4, .int x4), (5, .int 0)], [.ref 73])) rfl ?_
              refine Ev.get rfl (by decide) xM.1 rfl ?_
              refine Ev.go 6 (s' := (h, 91, [(0, .ref 73), (1, .int x1), (2, .int x2), (3, .int x3), (4, .int x4), (5, .int 0)], [.int 0, .int ((24 * x3) + x4), .ref 88])) rfl ?_
              refine Ev.if1 rfl (fun c => ?_) (fun c => ?_)
              · refine Ev.go 1 (s' := (h, 99, [(0, .ref 73), (1, .int x1), (2, .int x2), (3, .int x3), (4, .int x4), (5, .int 0)], [.long 0, .int ((24 * x3) + x4), .ref 88])) rfl ?_
                have v14 : vp_in ((24 * x3) + x4) 192 := fun q => by rw [if_pos q] at H; cases H
                rw [if_neg v14] at H
                refine Ev.last rfl (by decide) xM.2.2.2.2.2.2.2.2.2.2.2.2.2.2.2 v14 ?_
                refine Ev.go 4 (s' := ((pu h 88 (eJ 192 (vp_updL M.2.2 ((24 * x3) + x4).toNatClampNeg 0))), 105, [(0, .ref 73), (1, .int x1), (2, .int x2), (3, .int x3), (4, .int x4), (5, .int 0), (6, .int (x3 + 1))], [])) rfl ?_
                refine Ev.live rfl (lv' := [(0, .ref 73), (1, .int x1), (2, .int x2), (3, .int x3), (4, .int x4), (5, .int 0), (6, .int (x3 + 1))]) rfl ?_
                refine ((ih (pu h 88 (eJ 192 (vp_updL M.2.2 ((24 * x3) + x4).toNatClampNeg 0))) x1 x2 x3 x4 0 (x3 + 1) (M.1, M.2.1, vp_updL M.2.2 ((24 * x3) + x4).toNatClampNeg 0) _).2.2 H ⟨(pu_n (by decide) xM.1), (pu_n (by decide) xM.2.1), (pu_n (by decide) xM.2.2.1), (pu_n (by decide) xM.2.2.2.1), (pu_n (by decide) xM.2.2.2.2.1), (pu_n (by decide) xM.2.2.2.2.2.1), (pu_n (by decide) xM.2.2.2.2.2.2.1), (pu_n (by decide) xM.2.2.2.2.2.2.2.1), (pu_n (by decide) xM.2.2.2.2.2.2.2.2.1), (pu_n (by decide) xM.2.2.2.2.2.2.2.2.2.1), (pu_n (by decide) xM.2.2.2.2.2.2.2.2.2.2.1), (pu_n (by decide) xM.2.2.2.2.2.2.2.2.2.2.2.1), (pu_n (by decide) xM.2.2.2.2.2.2.2.2.2.2.2.2.1), (pu_n (by decide) xM.2.2.2.2.2.2.2.2.2.2.2.2.2.1), (pu_n (by decide) xM.2.2.2.2.2.2.2.2.2.2.2.2.2.2.1), pu_s⟩).mono (fun r h9 q9 => ?_)
                obtain ⟨q9r, q9_0, q9f⟩ := q9
                exact ⟨q9r, q9_0, fun k hk => (q9f k hk).trans (by rw [pu_x (show k ≠ 88 from fun e => by have := hk; simp at this; omega)])⟩
              · exact absurd (show (0 : Int32) = 0 by decide) c
            · have c13 : ¬ (¬ ((M.2.1 17) x3.toNatClampNeg) = ((M.2.1 3) x4.toNatClampNeg)) := c13
              rw [if_neg c13] at H
              refine Ev.go 2 (s' := (h, 62, [(0, .ref 73), (1, .int x1), (2, .int x2), (3, .int x3), (4, .int x4)], [.int x1, .int x3])) rfl ?_
              refine Ev.if2 rfl (fun c15 => ?_) (fun c15 => ?_)
              · have c15 : ¬ x3 = x1 := c15
                rw [if_pos c15] at H
                refine Ev.go 4 (s' := (h, 79, [(0, .ref 73), (1, .int x1), (2, .int x2), (3, .int x3), (4, .int x4), (5, .int 1)], [.ref 73])) rfl ?_
                refine Ev.get rfl (by decide) xM.1 rfl ?_
                refine Ev.go 6 (s' := (h, 91, [(0, .ref 73), (1, .int x1), (2, .int x2), (3, .int x3), (4, .int x4), (5, .int 1)], [.int 1, .int ((24 * x3) + x4), .ref 88])) rfl ?_
                refine Ev.if1 rfl (fun c => ?_) (fun c => ?_)
                · exact absurd (show (1 : Int32) = 0 from c) (by decide)
                · refine Ev.go 2 (s' := (h, 99, [(0, .ref 73), (1, .int x1), (2, .int x2), (3, .int x3), (4, .int x4), (5, .int 1)], [.long 1, .int ((24 * x3) + x4), .ref 88])) rfl ?_
                  have v16 : vp_in ((24 * x3) + x4) 192 := fun q => by rw [if_pos q] at H; cases H
                  rw [if_neg v16] at H
                  refine Ev.last rfl (by decide) xM.2.2.2.2.2.2.2.2.2.2.2.2.2.2.2 v16 ?_
                  refine Ev.go 4 (s' := ((pu h 88 (eJ 192 (vp_updL M.2.2 ((24 * x3) + x4).toNatClampNeg 1))), 105, [(0, .ref 73), (1, .int x1), (2, .int x2), (3, .int x3), (4, .int x4), (5, .int 1), (6, .int (x3 + 1))], [])) rfl ?_
                  refine Ev.live rfl (lv' := [(0, .ref 73), (1, .int x1), (2, .int x2), (3, .int x3), (4, .int x4), (5, .int 1), (6, .int (x3 + 1))]) rfl ?_
                  refine ((ih (pu h 88 (eJ 192 (vp_updL M.2.2 ((24 * x3) + x4).toNatClampNeg 1))) x1 x2 x3 x4 1 (x3 + 1) (M.1, M.2.1, vp_updL M.2.2 ((24 * x3) + x4).toNatClampNeg 1) _).2.2 H ⟨(pu_n (by decide) xM.1), (pu_n (by decide) xM.2.1), (pu_n (by decide) xM.2.2.1), (pu_n (by decide) xM.2.2.2.1), (pu_n (by decide) xM.2.2.2.2.1), (pu_n (by decide) xM.2.2.2.2.2.1), (pu_n (by decide) xM.2.2.2.2.2.2.1), (pu_n (by decide) xM.2.2.2.2.2.2.2.1), (pu_n (by decide) xM.2.2.2.2.2.2.2.2.1), (pu_n (by decide) xM.2.2.2.2.2.2.2.2.2.1), (pu_n (by decide) xM.2.2.2.2.2.2.2.2.2.2.1), (pu_n (by decide) xM.2.2.2.2.2.2.2.2.2.2.2.1), (pu_n (by decide) xM.2.2.2.2.2.2.2.2.2.2.2.2.1), (pu_n (by decide) xM.2.2.2.2.2.2.2.2.2.2.2.2.2.1), (pu_n (by decide) xM.2.2.2.2.2.2.2.2.2.2.2.2.2.2.1), pu_s⟩).mono (fun r h9 q9 => ?_)
                  obtain ⟨q9r, q9_0, q9f⟩ := q9
                  exact ⟨q9r, q9_0, fun k hk => (q9f k hk).trans (by rw [pu_x (show k ≠ 88 from fun e => by have := hk; simp at this; omega)])⟩
              · have c15 : ¬ (¬ x3 = x1) := c15
                rw [if_neg c15] at H
                refine Ev.go 2 (s' := (h, 68, [(0, .ref 73), (1, .int x1), (2, .int x2), (3, .int x3), (4, .int x4)], [.int x2, .int x4])) rfl ?_
                refine Ev.if2 rfl (fun c17 => ?_) (fun c17 => ?_)
                · have c17 : ¬ x4 = x2 := c17
                  rw [if_pos c17] at H
                  refine Ev.go 3 (s' := (h, 79, [(0, .ref 73), (1, .int x1), (2, .int x2), (3, .int x3), (4, .int x4), (5, .int 0)], [.ref 73])) rfl ?_
                  refine Ev.get rfl (by decide) xM.1 rfl ?_
                  refine Ev.go 6 (s' := (h, 91, [(0, .ref 73), (1, .int x1), (2, .int x2), (3, .int x3), (4, .int x4), (5, .int 0)], [.int 0, .int ((24 * x3) + x4), .ref 88])) rfl ?_
                  refine Ev.if1 rfl (fun c => ?_) (fun c => ?_)
                  · refine Ev.go 1 (s' := (h, 99, [(0, .ref 73), (1, .int x1), (2, .int x2), (3, .int x3), (4, .int x4), (5, .int 0)], [.long 0, .int ((24 * x3) + x4), .ref 88])) rfl ?_
                    have v18 : vp_in ((24 * x3) + x4) 192 := fun q => by rw [if_pos q] at H; cases H
                    rw [if_neg v18] at H
                    refine Ev.last rfl (by decide) xM.2.2.2.2.2.2.2.2.2.2.2.2.2.2.2 v18 ?_
                    refine Ev.go 4 (s' := ((pu h 88 (eJ 192 (vp_updL M.2.2 ((24 * x3) + x4).toNatClampNeg 0))), 105, [(0, .ref 73), (1, .int x1), (2, .int x2), (3, .int x3), (4, .int x4), (5, .int 0), (6, .int (x3 + 1))], [])) rfl ?_
                    refine Ev.live rfl (lv' := [(0, .ref 73), (1, .int x1), (2, .int x2), (3, .int x3), (4, .int x4), (5, .int 0), (6, .int (x3 + 1))]) rfl ?_
                    refine ((ih (pu h 88 (eJ 192 (vp_updL M.2.2 ((24 * x3) + x4).toNatClampNeg 0))) x1 x2 x3 x4 0 (x3 + 1) (M.1, M.2.1, vp_updL M.2.2 ((24 * x3) + x4).toNatClampNeg 0) _).2.2 H ⟨(pu_n (by decide) xM.1), (pu_n (by decide) xM.2.1), (pu_n (by decide) xM.2.2.1), (pu_n (by decide) xM.2.2.2.1), (pu_n (by decide) xM.2.2.2.2.1), (pu_n (by decide) xM.2.2.2.2.2.1), (pu_n (by decide) xM.2.2.2.2.2.2.1), (pu_n (by decide) xM.2.2.2.2.2.2.2.1), (pu_n (by decide) xM.2.2.2.2.2.2.2.2.1), (pu_n (by decide) xM.2.2.2.2.2.2.2.2.2.1), (pu_n (by decide) xM.2.2.2.2.2.2.2.2.2.2.1), (pu_n (by decide) xM.2.2.2.2.2.2.2.2.2.2.2.1), (pu_n (by decide) xM.2.2.2.2.2.2.2.2.2.2.2.2.1), (pu_n (by decide) xM.2.2.2.2.2.2.2.2.2.2.2.2.2.1), (pu_n (by decide) xM.2.2.2.2.2.2.2.2.2.2.2.2.2.2.1), pu_s⟩).mono (fun r h9 q9 => ?_)
                    obtain ⟨q9r, q9_0, q9f⟩ := q9
                    exact ⟨q9r, q9_0, fun k hk => (q9f k hk).trans (by rw [pu_x (show k ≠ 88 from fun e => by have := hk; simp at this; omega)])⟩
                  · exact absurd (show (0 : Int32) = 0 by decide) c
                · have c17 : ¬ (¬ x4 = x2) := c17
                  rw [if_neg c17] at H
                  refine Ev.go 4 (s' := (h, 79, [(0, .ref 73), (1, .int x1), (2, .int x2), (3, .int x3), (4, .int x4), (5, .int 1)], [.ref 73])) rfl ?_
                  refine Ev.get rfl (by decide) xM.1 rfl ?_
                  refine Ev.go 6 (s' := (h, 91, [(0, .ref 73), (1, .int x1), (2, .int x2), (3, .int x3), (4, .int x4), (5, .int 1)], [.int 1, .int ((24 * x3) + x4), .ref 88])) rfl ?_
                  refine Ev.if1 rfl (fun c => ?_) (fun c => ?_)
                  · exact absurd (show (1 : Int32) = 0 from c) (by decide)
                  · refine Ev.go 2 (s' := (h, 99, [(0, .ref 73), (1, .int x1), (2, .int x2), (3, .int x3), (4, .int x4), (5, .int 1)], [.long 1, .int ((24 * x3) + x4), .ref 88])) rfl ?_
                    have v19 : vp_in ((24 * x3) + x4) 192 := fun q => by rw [if_pos q] at H; cases H
                    rw [if_neg v19] at H
                    refine Ev.last rfl (by decide) xM.2.2.2.2.2.2.2.2.2.2.2.2.2.2.2 v19 ?_
                    refine Ev.go 4 (s' := ((pu h 88 (eJ 192 (vp_updL M.2.2 ((24 * x3) + x4).toNatClampNeg 1))), 105, [(0, .ref 73), (1, .int x1), (2, .int x2), (3, .int x3), (4, .int x4), (5, .int 1), (6, .int (x3 + 1))], [])) rfl ?_
                    refine Ev.live rfl (lv' := [(0, .ref 73), (1, .int x1), (2, .int x2), (3, .int x3), (4, .int x4), (5, .int 1), (6, .int (x3 + 1))]) rfl ?_
                    refine ((ih (pu h 88 (eJ 192 (vp_updL M.2.2 ((24 * x3) + x4).toNatClampNeg 1))) x1 x2 x3 x4 1 (x3 + 1) (M.1, M.2.1, vp_updL M.2.2 ((24 * x3) + x4).toNatClampNeg 1) _).2.2 H ⟨(pu_n (by decide) xM.1), (pu_n (by decide) xM.2.1), (pu_n (by decide) xM.2.2.1), (pu_n (by decide) xM.2.2.2.1), (pu_n (by decide) xM.2.2.2.2.1), (pu_n (by decide) xM.2.2.2.2.2.1), (pu_n (by decide) xM.2.2.2.2.2.2.1), (pu_n (by decide) xM.2.2.2.2.2.2.2.1), (pu_n (by decide) xM.2.2.2.2.2.2.2.2.1), (pu_n (by decide) xM.2.2.2.2.2.2.2.2.2.1), (pu_n (by decide) xM.2.2.2.2.2.2.2.2.2.2.1), (pu_n (by decide) xM.2.2.2.2.2.2.2.2.2.2.2.1), (pu_n (by decide) xM.2.2.2.2.2.2.2.2.2.2.2.2.1), (pu_n (by decide) xM.2.2.2.2.2.2.2.2.2.2.2.2.2.1), (pu_n (by decide) xM.2.2.2.2.2.2.2.2.2.2.2.2.2.2.1), pu_s⟩).mono (fun r h9 q9 => ?_)
                    obtain ⟨q9r, q9_0, q9f⟩ := q9
                    exact ⟨q9r, q9_0, fun k hk => (q9f k hk).trans (by rw [pu_x (show k ≠ 88 from fun e => by have := hk; simp at this; omega)])⟩
    · rw [lX10_waysBy_s105] at H
      refine Ev.go 2 (s' := (h, 108, [(0, .ref 73), (1, .int x1), (2, .int x2), (3, .int x3), (4, .int x4), (5, .int x5), (6, .int x6)], [.ref 73, .int x6])) rfl ?_
      refine Ev.get rfl (by decide) xM.1 rfl ?_
      refine Ev.if2 rfl (fun c20 => ?_) (fun c20 => ?_)
      · have c20 : (M.1 15) ≤ x6 := c20
        rw [if_pos c20] at H
        refine Ev.go 2 (s' := (h, 14, [(0, .ref 73), (1, .int x1), (2, .int x2), (3, .int x3), (4, .int (x4 + 1)), (5, .int x5), (6, .int x6)], [])) rfl ?_
        refine Ev.live rfl (lv' := [(0, .ref 73), (1, .int x1), (2, .int x2), (3, .int x3), (4, .int (x4 + 1))]) rfl ?_
        exact (ih h x1 x2 x3 (x4 + 1) 0 0 M _).2.1 H xM
      · have c20 : ¬ ((M.1 15) ≤ x6) := c20
        rw [if_neg c20] at H
        refine Ev.go 1 (s' := (h, 116, [(0, .ref 73), (1, .int x1), (2, .int x2), (3, .int x3), (4, .int x4), (5, .int x5), (6, .int x6)], [.int x5])) rfl ?_
        refine Ev.if1 rfl (fun c21 => ?_) (fun c21 => ?_)
        · have c21 : x5 = 0 := c21
          rw [if_pos c21] at H
          refine Ev.go 2 (s' := (h, 14, [(0, .ref 73), (1, .int x1), (2, .int x2), (3, .int x3), (4, .int (x4 + 1)), (5, .int x5), (6, .int x6)], [])) rfl ?_
          refine Ev.live rfl (lv' := [(0, .ref 73), (1, .int x1), (2, .int x2), (3, .int x3), (4, .int (x4 + 1))]) rfl ?_
          exact (ih h x1 x2 x3 (x4 + 1) 0 0 M _).2.1 H xM
        · have c21 : ¬ (x5 = 0) := c21
          rw [if_neg c21] at H
          refine Ev.go 1 (s' := (h, 120, [(0, .ref 73), (1, .int x1), (2, .int x2), (3, .int x3), (4, .int x4), (5, .int x5), (6, .int x6)], [.ref 73])) rfl ?_
          refine Ev.get rfl (by decide) xM.1 rfl ?_
          refine Ev.go 1 (s' := (h, 125, [(0, .ref 73), (1, .int x1), (2, .int x2), (3, .int x3), (4, .int x4), (5, .int x5), (6, .int x6)], [.int x6, .ref 82])) rfl ?_
          have v22 : vp_in x6 8 := fun q => by rw [if_pos q] at H; cases H
          rw [if_neg v22] at H
          refine Ev.iald rfl (by decide) xM.2.2.2.2.2.2.2.2.2.1 v22 ?_
          refine Ev.go 1 (s' := (h, 127, [(0, .ref 73), (1, .int x1), (2, .int x2), (3, .int x3), (4, .int x4), (5, .int x5), (6, .int x6)], [.int x3, .int ((M.2.1 18) x6.toNatClampNeg)])) rfl ?_
          refine Ev.if2 rfl (fun c23 => ?_) (fun c23 => ?_)
          · have c23 : ¬ ((M.2.1 18) x6.toNatClampNeg) = x3 := c23
            rw [if_pos c23] at H
            refine Ev.go 2 (s' := (h, 105, [(0, .ref 73), (1, .int x1), (2, .int x2), (3, .int x3), (4, .int x4), (5, .int x5), (6, .int (x6 + 1))], [])) rfl ?_
            refine Ev.live rfl (lv' := [(0, .ref 73), (1, .int x1), (2, .int x2), (3, .int x3), (4, .int x4), (5, .int x5), (6, .int (x6 + 1))]) rfl ?_
            exact (ih h x1 x2 x3 x4 x5 (x6 + 1) M _).2.2 H xM
          · have c23 : ¬ (¬ ((M.2.1 18) x6.toNatClampNeg) = x3) := c23
            rw [if_neg c23] at H
            refine Ev.go 1 (s' := (h, 131, [(0, .ref 73), (1, .int x1), (2, .int x2), (3, .int x3), (4, .int x4), (5, .int x5), (6, .int x6)], [.ref 73])) rfl ?_
            refine Ev.get rfl (by decide) xM.1 rfl ?_
            refine Ev.go 6 (s' := (h, 142, [(0, .ref 73), (1, .int x1), (2, .int x2), (3, .int x3), (4, .int x4), (5, .int x5), (6, .int x6)], [.int ((24 * x3) + x4), .ref 88, .int ((24 * x3) + x4), .ref 88])) rfl ?_
            have v24 : vp_in ((24 * x3) + x4) 192 := fun q => by rw [if_pos q] at H; cases H
            rw [if_neg v24] at H
            refine Ev.lald rfl (by decide) xM.2.2.2.2.2.2.2.2.2.2.2.2.2.2.2 v24 ?_
            refine Ev.go 3 (s' := (h, 148, [(0, .ref 73), (1, .int x1), (2, .int x2), (3, .int x3), (4, .int x4), (5, .int x5), (6, .int x6)], [.int x4, .int x6, .ref 73, .long (M.2.2 ((24 * x3) + x4).toNatClampNeg), .int ((24 * x3) + x4), .ref 88])) rfl ?_
            obtain ⟨y26, e25, H⟩ := Option.bind_eq_some_iff.mp H
            refine Ev.callE rfl rfl rfl (p_argsV (by decide) xM.1 (Nat.le_of_ble_eq_true rfl)) rfl (Nat.le_of_ble_eq_true rfl) (spX10_sumOf xM x6 x4 e25) ?_
            refine Ev.go 1 (s' := (h, 152, [(0, .ref 73), (1, .int x1), (2, .int x2), (3, .int x3), (4, .int x4), (5, .int x5), (6, .int x6)], [.long ((M.2.2 ((24 * x3) + x4).toNatClampNeg) * y26), .int ((24 * x3) + x4), .ref 88])) rfl ?_
            refine Ev.last rfl (by decide) xM.2.2.2.2.2.2.2.2.2.2.2.2.2.2.2 v24 ?_
            refine Ev.go 2 (s' := ((pu h 88 (eJ 192 (vp_updL M.2.2 ((24 * x3) + x4).toNatClampNeg ((M.2.2 ((24 * x3) + x4).toNatClampNeg) * y26)))), 105, [(0, .ref 73), (1, .int x1), (2, .int x2), (3, .int x3), (4, .int x4), (5, .int x5), (6, .int (x6 + 1))], [])) rfl ?_
            refine Ev.live rfl (lv' := [(0, .ref 73), (1, .int x1), (2, .int x2), (3, .int x3), (4, .int x4), (5, .int x5), (6, .int (x6 + 1))]) rfl ?_
            refine ((ih (pu h 88 (eJ 192 (vp_updL M.2.2 ((24 * x3) + x4).toNatClampNeg ((M.2.2 ((24 * x3) + x4).toNatClampNeg) * y26)))) x1 x2 x3 x4 x5 (x6 + 1) (M.1, M.2.1, vp_updL M.2.2 ((24 * x3) + x4).toNatClampNeg ((M.2.2 ((24 * x3) + x4).toNatClampNeg) * y26)) _).2.2 H ⟨(pu_n (by decide) xM.1), (pu_n (by decide) xM.2.1), (pu_n (by decide) xM.2.2.1), (pu_n (by decide) xM.2.2.2.1), (pu_n (by decide) xM.2.2.2.2.1), (pu_n (by decide) xM.2.2.2.2.2.1), (pu_n (by decide) xM.2.2.2.2.2.2.1), (pu_n (by decide) xM.2.2.2.2.2.2.2.1), (pu_n (by decide) xM.2.2.2.2.2.2.2.2.1), (pu_n (by decide) xM.2.2.2.2.2.2.2.2.2.1), (pu_n (by decide) xM.2.2.2.2.2.2.2.2.2.2.1), (pu_n (by decide) xM.2.2.2.2.2.2.2.2.2.2.2.1), (pu_n (by decide) xM.2.2.2.2.2.2.2.2.2.2.2.2.1), (pu_n (by decide) xM.2.2.2.2.2.2.2.2.2.2.2.2.2.1), (pu_n (by decide) xM.2.2.2.2.2.2.2.2.2.2.2.2.2.2.1), pu_s⟩).mono (fun r h9 q9 => ?_)
            obtain ⟨q9r, q9_0, q9f⟩ := q9
            exact ⟨q9r, q9_0, fun k hk => (q9f k hk).trans (by rw [pu_x (show k ≠ 88 from fun e => by have := hk; simp at this; omega)])⟩
def fX10_waysBy (n : Nat) (M : tM) (step : Int32) (node : Int32) : Option (Int64 × tM) := lX10_waysBy n n 7 step node ((M.1 15) - 1) 0 0 0 M
theorem spX10_waysBy {d n : Nat} {h : pH} {M : tM} (xM : isM h M) (step : Int32) (node : Int32) {res : Int64 × tM} (H : fX10_waysBy n M step node = some res) : Ev (d + 4) mX10_waysBy (h, 0, [(0, .ref 73), (1, .int step), (2, .int node)], []) (fun r h1 => r = some (.long res.1) ∧ isM h1 res.2 ∧ fr [(73, 89)] h h1) := by
  unfold fX10_waysBy at H
  refine Ev.go 1 (s' := (h, 1, [(0, .ref 73), (1, .int step), (2, .int node)], [.ref 73])) rfl ?_
  refine Ev.get rfl (by decide) xM.1 rfl ?_
  refine Ev.go 3 (s' := (h, 7, [(0, .ref 73), (1, .int step), (2, .int node), (3, .int ((M.1 15) - 1))], [])) rfl ?_
  refine Ev.live rfl (lv' := [(0, .ref 73), (1, .int step), (2, .int node), (3, .int ((M.1 15) - 1))]) rfl ?_
  exact (llX10_waysBy n h step node ((M.1 15) - 1) 0 0 0 M _).1 H xM
def fX10_matches (n : Nat) (M : tM) : Option (Int64 × tM) := (if ¬ (M.1 15) = 0 then ((fX10_waysBy n M (-4) (-4)).bind fun y3 => some (y3.1, y3.2)) else some ((-2), M))
theorem spX10_matches {d n : Nat} {h : pH} {M : tM} (xM : isM h M) {res : Int64 × tM} (H : fX10_matches n M = some res) : Ev (d + 5) mX10_matches (h, 0, [(0, .ref 73)], []) (fun r h1 => r = some (.long res.1) ∧ isM h1 res.2 ∧ fr [(73, 89)] h h1) := by
  unfold fX10_matches at H
  refine Ev.go 1 (s' := (h, 1, [(0, .ref 73)], [.ref 73])) rfl ?_
  refine Ev.get rfl (by decide) xM.1 rfl ?_
  refine Ev.if1 rfl (fun c1 => ?_) (fun c1 => ?_)
  · have c1 : ¬ (M.1 15) = 0 := c1
    rw [if_pos c1] at H
    refine Ev.go 3 (s' := (h, 18, [(0, .ref 73)], [.int ((-4)), .int ((-4)), .ref 73])) rfl ?_
    obtain ⟨y3, e2, H⟩ := Option.bind_eq_some_iff.mp H
    refine Ev.call rfl rfl rfl (p_argsV (by decide) xM.1 (Nat.le_of_ble_eq_true rfl)) rfl (Nat.le_of_ble_eq_true rfl) ((spX10_waysBy xM (-4) (-4) e2).mono (fun r h4 q5 => ?_))
    obtain ⟨rfl, q5_M, q5_f⟩ := q5
    have H := Option.some.inj H
    subst H
    exact Ev.ret rfl rfl rfl ⟨rfl, q5_M, (fun k hk => by rw [q5_f k (by have := hk; simp at this ⊢; omega)])⟩
  · have c1 : ¬ (¬ (M.1 15) = 0) := c1
    rw [if_neg c1] at H
    refine Ev.go 2 (s' := (h, 21, [(0, .ref 73)], [.long ((-2))])) rfl ?_
    have H := Option.some.inj H
    subst H
    exact Ev.ret rfl rfl rfl ⟨rfl, xM, (fun k _ => rfl)⟩
def fX10_puts (n : Nat) (M : tM) (q : Int32) (v : Int32) : Option (Int64 × tM) := ((fX10_isStep M q).bind fun y2 => (if y2 = 0 then some ((-1), M) else (if (fX10_isNode M v) = 0 then some ((-1), M) else ((fX10_waysBy n M q v).bind fun y6 => some (y6.1, y6.2)))))
theorem spX10_puts {d n : Nat} {h : pH} {M : tM} (xM : isM h M) (q : Int32) (v : Int32) {res : Int64 × tM} (H : fX10_puts n M q v = some res) : Ev (d + 5) mX10_puts (h, 0, [(0, .ref 73), (1, .int q), (2, .int v)], []) (fun r h1 => r = some (.long res.1) ∧ isM h1 res.2 ∧ fr [(73, 89)] h h1) := by
  unfold fX10_puts at H
  refine Ev.go 2 (s' := (h, 2, [(0, .ref 73), (1, .int q), (2, .int v)], [.int q, .ref 73])) rfl ?_
  obtain ⟨y2, e1, H⟩ := Option.bind_eq_some_iff.mp H
  refine Ev.callE rfl rfl rfl (p_argsV (by decide) xM.1 (Nat.le_of_ble_eq_true rfl)) rfl (Nat.le_of_ble_eq_true rfl) (spX10_isStep xM q e1) ?_
  refine Ev.if1 rfl (fun c3 => ?_) (fun c3 => ?_)
  · have c3 : y2 = 0 := c3
    rw [if_pos c3] at H
    refine Ev.go 1 (s' := (h, 28, [(0, .ref 73), (1, .int q), (2, .int v)], [.long ((-1))])) rfl ?_
    have H := Option.some.inj H
    subst H
    exact Ev.ret rfl rfl rfl ⟨rfl, xM, (fun k _ => rfl)⟩
  · have c3 : ¬ (y2 = 0) := c3
    rw [if_neg c3] at H
    refine Ev.go 2 (s' := (h, 10, [(0, .ref 73), (1, .int q), (2, .int v)], [.int v, .ref 73])) rfl ?_
    refine Ev.callE rfl rfl rfl (p_argsV (by decide) xM.1 (Nat.le_of_ble_eq_true rfl)) rfl (Nat.le_of_ble_eq_true rfl) (spX10_isNode xM v) ?_
    refine Ev.if1 rfl (fun c4 => ?_) (fun c4 => ?_)
    · have c4 : (fX10_isNode M v) = 0 := c4
      rw [if_pos c4] at H
      refine Ev.go 1 (s' := (h, 28, [(0, .ref 73), (1, .int q), (2, .int v)], [.long ((-1))])) rfl ?_
      have H := Option.some.inj H
      subst H
      exact Ev.ret rfl rfl rfl ⟨rfl, xM, (fun k _ => rfl)⟩
    · have c4 : ¬ ((fX10_isNode M v) = 0) := c4
      rw [if_neg c4] at H
      refine Ev.go 3 (s' := (h, 19, [(0, .ref 73), (1, .int q), (2, .int v)], [.int v, .int q, .ref 73])) rfl ?_
      obtain ⟨y6, e5, H⟩ := Option.bind_eq_some_iff.mp H
      refine Ev.call rfl rfl rfl (p_argsV (by decide) xM.1 (Nat.le_of_ble_eq_true rfl)) rfl (Nat.le_of_ble_eq_true rfl) ((spX10_waysBy xM q v e5).mono (fun r h7 q8 => ?_))
      obtain ⟨rfl, q8_M, q8_f⟩ := q8
      refine Ev.go 1 (s' := (h7, 28, [(0, .ref 73), (1, .int q), (2, .int v)], [.long y6.1])) rfl ?_
      have H := Option.some.inj H
      subst H
      exact Ev.ret rfl rfl rfl ⟨rfl, q8_M, (fun k hk => by rw [q8_f k (by have := hk; simp at this ⊢; omega)])⟩
def lX10_usefulSet_4 (n : Nat) : Nat → Int32 → Int32 → Int32 → tM → Option (Int32 × tM)
  | 0, _, _, _, _ => none
  | m + 1, x1, x2, x3, M => (if 24 ≤ x3 then some (x2, M) else (if (fX10_has (M.1 0) x3) = 0 then lX10_usefulSet_4 n m x1 (x2 ||| 0) (x3 + 1) M else ((fX10_waysBy n M x1 x3).bind fun y4 => (if (lg_cmp y4.1 0) ≤ 0 then lX10_usefulSet_4 n m x1 (x2 ||| 0) (x3 + 1) y4.2 else lX10_usefulSet_4 n m x1 (x2 ||| (1 <<< (x3 &&& 31))) (x3 + 1) y4.2))))
theorem llX10_usefulSet_4 {d n : Nat} : ∀ (m : Nat) (h : pH) (x1 : Int32) (x2 : Int32) (x3 : Int32) (M : tM) (res : Int32 × tM), lX10_usefulSet_4 n m x1 x2 x3 M = some res → isM h M → Ev (d + 5) mX10_usefulSet (h, 4, [(0, .ref 73), (1, .int x1), (2, .int x2), (3, .int x3)], []) (fun r h1 => r = some (.int res.1) ∧ isM h1 res.2 ∧ fr [(73, 89)] h h1)
  | 0, h, x1, x2, x3, M, res, H, _ => by cases H
  | m + 1, h, x1, x2, x3, M, res, H, xM => by
    have H : (if 24 ≤ x3 then some (x2, M) else (if (fX10_has (M.1 0) x3) = 0 then lX10_usefulSet_4 n m x1 (x2 ||| 0) (x3 + 1) M else ((fX10_waysBy n M x1 x3).bind fun y4 => (if (lg_cmp y4.1 0) ≤ 0 then lX10_usefulSet_4 n m x1 (x2 ||| 0) (x3 + 1) y4.2 else lX10_usefulSet_4 n m x1 (x2 ||| (1 <<< (x3 &&& 31))) (x3 + 1) y4.2)))) = some res := H
    refine Ev.go 2 (s' := (h, 7, [(0, .ref 73), (1, .int x1), (2, .int x2), (3, .int x3)], [.int 24, .int x3])) rfl ?_
    refine Ev.if2 rfl (fun c1 => ?_) (fun c1 => ?_)
    · have c1 : 24 ≤ x3 := c1
      rw [if_pos c1] at H
      refine Ev.go 1 (s' := (h, 49, [(0, .ref 73), (1, .int x1), (2, .int x2), (3, .int x3)], [.int x2])) rfl ?_
      have H := Option.some.inj H
      subst H
      exact Ev.ret rfl rfl (p_retZ rfl) ⟨rfl, xM, (fun k _ => rfl)⟩
    · have c1 : ¬ (24 ≤ x3) := c1
      rw [if_neg c1] at H
      refine Ev.go 2 (s' := (h, 12, [(0, .ref 73), (1, .int x1), (2, .int x2), (3, .int x3)], [.ref 73, .int x2])) rfl ?_
      refine Ev.get rfl (by decide) xM.1 rfl ?_
      refine Ev.go 1 (s' := (h, 16, [(0, .ref 73), (1, .int x1), (2, .int x2), (3, .int x3)], [.int x3, .int (M.1 0), .int x2])) rfl ?_
      refine Ev.callE rfl rfl rfl rfl rfl (Nat.le_of_ble_eq_true rfl) (spX10_has  (M.1 0) x3) ?_
      refine Ev.if1 rfl (fun c2 => ?_) (fun c2 => ?_)
      · have c2 : (fX10_has (M.1 0) x3) = 0 := c2
        rw [if_pos c2] at H
        refine Ev.go 5 (s' := (h, 4, [(0, .ref 73), (1, .int x1), (2, .int (x2 ||| 0)), (3, .int (x3 + 1))], [])) rfl ?_
        refine Ev.live rfl (lv' := [(0, .ref 73), (1, .int x1), (2, .int (x2 ||| 0)), (3, .int (x3 + 1))]) rfl ?_
        exact llX10_usefulSet_4 m h x1 (x2 ||| 0) (x3 + 1) M _ H xM
      · have c2 : ¬ ((fX10_has (M.1 0) x3) = 0) := c2
        rw [if_neg c2] at H
        refine Ev.go 3 (s' := (h, 25, [(0, .ref 73), (1, .int x1), (2, .int x2), (3, .int x3)], [.int x3, .int x1, .ref 73, .int x2])) rfl ?_
        obtain ⟨y4, e3, H⟩ := Option.bind_eq_some_iff.mp H
        refine Ev.call rfl rfl rfl (p_argsV (by decide) xM.1 (Nat.le_of_ble_eq_true rfl)) rfl (Nat.le_of_ble_eq_true rfl) ((spX10_waysBy xM x1 x3 e3).mono (fun r h5 q6 => ?_))
        obtain ⟨rfl, q6_M, q6_f⟩ := q6
        refine Ev.go 2 (s' := (h5, 30, [(0, .ref 73), (1, .int x1), (2, .int x2), (3, .int x3)], [.int (lg_cmp y4.1 0), .int x2])) rfl ?_
        refine Ev.if1 rfl (fun c7 => ?_) (fun c7 => ?_)
        · have c7 : (lg_cmp y4.1 0) ≤ 0 := c7
          rw [if_pos c7] at H
          refine Ev.go 5 (s' := (h5, 4, [(0, .ref 73), (1, .int x1), (2, .int (x2 ||| 0)), (3, .int (x3 + 1))], [])) rfl ?_
          refine Ev.live rfl (lv' := [(0, .ref 73), (1, .int x1), (2, .int (x2 ||| 0)), (3, .int (x3 + 1))]) rfl ?_
          refine (llX10_usefulSet_4 m h5 x1 (x2 ||| 0) (x3 + 1) y4.2 _ H q6_M).mono (fun r h9 q9 => ?_)
          obtain ⟨q9r, q9_0, q9f⟩ := q9
          exact ⟨q9r, q9_0, fun k hk => (q9f k hk).trans (by rw [q6_f k (by have := hk; simp at this ⊢; omega)])⟩
        · have c7 : ¬ ((lg_cmp y4.1 0) ≤ 0) := c7
          rw [if_neg c7] at H
          refine Ev.go 8 (s' := (h5, 4, [(0, .ref 73), (1, .int x1), (2, .int (x2 ||| (1 <<< (x3 &&& 31)))), (3, .int (x3 + 1))], [])) rfl ?_
          refine Ev.live rfl (lv' := [(0, .ref 73), (1, .int x1), (2, .int (x2 ||| (1 <<< (x3 &&& 31)))), (3, .int (x3 + 1))]) rfl ?_
          refine (llX10_usefulSet_4 m h5 x1 (x2 ||| (1 <<< (x3 &&& 31))) (x3 + 1) y4.2 _ H q6_M).mono (fun r h9 q9 => ?_)
          obtain ⟨q9r, q9_0, q9f⟩ := q9
          exact ⟨q9r, q9_0, fun k hk => (q9f k hk).trans (by rw [q6_f k (by have := hk; simp at this ⊢; omega)])⟩
def fX10_usefulSet (n : Nat) (M : tM) (q : Int32) : Option (Int32 × tM) := lX10_usefulSet_4 n n q 0 0 M
theorem spX10_usefulSet {d n : Nat} {h : pH} {M : tM} (xM : isM h M) (q : Int32) {res : Int32 × tM} (H : fX10_usefulSet n M q = some res) : Ev (d + 5) mX10_usefulSet (h, 0, [(0, .ref 73), (1, .int q)], []) (fun r h1 => r = some (.int res.1) ∧ isM h1 res.2 ∧ fr [(73, 89)] h h1) := by
  unfold fX10_usefulSet at H
  refine Ev.go 4 (s' := (h, 4, [(0, .ref 73), (1, .int q), (2, .int 0), (3, .int 0)], [])) rfl ?_
  refine Ev.live rfl (lv' := [(0, .ref 73), (1, .int q), (2, .int 0), (3, .int 0)]) rfl ?_
  exact llX10_usefulSet_4 n h q 0 0 M _ H xM
def fX10_useful (n : Nat) (M : tM) (q : Int32) : Option (Int32 × tM) := ((fX10_isStep M q).bind fun y2 => (if y2 = 0 then some ((-1), M) else ((fX10_usefulSet n M q).bind fun y5 => some (y5.1, y5.2))))
theorem spX10_useful {d n : Nat} {h : pH} {M : tM} (xM : isM h M) (q : Int32) {res : Int32 × tM} (H : fX10_useful n M q = some res) : Ev (d + 6) mX10_useful (h, 0, [(0, .ref 73), (1, .int q)], []) (fun r h1 => r = some (.int res.1) ∧ isM h1 res.2 ∧ fr [(73, 89)] h h1) := by
  unfold fX10_useful at H
  refine Ev.go 2 (s' := (h, 2, [(0, .ref 73), (1, .int q)], [.int q, .ref 73])) rfl ?_
  obtain ⟨y2, e1, H⟩ := Option.bind_eq_some_iff.mp H
  refine Ev.callE rfl rfl rfl (p_argsV (by decide) xM.1 (Nat.le_of_ble_eq_true rfl)) rfl (Nat.le_of_ble_eq_true rfl) (spX10_isStep xM q e1) ?_
  refine Ev.if1 rfl (fun c3 => ?_) (fun c3 => ?_)
  · have c3 : y2 = 0 := c3
    rw [if_pos c3] at H
    refine Ev.go 1 (s' := (h, 17, [(0, .ref 73), (1, .int q)], [.int ((-1))])) rfl ?_
    have H := Option.some.inj H
    subst H
    exact Ev.ret rfl rfl (p_retZ rfl) ⟨rfl, xM, (fun k _ => rfl)⟩
  · have c3 : ¬ (y2 = 0) := c3
    rw [if_neg c3] at H
    refine Ev.go 2 (s' := (h, 10, [(0, .ref 73), (1, .int q)], [.int q, .ref 73])) rfl ?_
    obtain ⟨y5, e4, H⟩ := Option.bind_eq_some_iff.mp H
    refine Ev.call rfl rfl rfl (p_argsV (by decide) xM.1 (Nat.le_of_ble_eq_true rfl)) rfl (Nat.le_of_ble_eq_true rfl) ((spX10_usefulSet xM q e4).mono (fun r h6 q7 => ?_))
    obtain ⟨rfl, q7_M, q7_f⟩ := q7
    refine Ev.go 1 (s' := (h6, 17, [(0, .ref 73), (1, .int q)], [.int y5.1])) rfl ?_
    have H := Option.some.inj H
    subst H
    exact Ev.ret rfl rfl (p_retZ rfl) ⟨rfl, q7_M, (fun k hk => by rw [q7_f k (by have := hk; simp at this ⊢; omega)])⟩
def lX10_end_41 (n : Nat) : Nat → Int32 → Int32 → Int32 → tM → Option (Int32 × tM)
  | 0, _, _, _, _ => none
  | m + 1, x2, x3, x4, M => (if x4 = (-4) then some ((-4), M) else (if (fX10_has x2 x4) = 0 then ((fX10_behind n M x4).bind fun y13 => lX10_end_41 n m x2 x3 y13 M) else (if ¬ x3 = 0 then ((fX10_behind n M x4).bind fun y16 => lX10_end_41 n m x2 (x3 + (-1)) y16 M) else some (x4, M))))
theorem llX10_end_41 {d n : Nat} : ∀ (m : Nat) (h : pH) (x2 : Int32) (x3 : Int32) (x4 : Int32) (M : tM) (res : Int32 × tM), lX10_end_41 n m x2 x3 x4 M = some res → isM h M → Ev (d + 6) mX10_end (h, 41, [(0, .ref 73), (2, .int x2), (3, .int x3), (4, .int x4)], []) (fun r h1 => r = some (.int res.1) ∧ isM h1 res.2 ∧ fr [(73, 89)] h h1)
  | 0, h, x2, x3, x4, M, res, H, _ => by cases H
  | m + 1, h, x2, x3, x4, M, res, H, xM => by
    have H : (if x4 = (-4) then some ((-4), M) else (if (fX10_has x2 x4) = 0 then ((fX10_behind n M x4).bind fun y13 => lX10_end_41 n m x2 x3 y13 M) else (if ¬ x3 = 0 then ((fX10_behind n M x4).bind fun y16 => lX10_end_41 n m x2 (x3 + (-1)) y16 M) else some (x4, M)))) = some res := H
    refine Ev.go 2 (s' := (h, 45, [(0, .ref 73), (2, .int x2), (3, .int x3), (4, .int x4)], [.int ((-4)), .int x4])) rfl ?_
    refine Ev.if2 rfl (fun c10 => ?_) (fun c10 => ?_)
    · have c10 : x4 = (-4) := c10
      rw [if_pos c10] at H
      refine Ev.go 1 (s' := (h, 80, [(0, .ref 73), (2, .int x2), (3, .int x3), (4, .int x4)], [.int ((-4))])) rfl ?_
      have H := Option.some.inj H
      subst H
      exact Ev.ret rfl rfl (p_retZ rfl) ⟨rfl, xM, (fun k _ => rfl)⟩
    · have c10 : ¬ (x4 = (-4)) := c10
      rw [if_neg c10] at H
      refine Ev.go 2 (s' := (h, 51, [(0, .ref 73), (2, .int x2), (3, .int x3), (4, .int x4)], [.int x4, .int x2])) rfl ?_
      refine Ev.callE rfl rfl rfl rfl rfl (Nat.le_of_ble_eq_true rfl) (spX10_has  x2 x4) ?_
      refine Ev.if1 rfl (fun c11 => ?_) (fun c11 => ?_)
      · have c11 : (fX10_has x2 x4) = 0 := c11
        rw [if_pos c11] at H
        refine Ev.go 2 (s' := (h, 70, [(0, .ref 73), (2, .int x2), (3, .int x3), (4, .int x4)], [.int x4, .ref 73])) rfl ?_
        obtain ⟨y13, e12, H⟩ := Option.bind_eq_some_iff.mp H
        refine Ev.callE rfl rfl rfl (p_argsV (by decide) xM.1 (Nat.le_of_ble_eq_true rfl)) rfl (Nat.le_of_ble_eq_true rfl) (spX10_behind xM x4 e12) ?_
        refine Ev.go 2 (s' := (h, 41, [(0, .ref 73), (2, .int x2), (3, .int x3), (4, .int y13)], [])) rfl ?_
        refine Ev.live rfl (lv' := [(0, .ref 73), (2, .int x2), (3, .int x3), (4, .int y13)]) rfl ?_
        exact llX10_end_41 m h x2 x3 y13 M _ H xM
      · have c11 : ¬ ((fX10_has x2 x4) = 0) := c11
        rw [if_neg c11] at H
        refine Ev.go 1 (s' := (h, 58, [(0, .ref 73), (2, .int x2), (3, .int x3), (4, .int x4)], [.int x3])) rfl ?_
        refine Ev.if1 rfl (fun c14 => ?_) (fun c14 => ?_)
        · have c14 : ¬ x3 = 0 := c14
          rw [if_pos c14] at H
          refine Ev.go 3 (s' := (h, 70, [(0, .ref 73), (2, .int x2), (3, .int (x3 + (-1))), (4, .int x4)], [.int x4, .ref 73])) rfl ?_
          obtain ⟨y16, e15, H⟩ := Option.bind_eq_some_iff.mp H
          refine Ev.callE rfl rfl rfl (p_argsV (by decide) xM.1 (Nat.le_of_ble_eq_true rfl)) rfl (Nat.le_of_ble_eq_true rfl) (spX10_behind xM x4 e15) ?_
          refine Ev.go 2 (s' := (h, 41, [(0, .ref 73), (2, .int x2), (3, .int (x3 + (-1))), (4, .int y16)], [])) rfl ?_
          refine Ev.live rfl (lv' := [(0, .ref 73), (2, .int x2), (3, .int (x3 + (-1))), (4, .int y16)]) rfl ?_
          exact llX10_end_41 m h x2 (x3 + (-1)) y16 M _ H xM
        · have c14 : ¬ (¬ x3 = 0) := c14
          rw [if_neg c14] at H
          refine Ev.go 1 (s' := (h, 63, [(0, .ref 73), (2, .int x2), (3, .int x3), (4, .int x4)], [.int x4])) rfl ?_
          have H := Option.some.inj H
          subst H
          exact Ev.ret rfl rfl (p_retZ rfl) ⟨rfl, xM, (fun k _ => rfl)⟩
def fX10_end (n : Nat) (M : tM) (k : Int32) : Option (Int32 × tM) := (if (-1) ≤ k then (if ¬ (M.1 15) = 0 then ((fX10_usefulSet n M (M.1 16)).bind fun y4 => (if ¬ k = (-1) then lX10_end_41 n n y4.1 k 0 y4.2 else ((fX10_bits n y4.1).bind fun y9 => some (y9, y4.2)))) else some ((-2), M)) else some ((-1), M))
theorem spX10_end {d n : Nat} {h : pH} {M : tM} (xM : isM h M) (k : Int32) {res : Int32 × tM} (H : fX10_end n M k = some res) : Ev (d + 6) mX10_end (h, 0, [(0, .ref 73), (1, .int k)], []) (fun r h1 => r = some (.int res.1) ∧ isM h1 res.2 ∧ fr [(73, 89)] h h1) := by
  unfold fX10_end at H
  refine Ev.go 2 (s' := (h, 2, [(0, .ref 73), (1, .int k)], [.int ((-1)), .int k])) rfl ?_
  refine Ev.if2 rfl (fun c1 => ?_) (fun c1 => ?_)
  · have c1 : (-1) ≤ k := c1
    rw [if_pos c1] at H
    refine Ev.go 1 (s' := (h, 8, [(0, .ref 73), (1, .int k)], [.ref 73])) rfl ?_
    refine Ev.get rfl (by decide) xM.1 rfl ?_
    refine Ev.if1 rfl (fun c2 => ?_) (fun c2 => ?_)
    · have c2 : ¬ (M.1 15) = 0 := c2
      rw [if_pos c2] at H
      refine Ev.go 2 (s' := (h, 19, [(0, .ref 73), (1, .int k)], [.ref 73, .ref 73])) rfl ?_
      refine Ev.get rfl (by decide) xM.1 rfl ?_
      obtain ⟨y4, e3, H⟩ := Option.bind_eq_some_iff.mp H
      refine Ev.call rfl rfl rfl (p_argsV (by decide) xM.1 (Nat.le_of_ble_eq_true rfl)) rfl (Nat.le_of_ble_eq_true rfl) ((spX10_usefulSet xM (M.1 16) e3).mono (fun r h5 q6 => ?_))
      obtain ⟨rfl, q6_M, q6_f⟩ := q6
      refine Ev.go 3 (s' := (h5, 28, [(0, .ref 73), (1, .int k), (2, .int y4.1)], [.int ((-1)), .int k])) rfl ?_
      refine Ev.if2 rfl (fun c7 => ?_) (fun c7 => ?_)
      · have c7 : ¬ k = (-1) := c7
        rw [if_pos c7] at H
        refine Ev.go 4 (s' := (h5, 41, [(0, .ref 73), (1, .int k), (2, .int y4.1), (3, .int k), (4, .int 0)], [])) rfl ?_
        refine Ev.live rfl (lv' := [(0, .ref 73), (2, .int y4.1), (3, .int k), (4, .int 0)]) rfl ?_
        refine (llX10_end_41 n h5 y4.1 k 0 y4.2 _ H q6_M).mono (fun r h9 q9 => ?_)
        obtain ⟨q9r, q9_0, q9f⟩ := q9
        exact ⟨q9r, q9_0, fun k hk => (q9f k hk).trans (by rw [q6_f k (by have := hk; simp at this ⊢; omega)])⟩
      · have c7 : ¬ (¬ k = (-1)) := c7
        rw [if_neg c7] at H
        refine Ev.go 1 (s' := (h5, 32, [(0, .ref 73), (1, .int k), (2, .int y4.1)], [.int y4.1])) rfl ?_
        obtain ⟨y9, e8, H⟩ := Option.bind_eq_some_iff.mp H
        refine Ev.callE rfl rfl rfl rfl rfl (Nat.le_of_ble_eq_true rfl) (spX10_bits  y4.1 e8) ?_
        have H := Option.some.inj H
        subst H
        exact Ev.ret rfl rfl (p_retZ rfl) ⟨rfl, q6_M, (fun k hk => by rw [q6_f k (by have := hk; simp at this ⊢; omega)])⟩
    · have c2 : ¬ (¬ (M.1 15) = 0) := c2
      rw [if_neg c2] at H
      refine Ev.go 1 (s' := (h, 16, [(0, .ref 73), (1, .int k)], [.int ((-2))])) rfl ?_
      have H := Option.some.inj H
      subst H
      exact Ev.ret rfl rfl (p_retZ rfl) ⟨rfl, xM, (fun k _ => rfl)⟩
  · have c1 : ¬ ((-1) ≤ k) := c1
    rw [if_neg c1] at H
    refine Ev.go 1 (s' := (h, 6, [(0, .ref 73), (1, .int k)], [.int ((-1))])) rfl ?_
    have H := Option.some.inj H
    subst H
    exact Ev.ret rfl rfl (p_retZ rfl) ⟨rfl, xM, (fun k _ => rfl)⟩
def lX10_mostFigures_4 (n : Nat) (M : tM) : Nat → Int32 → Int32 → Option (Int32)
  | 0, _, _ => none
  | m + 1, x1, x2 => (if 24 ≤ x2 then some x1 else (if (fX10_has (M.1 0) x2) = 0 then (if 0 ≤ x1 then lX10_mostFigures_4 n M m x1 (x2 + 1) else lX10_mostFigures_4 n M m 0 (x2 + 1)) else (if x2 < 0 ∨ 24 ≤ x2.toNatClampNeg then none else ((fX10_figuresOf n ((M.2.1 5) x2.toNatClampNeg)).bind fun y6 => (if y6 ≤ x1 then lX10_mostFigures_4 n M m x1 (x2 + 1) else lX10_mostFigures_4 n M m y6 (x2 + 1))))))
theorem llX10_mostFigures_4 {d n : Nat} {M : tM} : ∀ (m : Nat) (h : pH) (x1 : Int32) (x2 : Int32) (res : Int32), lX10_mostFigures_4 n M m x1 x2 = some res → isM h M → Ev (d + 1) mX10_mostFigures (h, 4, [(0, .ref 73), (1, .int x1), (2, .int x2)], []) (fun r h1 => r = some (.int res) ∧ h1 = h)
  | 0, h, x1, x2, res, H, _ => by cases H
  | m + 1, h, x1, x2, res, H, xM => by
    have H : (if 24 ≤ x2 then some x1 else (if (fX10_has (M.1 0) x2) = 0 then (if 0 ≤ x1 then lX10_mostFigures_4 n M m x1 (x2 + 1) else lX10_mostFigures_4 n M m 0 (x2 + 1)) else (if x2 < 0 ∨ 24 ≤ x2.toNatClampNeg then none else ((fX10_figuresOf n ((M.2.1 5) x2.toNatClampNeg)).bind fun y6 => (if y6 ≤ x1 then lX10_mostFigures_4 n M m x1 (x2 + 1) else lX10_mostFigures_4 n M m y6 (x2 + 1)))))) = some res := H
    refine Ev.go 2 (s' := (h, 7, [(0, .ref 73), (1, .int x1), (2, .int x2)], [.int 24, .int x2])) rfl ?_
    refine Ev.if2 rfl (fun c1 => ?_) (fun c1 => ?_)
    · have c1 : 24 ≤ x2 := c1
      rw [if_pos c1] at H
      refine Ev.go 1 (s' := (h, 53, [(0, .ref 73), (1, .int x1), (2, .int x2)], [.int x1])) rfl ?_
      have H := Option.some.inj H
      subst H
      exact Ev.ret rfl rfl (p_retZ rfl) ⟨rfl, rfl⟩
    · have c1 : ¬ (24 ≤ x2) := c1
      rw [if_neg c1] at H
      refine Ev.go 1 (s' := (h, 11, [(0, .ref 73), (1, .int x1), (2, .int x2)], [.ref 73])) rfl ?_
      refine Ev.get rfl (by decide) xM.1 rfl ?_
      refine Ev.go 1 (s' := (h, 15, [(0, .ref 73), (1, .int x1), (2, .int x2)], [.int x2, .int (M.1 0)])) rfl ?_
      refine Ev.callE rfl rfl rfl rfl rfl (Nat.le_of_ble_eq_true rfl) (spX10_has  (M.1 0) x2) ?_
      refine Ev.if1 rfl (fun c2 => ?_) (fun c2 => ?_)
      · have c2 : (fX10_has (M.1 0) x2) = 0 := c2
        rw [if_pos c2] at H
        refine Ev.go 4 (s' := (h, 37, [(0, .ref 73), (1, .int x1), (2, .int x2), (3, .int 0)], [.int x1, .int 0])) rfl ?_
        refine Ev.if2 rfl (fun c3 => ?_) (fun c3 => ?_)
        · have c3 : 0 ≤ x1 := c3
          rw [if_pos c3] at H
          refine Ev.go 4 (s' := (h, 4, [(0, .ref 73), (1, .int x1), (2, .int (x2 + 1)), (3, .int 0)], [])) rfl ?_
          refine Ev.live rfl (lv' := [(0, .ref 73), (1, .int x1), (2, .int (x2 + 1))]) rfl ?_
          exact llX10_mostFigures_4 m h x1 (x2 + 1) _ H xM
        · have c3 : ¬ (0 ≤ x1) := c3
          rw [if_neg c3] at H
          refine Ev.go 5 (s' := (h, 4, [(0, .ref 73), (1, .int 0), (2, .int (x2 + 1)), (3, .int 0)], [])) rfl ?_
          refine Ev.live rfl (lv' := [(0, .ref 73), (1, .int 0), (2, .int (x2 + 1))]) rfl ?_
          exact llX10_mostFigures_4 m h 0 (x2 + 1) _ H xM
      · have c2 : ¬ ((fX10_has (M.1 0) x2) = 0) := c2
        rw [if_neg c2] at H
        refine Ev.go 1 (s' := (h, 22, [(0, .ref 73), (1, .int x1), (2, .int x2)], [.ref 73])) rfl ?_
        refine Ev.get rfl (by decide) xM.1 rfl ?_
        refine Ev.go 1 (s' := (h, 26, [(0, .ref 73), (1, .int x1), (2, .int x2)], [.int x2, .ref 76])) rfl ?_
        have v4 : vp_in x2 24 := fun q => by rw [if_pos q] at H; cases H
        rw [if_neg v4] at H
        refine Ev.iald rfl (by decide) xM.2.2.2.1 v4 ?_
        obtain ⟨y6, e5, H⟩ := Option.bind_eq_some_iff.mp H
        refine Ev.callE rfl rfl rfl rfl rfl (Nat.le_of_ble_eq_true rfl) (spX10_figuresOf  ((M.2.1 5) x2.toNatClampNeg) e5) ?_
        refine Ev.go 4 (s' := (h, 37, [(0, .ref 73), (1, .int x1), (2, .int x2), (3, .int y6)], [.int x1, .int y6])) rfl ?_
        refine Ev.if2 rfl (fun c7 => ?_) (fun c7 => ?_)
        · have c7 : y6 ≤ x1 := c7
          rw [if_pos c7] at H
          refine Ev.go 4 (s' := (h, 4, [(0, .ref 73), (1, .int x1), (2, .int (x2 + 1)), (3, .int y6)], [])) rfl ?_
          refine Ev.live rfl (lv' := [(0, .ref 73), (1, .int x1), (2, .int (x2 + 1))]) rfl ?_
          exact llX10_mostFigures_4 m h x1 (x2 + 1) _ H xM
        · have c7 : ¬ (y6 ≤ x1) := c7
          rw [if_neg c7] at H
          refine Ev.go 5 (s' := (h, 4, [(0, .ref 73), (1, .int y6), (2, .int (x2 + 1)), (3, .int y6)], [])) rfl ?_
          refine Ev.live rfl (lv' := [(0, .ref 73), (1, .int y6), (2, .int (x2 + 1))]) rfl ?_
          exact llX10_mostFigures_4 m h y6 (x2 + 1) _ H xM
def fX10_mostFigures (n : Nat) (M : tM) : Option (Int32) := lX10_mostFigures_4 n M n 0 1
theorem spX10_mostFigures {d n : Nat} {h : pH} {M : tM} (xM : isM h M) {res : Int32} (H : fX10_mostFigures n M = some res) : Ev (d + 1) mX10_mostFigures (h, 0, [(0, .ref 73)], []) (fun r h1 => r = some (.int res) ∧ h1 = h) := by
  unfold fX10_mostFigures at H
  refine Ev.go 4 (s' := (h, 4, [(0, .ref 73), (1, .int 0), (2, .int 1)], [])) rfl ?_
  refine Ev.live rfl (lv' := [(0, .ref 73), (1, .int 0), (2, .int 1)]) rfl ?_
  exact llX10_mostFigures_4 n h 0 1 _ H xM
def lX10_mostKeys_4 (n : Nat) (M : tM) : Nat → Int32 → Int32 → Option (Int32)
  | 0, _, _ => none
  | m + 1, x1, x2 => (if 24 ≤ x2 then some x1 else (if (fX10_has (M.1 0) x2) = 0 then (if 0 ≤ x1 then lX10_mostKeys_4 n M m x1 (x2 + 1) else lX10_mostKeys_4 n M m 0 (x2 + 1)) else ((fX10_deepOf n M x2).bind fun y5 => (if y5 ≤ x1 then lX10_mostKeys_4 n M m x1 (x2 + 1) else lX10_mostKeys_4 n M m y5 (x2 + 1)))))
theorem llX10_mostKeys_4 {d n : Nat} {M : tM} : ∀ (m : Nat) (h : pH) (x1 : Int32) (x2 : Int32) (res : Int32), lX10_mostKeys_4 n M m x1 x2 = some res → isM h M → Ev (d + 1) mX10_mostKeys (h, 4, [(0, .ref 73), (1, .int x1), (2, .int x2)], []) (fun r h1 => r = some (.int res) ∧ h1 = h)
  | 0, h, x1, x2, res, H, _ => by cases H
  | m + 1, h, x1, x2, res, H, xM => by
    have H : (if 24 ≤ x2 then some x1 else (if (fX10_has (M.1 0) x2) = 0 then (if 0 ≤ x1 then lX10_mostKeys_4 n M m x1 (x2 + 1) else lX10_mostKeys_4 n M m 0 (x2 + 1)) else ((fX10_deepOf n M x2).bind fun y5 => (if y5 ≤ x1 then lX10_mostKeys_4 n M m x1 (x2 + 1) else lX10_mostKeys_4 n M m y5 (x2 + 1))))) = some res := H
    refine Ev.go 2 (s' := (h, 7, [(0, .ref 73), (1, .int x1), (2, .int x2)], [.int 24, .int x2])) rfl ?_
    refine Ev.if2 rfl (fun c1 => ?_) (fun c1 => ?_)
    · have c1 : 24 ≤ x2 := c1
      rw [if_pos c1] at H
      refine Ev.go 1 (s' := (h, 49, [(0, .ref 73), (1, .int x1), (2, .int x2)], [.int x1])) rfl ?_
      have H := Option.some.inj H
      subst H
      exact Ev.ret rfl rfl (p_retZ rfl) ⟨rfl, rfl⟩
    · have c1 : ¬ (24 ≤ x2) := c1
      rw [if_neg c1] at H
      refine Ev.go 1 (s' := (h, 11, [(0, .ref 73), (1, .int x1), (2, .int x2)], [.ref 73])) rfl ?_
      refine Ev.get rfl (by decide) xM.1 rfl ?_
      refine Ev.go 1 (s' := (h, 15, [(0, .ref 73), (1, .int x1), (2, .int x2)], [.int x2, .int (M.1 0)])) rfl ?_
      refine Ev.callE rfl rfl rfl rfl rfl (Nat.le_of_ble_eq_true rfl) (spX10_has  (M.1 0) x2) ?_
      refine Ev.if1 rfl (fun c2 => ?_) (fun c2 => ?_)
      · have c2 : (fX10_has (M.1 0) x2) = 0 := c2
        rw [if_pos c2] at H
        refine Ev.go 4 (s' := (h, 33, [(0, .ref 73), (1, .int x1), (2, .int x2), (3, .int 0)], [.int x1, .int 0])) rfl ?_
        refine Ev.if2 rfl (fun c3 => ?_) (fun c3 => ?_)
        · have c3 : 0 ≤ x1 := c3
          rw [if_pos c3] at H
          refine Ev.go 4 (s' := (h, 4, [(0, .ref 73), (1, .int x1), (2, .int (x2 + 1)), (3, .int 0)], [])) rfl ?_
          refine Ev.live rfl (lv' := [(0, .ref 73), (1, .int x1), (2, .int (x2 + 1))]) rfl ?_
          exact llX10_mostKeys_4 m h x1 (x2 + 1) _ H xM
        · have c3 : ¬ (0 ≤ x1) := c3
          rw [if_neg c3] at H
          refine Ev.go 5 (s' := (h, 4, [(0, .ref 73), (1, .int 0), (2, .int (x2 + 1)), (3, .int 0)], [])) rfl ?_
          refine Ev.live rfl (lv' := [(0, .ref 73), (1, .int 0), (2, .int (x2 + 1))]) rfl ?_
          exact llX10_mostKeys_4 m h 0 (x2 + 1) _ H xM
      · have c2 : ¬ ((fX10_has (M.1 0) x2) = 0) := c2
        rw [if_neg c2] at H
        refine Ev.go 2 (s' := (h, 23, [(0, .ref 73), (1, .int x1), (2, .int x2)], [.int x2, .ref 73])) rfl ?_
        obtain ⟨y5, e4, H⟩ := Option.bind_eq_some_iff.mp H
        refine Ev.callE rfl rfl rfl (p_argsV (by decide) xM.1 (Nat.le_of_ble_eq_true rfl)) rfl (Nat.le_of_ble_eq_true rfl) (spX10_deepOf xM x2 e4) ?_
        refine Ev.go 4 (s' := (h, 33, [(0, .ref 73), (1, .int x1), (2, .int x2), (3, .int y5)], [.int x1, .int y5])) rfl ?_
        refine Ev.if2 rfl (fun c6 => ?_) (fun c6 => ?_)
        · have c6 : y5 ≤ x1 := c6
          rw [if_pos c6] at H
          refine Ev.go 4 (s' := (h, 4, [(0, .ref 73), (1, .int x1), (2, .int (x2 + 1)), (3, .int y5)], [])) rfl ?_
          refine Ev.live rfl (lv' := [(0, .ref 73), (1, .int x1), (2, .int (x2 + 1))]) rfl ?_
          exact llX10_mostKeys_4 m h x1 (x2 + 1) _ H xM
        · have c6 : ¬ (y5 ≤ x1) := c6
          rw [if_neg c6] at H
          refine Ev.go 5 (s' := (h, 4, [(0, .ref 73), (1, .int y5), (2, .int (x2 + 1)), (3, .int y5)], [])) rfl ?_
          refine Ev.live rfl (lv' := [(0, .ref 73), (1, .int y5), (2, .int (x2 + 1))]) rfl ?_
          exact llX10_mostKeys_4 m h y5 (x2 + 1) _ H xM
def fX10_mostKeys (n : Nat) (M : tM) : Option (Int32) := lX10_mostKeys_4 n M n 0 0
theorem spX10_mostKeys {d n : Nat} {h : pH} {M : tM} (xM : isM h M) {res : Int32} (H : fX10_mostKeys n M = some res) : Ev (d + 1) mX10_mostKeys (h, 0, [(0, .ref 73)], []) (fun r h1 => r = some (.int res) ∧ h1 = h) := by
  unfold fX10_mostKeys at H
  refine Ev.go 4 (s' := (h, 4, [(0, .ref 73), (1, .int 0), (2, .int 0)], [])) rfl ?_
  refine Ev.live rfl (lv' := [(0, .ref 73), (1, .int 0), (2, .int 0)]) rfl ?_
  exact llX10_mostKeys_4 n h 0 0 _ H xM
def fX10_count (n : Nat) (M : tM) (what : Int32) : Option (Int32) := (if ¬ (fX10_in what 0 8) = 0 then (if what = 0 then ((fX10_many n (M.1 0)).bind fun y4 => some y4) else (if what = 1 then some (M.1 1) else (if what = 2 then some (M.1 15) else (if what = 3 then ((fX10_mostFigures n M).bind fun y9 => some y9) else (if what = 4 then ((fX10_mostKeys n M).bind fun y12 => some y12) else (if what = 5 then some (M.1 2) else (if what = 6 then some (M.1 7) else (if what = 7 then some (M.1 9) else some (M.1 11))))))))) else some (-1))
theorem spX10_count {d n : Nat} {h : pH} {M : tM} (xM : isM h M) (what : Int32) {res : Int32} (H : fX10_count n M what = some res) : Ev (d + 2) mX10_count (h, 0, [(0, .ref 73), (1, .int what)], []) (fun r h1 => r = some (.int res) ∧ h1 = h) := by
  unfold fX10_count at H
  refine Ev.go 3 (s' := (h, 4, [(0, .ref 73), (1, .int what)], [.int 8, .int 0, .int what])) rfl ?_
  refine Ev.callE rfl rfl rfl rfl rfl (Nat.le_of_ble_eq_true rfl) (spX10_in  what 0 8) ?_
  refine Ev.if1 rfl (fun c1 => ?_) (fun c1 => ?_)
  · have c1 : ¬ (fX10_in what 0 8) = 0 := c1
    rw [if_pos c1] at H
    refine Ev.go 1 (s' := (h, 13, [(0, .ref 73), (1, .int what)], [.int what])) rfl ?_
    rcases Classical.em (what = 0) with c2 | c2
    · rw [if_pos c2] at H
      refine Ev.one (s' := (h, 60, [(0, .ref 73), (1, .int what)], [])) rfl rfl (by rw [c2]; rfl) ?_
      refine Ev.go 1 (s' := (h, 61, [(0, .ref 73), (1, .int what)], [.ref 73])) rfl ?_
      refine Ev.get rfl (by decide) xM.1 rfl ?_
      obtain ⟨y4, e3, H⟩ := Option.bind_eq_some_iff.mp H
      refine Ev.callE rfl rfl rfl rfl rfl (Nat.le_of_ble_eq_true rfl) (spX10_many  (M.1 0) e3) ?_
      have H := Option.some.inj H
      subst H
      exact Ev.ret rfl rfl (p_retZ rfl) ⟨rfl, rfl⟩
    · rw [if_neg c2] at H
      rcases Classical.em (what = 1) with c5 | c5
      · rw [if_pos c5] at H
        refine Ev.one (s' := (h, 68, [(0, .ref 73), (1, .int what)], [])) rfl rfl (by rw [c5]; rfl) ?_
        refine Ev.go 1 (s' := (h, 69, [(0, .ref 73), (1, .int what)], [.ref 73])) rfl ?_
        refine Ev.get rfl (by decide) xM.1 rfl ?_
        have H := Option.some.inj H
        subst H
        exact Ev.ret rfl rfl (p_retZ rfl) ⟨rfl, rfl⟩
      · rw [if_neg c5] at H
        rcases Classical.em (what = 2) with c6 | c6
        · rw [if_pos c6] at H
          refine Ev.one (s' := (h, 73, [(0, .ref 73), (1, .int what)], [])) rfl rfl (by rw [c6]; rfl) ?_
          refine Ev.go 1 (s' := (h, 74, [(0, .ref 73), (1, .int what)], [.ref 73])) rfl ?_
          refine Ev.get rfl (by decide) xM.1 rfl ?_
          have H := Option.some.inj H
          subst H
          exact Ev.ret rfl rfl (p_retZ rfl) ⟨rfl, rfl⟩
        · rw [if_neg c6] at H
          rcases Classical.em (what = 3) with c7 | c7
          · rw [if_pos c7] at H
            refine Ev.one (s' := (h, 78, [(0, .ref 73), (1, .int what)], [])) rfl rfl (by rw [c7]; rfl) ?_
            refine Ev.go 1 (s' := (h, 79, [(0, .ref 73), (1, .int what)], [.ref 73])) rfl ?_
            obtain ⟨y9, e8, H⟩ := Option.bind_eq_some_iff.mp H
            refine Ev.callE rfl rfl rfl (p_argsV (by decide) xM.1 (Nat.le_of_ble_eq_true rfl)) rfl (Nat.le_of_ble_eq_true rfl) (spX10_mostFigures xM  e8) ?_
            have H := Option.some.inj H
            subst H
            exact Ev.ret rfl rfl (p_retZ rfl) ⟨rfl, rfl⟩
          · rw [if_neg c7] at H
            rcases Classical.em (what = 4) with c10 | c10
            · rw [if_pos c10] at H
              refine Ev.one (s' := (h, 83, [(0, .ref 73), (1, .int what)], [])) rfl rfl (by rw [c10]; rfl) ?_
              refine Ev.go 1 (s' := (h, 84, [(0, .ref 73), (1, .int what)], [.ref 73])) rfl ?_
              obtain ⟨y12, e11, H⟩ := Option.bind_eq_some_iff.mp H
              refine Ev.callE rfl rfl rfl (p_argsV (by decide) xM.1 (Nat.le_of_ble_eq_true rfl)) rfl (Nat.le_of_ble_eq_true rfl) (spX10_mostKeys xM  e11) ?_
              have H := Option.some.inj H
              subst H
              exact Ev.ret rfl rfl (p_retZ rfl) ⟨rfl, rfl⟩
            · rw [if_neg c10] at H
              rcases Classical.em (what = 5) with c13 | c13
              · rw [if_pos c13] at H
                refine Ev.one (s' := (h, 88, [(0, .ref 73), (1, .int what)], [])) rfl rfl (by rw [c13]; rfl) ?_
                refine Ev.go 1 (s' := (h, 89, [(0, .ref 73), (1, .int what)], [.ref 73])) rfl ?_
                refine Ev.get rfl (by decide) xM.1 rfl ?_
                have H := Option.some.inj H
                subst H
                exact Ev.ret rfl rfl (p_retZ rfl) ⟨rfl, rfl⟩
              · rw [if_neg c13] at H
                rcases Classical.em (what = 6) with c14 | c14
                · rw [if_pos c14] at H
                  refine Ev.one (s' := (h, 93, [(0, .ref 73), (1, .int what)], [])) rfl rfl (by rw [c14]; rfl) ?_
                  refine Ev.go 1 (s' := (h, 94, [(0, .ref 73), (1, .int what)], [.ref 73])) rfl ?_
                  refine Ev.get rfl (by decide) xM.1 rfl ?_
                  have H := Option.some.inj H
                  subst H
                  exact Ev.ret rfl rfl (p_retZ rfl) ⟨rfl, rfl⟩
                · rw [if_neg c14] at H
                  rcases Classical.em (what = 7) with c15 | c15
                  · rw [if_pos c15] at H
                    refine Ev.one (s' := (h, 98, [(0, .ref 73), (1, .int what)], [])) rfl rfl (by rw [c15]; rfl) ?_
                    refine Ev.go 1 (s' := (h, 99, [(0, .ref 73), (1, .int what)], [.ref 73])) rfl ?_
                    refine Ev.get rfl (by decide) xM.1 rfl ?_
                    have H := Option.some.inj H
                    subst H
                    exact Ev.ret rfl rfl (p_retZ rfl) ⟨rfl, rfl⟩
                  · rw [if_neg c15] at H
                    refine Ev.one (s' := (h, 103, [(0, .ref 73), (1, .int what)], [])) rfl rfl (p_swt (p_sw_0_7 c2 c5 c6 c7 c10 c13 c14 c15)) ?_
                    refine Ev.go 1 (s' := (h, 104, [(0, .ref 73), (1, .int what)], [.ref 73])) rfl ?_
                    refine Ev.get rfl (by decide) xM.1 rfl ?_
                    have H := Option.some.inj H
                    subst H
                    exact Ev.ret rfl rfl (p_retZ rfl) ⟨rfl, rfl⟩
  · have c1 : ¬ (¬ (fX10_in what 0 8) = 0) := c1
    rw [if_neg c1] at H
    refine Ev.go 1 (s' := (h, 11, [(0, .ref 73), (1, .int what)], [.int ((-1))])) rfl ?_
    have H := Option.some.inj H
    subst H
    exact Ev.ret rfl rfl (p_retZ rfl) ⟨rfl, rfl⟩
