/-! the readers: their methods as functions -/
def fX9_isTag (number : Int32) : Int32 := (if number < 0 then 0 else (if 6 ≤ number then 0 else 1))
theorem spX9_isTag {d : Nat} {h : pH}  (number : Int32) : Ev d mX9_isTag (h, 0, [(0, .int number)], []) (fun r h1 => r = some (.int (fX9_isTag number)) ∧ h1 = h) := by
  refine Ev.go 1 (s' := (h, 1, [(0, .int number)], [.int number])) rfl ?_
  refine Ev.if1 rfl (fun c1 => ?_) (fun c1 => ?_)
  · have c1 : number < 0 := c1
    refine Ev.go 1 (s' := (h, 15, [(0, .int number)], [.int 0])) rfl ?_
    exact Ev.ret rfl rfl (p_retZ rfl) ⟨congrArg (fun z => some (Value.int z)) (by rw [fX9_isTag, if_pos c1]), rfl⟩
  · have c1 : ¬ (number < 0) := c1
    refine Ev.go 2 (s' := (h, 7, [(0, .int number)], [.int 6, .int number])) rfl ?_
    refine Ev.if2 rfl (fun c2 => ?_) (fun c2 => ?_)
    · have c2 : 6 ≤ number := c2
      refine Ev.go 1 (s' := (h, 15, [(0, .int number)], [.int 0])) rfl ?_
      exact Ev.ret rfl rfl (p_retZ rfl) ⟨congrArg (fun z => some (Value.int z)) (by rw [fX9_isTag, if_neg c1, if_pos c2]), rfl⟩
    · have c2 : ¬ (6 ≤ number) := c2
      refine Ev.go 2 (s' := (h, 15, [(0, .int number)], [.int 1])) rfl ?_
      exact Ev.ret rfl rfl (p_retZ rfl) ⟨congrArg (fun z => some (Value.int z)) (by rw [fX9_isTag, if_neg c1, if_neg c2]), rfl⟩
def fX8_numbersBehind (letter : Int32) : Int32 := (if letter = 107 then 1 else (if ¬ letter = 114 then (if ¬ letter = 103 then 0 else 3) else 1))
theorem spX8_numbersBehind {d : Nat} {h : pH}  (letter : Int32) : Ev d mX8_numbersBehind (h, 0, [(0, .int letter)], []) (fun r h1 => r = some (.int (fX8_numbersBehind letter)) ∧ h1 = h) := by
  refine Ev.go 2 (s' := (h, 3, [(0, .int letter)], [.int 107, .int letter])) rfl ?_
  refine Ev.if2 rfl (fun c1 => ?_) (fun c1 => ?_)
  · have c1 : letter = 107 := c1
    refine Ev.go 1 (s' := (h, 13, [(0, .int letter)], [.int 1])) rfl ?_
    exact Ev.ret rfl rfl (p_retZ rfl) ⟨congrArg (fun z => some (Value.int z)) (by rw [fX8_numbersBehind, if_pos c1]), rfl⟩
  · have c1 : ¬ (letter = 107) := c1
    refine Ev.go 2 (s' := (h, 9, [(0, .int letter)], [.int 114, .int letter])) rfl ?_
    refine Ev.if2 rfl (fun c2 => ?_) (fun c2 => ?_)
    · have c2 : ¬ letter = 114 := c2
      refine Ev.go 2 (s' := (h, 17, [(0, .int letter)], [.int 103, .int letter])) rfl ?_
      refine Ev.if2 rfl (fun c3 => ?_) (fun c3 => ?_)
      · have c3 : ¬ letter = 103 := c3
        refine Ev.go 1 (s' := (h, 25, [(0, .int letter)], [.int 0])) rfl ?_
        exact Ev.ret rfl rfl (p_retZ rfl) ⟨congrArg (fun z => some (Value.int z)) (by rw [fX8_numbersBehind, if_neg c1, if_pos c2, if_pos c3]), rfl⟩
      · have c3 : ¬ (¬ letter = 103) := c3
        refine Ev.go 2 (s' := (h, 25, [(0, .int letter)], [.int 3])) rfl ?_
        exact Ev.ret rfl rfl (p_retZ rfl) ⟨congrArg (fun z => some (Value.int z)) (by rw [fX8_numbersBehind, if_neg c1, if_pos c2, if_neg c3]), rfl⟩
    · have c2 : ¬ (¬ letter = 114) := c2
      refine Ev.go 1 (s' := (h, 13, [(0, .int letter)], [.int 1])) rfl ?_
      exact Ev.ret rfl rfl (p_retZ rfl) ⟨congrArg (fun z => some (Value.int z)) (by rw [fX8_numbersBehind, if_neg c1, if_neg c2]), rfl⟩
def fX8_figureAt (L : tL) (place : Int32) : Option (Int32) := ((fX1_letterAt L place).bind fun y2 => (if y2 < 48 then some (-1) else (if 57 < y2 then some (-1) else some (y2 - 48))))
theorem spX8_figureAt {d : Nat} {h : pH} {L : tL} (xL : isL h L) (place : Int32) {res : Int32} (H : fX8_figureAt L place = some res) : Ev (d + 1) mX8_figureAt (h, 0, [(0, .ref 1), (1, .int place)], []) (fun r h1 => r = some (.int res) ∧ h1 = h) := by
  unfold fX8_figureAt at H
  refine Ev.go 2 (s' := (h, 2, [(0, .ref 1), (1, .int place)], [.int place, .ref 1])) rfl ?_
  obtain ⟨y2, e1, H⟩ := Option.bind_eq_some_iff.mp H
  refine Ev.callE rfl rfl rfl (p_argsV (by decide) xL.1 (Nat.le_of_ble_eq_true rfl)) rfl (Nat.le_of_ble_eq_true rfl) (spX1_letterAt xL place e1) ?_
  refine Ev.go 3 (s' := (h, 9, [(0, .ref 1), (1, .int place), (2, .int y2)], [.int 48, .int y2])) rfl ?_
  refine Ev.if2 rfl (fun c3 => ?_) (fun c3 => ?_)
  · have c3 : y2 < 48 := c3
    rw [if_pos c3] at H
    refine Ev.go 1 (s' := (h, 26, [(0, .ref 1), (1, .int place), (2, .int y2)], [.int ((-1))])) rfl ?_
    have H := Option.some.inj H
    subst H
    exact Ev.ret rfl rfl (p_retZ rfl) ⟨rfl, rfl⟩
  · have c3 : ¬ (y2 < 48) := c3
    rw [if_neg c3] at H
    refine Ev.go 2 (s' := (h, 15, [(0, .ref 1), (1, .int place), (2, .int y2)], [.int 57, .int y2])) rfl ?_
    refine Ev.if2 rfl (fun c4 => ?_) (fun c4 => ?_)
    · have c4 : 57 < y2 := c4
      rw [if_pos c4] at H
      refine Ev.go 1 (s' := (h, 26, [(0, .ref 1), (1, .int place), (2, .int y2)], [.int ((-1))])) rfl ?_
      have H := Option.some.inj H
      subst H
      exact Ev.ret rfl rfl (p_retZ rfl) ⟨rfl, rfl⟩
    · have c4 : ¬ (57 < y2) := c4
      rw [if_neg c4] at H
      refine Ev.go 4 (s' := (h, 26, [(0, .ref 1), (1, .int place), (2, .int y2)], [.int (y2 - 48)])) rfl ?_
      have H := Option.some.inj H
      subst H
      exact Ev.ret rfl rfl (p_retZ rfl) ⟨rfl, rfl⟩
def fX8_readNumber (K : tK) (L : tL) : Option (Int32 × tK) := ((fX8_figureAt L K.2.1).bind fun y2 => (if 0 ≤ y2 then ((fX8_figureAt L (K.2.1 + 1)).bind fun y5 => (if 0 ≤ y5 then some ((y2 * 10) + y5, (K.1, (K.2.1 + 1) + 1, K.2.2)) else some (y2, (K.1, K.2.1 + 1, K.2.2)))) else some ((-1), K)))
theorem spX8_readNumber {d : Nat} {h : pH} {K : tK} {L : tL} (xK : isK h K) (xL : isL h L) {res : Int32 × tK} (H : fX8_readNumber K L = some res) : Ev (d + 2) mX8_readNumber (h, 0, [(0, .ref 3), (1, .ref 1)], []) (fun r h1 => r = some (.int res.1) ∧ isK h1 res.2 ∧ fr [(3, 5)] h h1) := by
  unfold fX8_readNumber at H
  refine Ev.go 2 (s' := (h, 2, [(0, .ref 3), (1, .ref 1)], [.ref 3, .ref 1])) rfl ?_
  refine Ev.get rfl (by decide) xK.1 rfl ?_
  obtain ⟨y2, e1, H⟩ := Option.bind_eq_some_iff.mp H
  refine Ev.callE rfl rfl rfl rfl rfl (Nat.le_of_ble_eq_true rfl) (spX8_figureAt xL K.2.1 e1) ?_
  refine Ev.go 2 (s' := (h, 10, [(0, .ref 3), (1, .ref 1), (2, .int y2)], [.int y2])) rfl ?_
  refine Ev.if1 rfl (fun c3 => ?_) (fun c3 => ?_)
  · have c3 : 0 ≤ y2 := c3
    rw [if_pos c3] at H
    refine Ev.go 2 (s' := (h, 17, [(0, .ref 3), (1, .ref 1), (2, .int y2)], [.ref 3, .ref 3])) rfl ?_
    refine Ev.get rfl (by decide) xK.1 rfl ?_
    refine Ev.go 2 (s' := (h, 22, [(0, .ref 3), (1, .ref 1), (2, .int y2)], [.int (K.2.1 + 1), .ref 3])) rfl ?_
    refine Ev.put rfl rfl (by decide) xK.1 (Nat.le_of_ble_eq_true rfl) rfl rfl (fs' := [.ref 4, .int (K.2.1 + 1), .int K.2.2]) rfl ?_
    refine Ev.go 2 (s' := ((pu h 3 (eO 7 [.ref 4, .int (K.2.1 + 1), .int K.2.2])), 27, [(0, .ref 3), (1, .ref 1), (2, .int y2)], [.ref 3, .ref 1])) rfl ?_
    refine Ev.get rfl (by decide) pu_s rfl ?_
    obtain ⟨y5, e4, H⟩ := Option.bind_eq_some_iff.mp H
    refine Ev.callE rfl rfl rfl rfl rfl (Nat.le_of_ble_eq_true rfl) (spX8_figureAt (h := (pu h 3 (eO 7 [.ref 4, .int (K.2.1 + 1), .int K.2.2]))) (L := L) ⟨(pu_n (by decide) xL.1), (pu_n (by decide) xL.2)⟩ (K.2.1 + 1) e4) ?_
    refine Ev.go 2 (s' := ((pu h 3 (eO 7 [.ref 4, .int (K.2.1 + 1), .int K.2.2])), 35, [(0, .ref 3), (1, .ref 1), (2, .int y2), (3, .int y5)], [.int y5])) rfl ?_
    refine Ev.if1 rfl (fun c6 => ?_) (fun c6 => ?_)
    · have c6 : 0 ≤ y5 := c6
      rw [if_pos c6] at H
      refine Ev.go 2 (s' := ((pu h 3 (eO 7 [.ref 4, .int (K.2.1 + 1), .int K.2.2])), 42, [(0, .ref 3), (1, .ref 1), (2, .int y2), (3, .int y5)], [.ref 3, .ref 3])) rfl ?_
      refine Ev.get rfl (by decide) pu_s rfl ?_
      refine Ev.go 2 (s' := ((pu h 3 (eO 7 [.ref 4, .int (K.2.1 + 1), .int K.2.2])), 47, [(0, .ref 3), (1, .ref 1), (2, .int y2), (3, .int y5)], [.int ((K.2.1 + 1) + 1), .ref 3])) rfl ?_
      refine Ev.put rfl rfl (by decide) pu_s (Nat.le_of_ble_eq_true rfl) rfl rfl (fs' := [.ref 4, .int ((K.2.1 + 1) + 1), .int K.2.2]) rfl ?_
      refine Ev.go 5 (s' := ((pu (pu h 3 (eO 7 [.ref 4, .int (K.2.1 + 1), .int K.2.2])) 3 (eO 7 [.ref 4, .int ((K.2.1 + 1) + 1), .int K.2.2])), 56, [(0, .ref 3), (1, .ref 1), (2, .int y2), (3, .int y5)], [.int ((y2 * 10) + y5)])) rfl ?_
      have H := Option.some.inj H
      subst H
      exact Ev.ret rfl rfl (p_retZ rfl) ⟨rfl, ⟨pu_s, (pu_n (by decide) (pu_n (by decide) xK.2))⟩, (fun k hk => by rw [pu_x (show k ≠ 3 from fun e => by have := hk; simp at this; omega)]; rw [pu_x (show k ≠ 3 from fun e => by have := hk; simp at this; omega)])⟩
    · have c6 : ¬ (0 ≤ y5) := c6
      rw [if_neg c6] at H
      refine Ev.go 1 (s' := ((pu h 3 (eO 7 [.ref 4, .int (K.2.1 + 1), .int K.2.2])), 39, [(0, .ref 3), (1, .ref 1), (2, .int y2), (3, .int y5)], [.int y2])) rfl ?_
      have H := Option.some.inj H
      subst H
      exact Ev.ret rfl rfl (p_retZ rfl) ⟨rfl, ⟨pu_s, (pu_n (by decide) xK.2)⟩, (fun k hk => by rw [pu_x (show k ≠ 3 from fun e => by have := hk; simp at this; omega)])⟩
  · have c3 : ¬ (0 ≤ y2) := c3
    rw [if_neg c3] at H
    refine Ev.go 1 (s' := (h, 14, [(0, .ref 3), (1, .ref 1), (2, .int y2)], [.int ((-1))])) rfl ?_
    have H := Option.some.inj H
    subst H
    exact Ev.ret rfl rfl (p_retZ rfl) ⟨rfl, xK, (fun k _ => rfl)⟩
def lX8_readNumbers_2 (n : Nat) (L : tL) : Nat → Int32 → Int32 → tK → Option (Int32 × tK)
  | 0, _, _, _ => none
  | m + 1, x2, x3, K => (if x2 ≤ x3 then (if x2 ≤ 0 then some (0, K) else some (1, K)) else (if 3 ≤ x3 then (if x2 ≤ 0 then some (0, K) else some (1, K)) else ((fX8_readNumber K L).bind fun y6 => (if x3 < 0 ∨ 3 ≤ x3.toNatClampNeg then none else (if ¬ x3 = (x2 - 1) then (if ((upd y6.2.1 x3.toNatClampNeg y6.1) x3.toNatClampNeg) < 0 then some (0, (upd y6.2.1 x3.toNatClampNeg y6.1, y6.2.2.1, y6.2.2.2)) else ((fX1_letterAt L y6.2.2.1).bind fun y14 => (if y14 = 44 then lX8_readNumbers_2 n L m x2 (x3 + 1) (upd y6.2.1 x3.toNatClampNeg y6.1, y6.2.2.1 + 1, y6.2.2.2) else some (0, (upd y6.2.1 x3.toNatClampNeg y6.1, y6.2.2.1, y6.2.2.2))))) else (if ((upd y6.2.1 x3.toNatClampNeg y6.1) x3.toNatClampNeg) < 0 then some (0, (upd y6.2.1 x3.toNatClampNeg y6.1, y6.2.2.1, y6.2.2.2)) else ((fX1_letterAt L y6.2.2.1).bind fun y18 => (if y18 = 59 then lX8_readNumbers_2 n L m x2 (x3 + 1) (upd y6.2.1 x3.toNatClampNeg y6.1, y6.2.2.1 + 1, y6.2.2.2) else some (0, (upd y6.2.1 x3.toNatClampNeg y6.1, y6.2.2.1, y6.2.2.2))))))))))
theorem llX8_readNumbers_2 {d n : Nat} {L : tL} : ∀ (m : Nat) (h : pH) (x2 : Int32) (x3 : Int32) (K : tK) (res : Int32 × tK), lX8_readNumbers_2 n L m x2 x3 K = some res → isL h L → isK h K → Ev (d + 3) mX8_readNumbers (h, 2, [(0, .ref 3), (1, .ref 1), (2, .int x2), (3, .int x3)], []) (fun r h1 => r = some (.int res.1) ∧ isK h1 res.2 ∧ fr [(3, 5)] h h1)
  | 0, h, x2, x3, K, res, H, _, _ => by cases H
  | m + 1, h, x2, x3, K, res, H, xL, xK => by
    have H : (if x2 ≤ x3 then (if x2 ≤ 0 then some (0, K) else some (1, K)) else (if 3 ≤ x3 then (if x2 ≤ 0 then some (0, K) else some (1, K)) else ((fX8_readNumber K L).bind fun y6 => (if x3 < 0 ∨ 3 ≤ x3.toNatClampNeg then none else (if ¬ x3 = (x2 - 1) then (if ((upd y6.2.1 x3.toNatClampNeg y6.1) x3.toNatClampNeg) < 0 then some (0, (upd y6.2.1 x3.toNatClampNeg y6.1, y6.2.2.1, y6.2.2.2)) else ((fX1_letterAt L y6.2.2.1).bind fun y14 => (if y14 = 44 then lX8_readNumbers_2 n L m x2 (x3 + 1) (upd y6.2.1 x3.toNatClampNeg y6.1, y6.2.2.1 + 1, y6.2.2.2) else some (0, (upd y6.2.1 x3.toNatClampNeg y6.1, y6.2.2.1, y6.2.2.2))))) else (if ((upd y6.2.1 x3.toNatClampNeg y6.1) x3.toNatClampNeg) < 0 then some (0, (upd y6.2.1 x3.toNatClampNeg y6.1, y6.2.2.1, y6.2.2.2)) else ((fX1_letterAt L y6.2.2.1).bind fun y18 => (if y18 = 59 then lX8_readNumbers_2 n L m x2 (x3 + 1) (upd y6.2.1 x3.toNatClampNeg y6.1, y6.2.2.1 + 1, y6.2.2.2) else some (0, (upd y6.2.1 x3.toNatClampNeg y6.1, y6.2.2.1, y6.2.2.2)))))))))) = some res := H
    refine Ev.go 2 (s' := (h, 4, [(0, .ref 3), (1, .ref 1), (2, .int x2), (3, .int x3)], [.int x2, .int x3])) rfl ?_
    refine Ev.if2 rfl (fun c1 => ?_) (fun c1 => ?_)
    · have c1 : x2 ≤ x3 := c1
      rw [if_pos c1] at H
      refine Ev.go 1 (s' := (h, 84, [(0, .ref 3), (1, .ref 1), (2, .int x2), (3, .int x3)], [.int x2])) rfl ?_
      refine Ev.if1 rfl (fun c2 => ?_) (fun c2 => ?_)
      · have c2 : x2 ≤ 0 := c2
        rw [if_pos c2] at H
        refine Ev.go 1 (s' := (h, 92, [(0, .ref 3), (1, .ref 1), (2, .int x2), (3, .int x3)], [.int 0])) rfl ?_
        have H := Option.some.inj H
        subst H
        exact Ev.ret rfl rfl (p_retZ rfl) ⟨rfl, xK, (fun k _ => rfl)⟩
      · have c2 : ¬ (x2 ≤ 0) := c2
        rw [if_neg c2] at H
        refine Ev.go 2 (s' := (h, 92, [(0, .ref 3), (1, .ref 1), (2, .int x2), (3, .int x3)], [.int 1])) rfl ?_
        have H := Option.some.inj H
        subst H
        exact Ev.ret rfl rfl (p_retZ rfl) ⟨rfl, xK, (fun k _ => rfl)⟩
    · have c1 : ¬ (x2 ≤ x3) := c1
      rw [if_neg c1] at H
      refine Ev.go 2 (s' := (h, 9, [(0, .ref 3), (1, .ref 1), (2, .int x2), (3, .int x3)], [.ref 3, .int x3])) rfl ?_
      refine Ev.get rfl (by decide) xK.1 rfl ?_
      refine Ev.alen rfl (by decide) (congrArg p_len xK.2) ?_
      refine Ev.if2 rfl (fun c3 => ?_) (fun c3 => ?_)
      · have c3 : 3 ≤ x3 := c3
        rw [if_pos c3] at H
        refine Ev.go 1 (s' := (h, 84, [(0, .ref 3), (1, .ref 1), (2, .int x2), (3, .int x3)], [.int x2])) rfl ?_
        refine Ev.if1 rfl (fun c4 => ?_) (fun c4 => ?_)
        · have c4 : x2 ≤ 0 := c4
          rw [if_pos c4] at H
          refine Ev.go 1 (s' := (h, 92, [(0, .ref 3), (1, .ref 1), (2, .int x2), (3, .int x3)], [.int 0])) rfl ?_
          have H := Option.some.inj H
          subst H
          exact Ev.ret rfl rfl (p_retZ rfl) ⟨rfl, xK, (fun k _ => rfl)⟩
        · have c4 : ¬ (x2 ≤ 0) := c4
          rw [if_neg c4] at H
          refine Ev.go 2 (s' := (h, 92, [(0, .ref 3), (1, .ref 1), (2, .int x2), (3, .int x3)], [.int 1])) rfl ?_
          have H := Option.some.inj H
          subst H
          exact Ev.ret rfl rfl (p_retZ rfl) ⟨rfl, xK, (fun k _ => rfl)⟩
      · have c3 : ¬ (3 ≤ x3) := c3
        rw [if_neg c3] at H
        refine Ev.go 1 (s' := (h, 17, [(0, .ref 3), (1, .ref 1), (2, .int x2), (3, .int x3)], [.ref 3])) rfl ?_
        refine Ev.get rfl (by decide) xK.1 rfl ?_
        refine Ev.go 3 (s' := (h, 23, [(0, .ref 3), (1, .ref 1), (2, .int x2), (3, .int x3)], [.ref 1, .ref 3, .int x3, .ref 4])) rfl ?_
        obtain ⟨y6, e5, H⟩ := Option.bind_eq_some_iff.mp H
        refine Ev.call rfl rfl rfl (p_argsV (by decide) xK.1 (Nat.le_of_ble_eq_true rfl)) rfl (Nat.le_of_ble_eq_true rfl) ((spX8_readNumber xK xL  e5).mono (fun r h7 q8 => ?_))
        obtain ⟨rfl, q8_K, q8_f⟩ := q8
        have i9 : isL h7 L := isL.fr q8_f (fr1 (by omega)) xL
        have v10 : vp_in x3 3 := fun q => by rw [if_pos q] at H; cases H
        rw [if_neg v10] at H
        refine Ev.iast rfl (by decide) q8_K.2 v10 ?_
        refine Ev.go 4 (s' := ((pu h7 4 (eI 3 (upd y6.2.1 x3.toNatClampNeg y6.1))), 31, [(0, .ref 3), (1, .ref 1), (2, .int x2), (3, .int x3)], [.int (x2 - 1), .int x3])) rfl ?_
        refine Ev.if2 rfl (fun c11 => ?_) (fun c11 => ?_)
        · have c11 : ¬ x3 = (x2 - 1) := c11
          rw [if_pos c11] at H
          refine Ev.go 3 (s' := ((pu h7 4 (eI 3 (upd y6.2.1 x3.toNatClampNeg y6.1))), 44, [(0, .ref 3), (1, .ref 1), (2, .int x2), (3, .int x3), (4, .int 44)], [.ref 3])) rfl ?_
          refine Ev.get rfl (by decide) (pu_n (by decide) q8_K.1) rfl ?_
          refine Ev.go 1 (s' := ((pu h7 4 (eI 3 (upd y6.2.1 x3.toNatClampNeg y6.1))), 48, [(0, .ref 3), (1, .ref 1), (2, .int x2), (3, .int x3), (4, .int 44)], [.int x3, .ref 4])) rfl ?_
          refine Ev.iald rfl (by decide) pu_s v10 ?_
          refine Ev.if1 rfl (fun c12 => ?_) (fun c12 => ?_)
          · have c12 : ((upd y6.2.1 x3.toNatClampNeg y6.1) x3.toNatClampNeg) < 0 := c12
            rw [if_pos c12] at H
            refine Ev.go 1 (s' := ((pu h7 4 (eI 3 (upd y6.2.1 x3.toNatClampNeg y6.1))), 66, [(0, .ref 3), (1, .ref 1), (2, .int x2), (3, .int x3), (4, .int 44)], [.int 0])) rfl ?_
            have H := Option.some.inj H
            subst H
            exact Ev.ret rfl rfl (p_retZ rfl) ⟨rfl, ⟨(pu_n (by decide) q8_K.1), pu_s⟩, (fun k hk => by rw [pu_x (show k ≠ 4 from fun e => by have := hk; simp at this; omega)]; rw [q8_f k (by have := hk; simp at this ⊢; omega)])⟩
          · have c12 : ¬ (((upd y6.2.1 x3.toNatClampNeg y6.1) x3.toNatClampNeg) < 0) := c12
            rw [if_neg c12] at H
            refine Ev.go 2 (s' := ((pu h7 4 (eI 3 (upd y6.2.1 x3.toNatClampNeg y6.1))), 54, [(0, .ref 3), (1, .ref 1), (2, .int x2), (3, .int x3), (4, .int 44)], [.ref 3, .ref 1])) rfl ?_
            refine Ev.get rfl (by decide) (pu_n (by decide) q8_K.1) rfl ?_
            obtain ⟨y14, e13, H⟩ := Option.bind_eq_some_iff.mp H
            refine Ev.callE rfl rfl rfl (p_argsV (by decide) (pu_n (by decide) i9.1) (Nat.le_of_ble_eq_true rfl)) rfl (Nat.le_of_ble_eq_true rfl) (spX1_letterAt (h := (pu h7 4 (eI 3 (upd y6.2.1 x3.toNatClampNeg y6.1)))) (L := L) ⟨(pu_n (by decide) i9.1), (pu_n (by decide) i9.2)⟩ y6.2.2.1 e13) ?_
            refine Ev.go 1 (s' := ((pu h7 4 (eI 3 (upd y6.2.1 x3.toNatClampNeg y6.1))), 62, [(0, .ref 3), (1, .ref 1), (2, .int x2), (3, .int x3), (4, .int 44)], [.int 44, .int y14])) rfl ?_
            refine Ev.if2 rfl (fun c15 => ?_) (fun c15 => ?_)
            · have c15 : y14 = 44 := c15
              rw [if_pos c15] at H
              refine Ev.go 2 (s' := ((pu h7 4 (eI 3 (upd y6.2.1 x3.toNatClampNeg y6.1))), 69, [(0, .ref 3), (1, .ref 1), (2, .int x2), (3, .int x3), (4, .int 44)], [.ref 3, .ref 3])) rfl ?_
              refine Ev.get rfl (by decide) (pu_n (by decide) q8_K.1) rfl ?_
              refine Ev.go 2 (s' := ((pu h7 4 (eI 3 (upd y6.2.1 x3.toNatClampNeg y6.1))), 74, [(0, .ref 3), (1, .ref 1), (2, .int x2), (3, .int x3), (4, .int 44)], [.int (y6.2.2.1 + 1), .ref 3])) rfl ?_
              refine Ev.put rfl rfl (by decide) (pu_n (by decide) q8_K.1) (Nat.le_of_ble_eq_true rfl) rfl rfl (fs' := [.ref 4, .int (y6.2.2.1 + 1), .int y6.2.2.2]) rfl ?_
              refine Ev.go 2 (s' := ((pu (pu h7 4 (eI 3 (upd y6.2.1 x3.toNatClampNeg y6.1))) 3 (eO 7 [.ref 4, .int (y6.2.2.1 + 1), .int y6.2.2.2])), 2, [(0, .ref 3), (1, .ref 1), (2, .int x2), (3, .int (x3 + 1)), (4, .int 44)], [])) rfl ?_
              refine Ev.live rfl (lv' := [(0, .ref 3), (1, .ref 1), (2, .int x2), (3, .int (x3 + 1))]) rfl ?_
              refine (llX8_readNumbers_2 m (pu (pu h7 4 (eI 3 (upd y6.2.1 x3.toNatClampNeg y6.1))) 3 (eO 7 [.ref 4, .int (y6.2.2.1 + 1), .int y6.2.2.2])) x2 (x3 + 1) (upd y6.2.1 x3.toNatClampNeg y6.1, y6.2.2.1 + 1, y6.2.2.2) _ H ⟨(pu_n (by decide) (pu_n (by decide) i9.1)), (pu_n (by decide) (pu_n (by decide) i9.2))⟩ ⟨pu_s, (pu_n (by decide) pu_s)⟩).mono (fun r h9 q9 => ?_)
              obtain ⟨q9r, q9_0, q9f⟩ := q9
              exact ⟨q9r, q9_0, fun k hk => (q9f k hk).trans (by rw [pu_x (show k ≠ 3 from fun e => by have := hk; simp at this; omega)]; rw [pu_x (show k ≠ 4 from fun e => by have := hk; simp at this; omega)]; rw [q8_f k (by have := hk; simp at this ⊢; omega)])⟩
            · have c15 : ¬ (y14 = 44) := c15
              rw [if_neg c15] at H
              refine Ev.go 1 (s' := ((pu h7 4 (eI 3 (upd y6.2.1 x3.toNatClampNeg y6.1))), 66, [(0, .ref 3), (1, .ref 1), (2, .int x2), (3, .int x3), (4, .int 44)], [.int 0])) rfl ?_
              have H := Option.some.inj H
              subst H
              exact Ev.ret rfl rfl (p_retZ rfl) ⟨rfl, ⟨(pu_n (by decide) q8_K.1), pu_s⟩, (fun k hk => by rw [pu_x (show k ≠ 4 from fun e => by have := hk; simp at this; omega)]; rw [q8_f k (by have := hk; simp at this ⊢; omega)])⟩
        · have c11 : ¬ (¬ x3 = (x2 - 1)) := c11
          rw [if_neg c11] at H
          refine Ev.go 4 (s' := ((pu h7 4 (eI 3 (upd y6.2.1 x3.toNatClampNeg y6.1))), 44, [(0, .ref 3), (1, .ref 1), (2, .int x2), (3, .int x3), (4, .int 59)], [.ref 3])) rfl ?_
          refine Ev.get rfl (by decide) (pu_n (by decide) q8_K.1) rfl ?_
          refine Ev.go 1 (s' := ((pu h7 4 (eI 3 (upd y6.2.1 x3.toNatClampNeg y6.1))), 48, [(0, .ref 3), (1, .ref 1), (2, .int x2), (3, .int x3), (4, .int 59)], [.int x3, .ref 4])) rfl ?_
          refine Ev.iald rfl (by decide) pu_s v10 ?_
          refine Ev.if1 rfl (fun c16 => ?_) (fun c16 => ?_)
          · have c16 : ((upd y6.2.1 x3.toNatClampNeg y6.1) x3.toNatClampNeg) < 0 := c16
            rw [if_pos c16] at H
            refine Ev.go 1 (s' := ((pu h7 4 (eI 3 (upd y6.2.1 x3.toNatClampNeg y6.1))), 66, [(0, .ref 3), (1, .ref 1), (2, .int x2), (3, .int x3), (4, .int 59)], [.int 0])) rfl ?_
            have H := Option.some.inj H
            subst H
            exact Ev.ret rfl rfl (p_retZ rfl) ⟨rfl, ⟨(pu_n (by decide) q8_K.1), pu_s⟩, (fun k hk => by rw [pu_x (show k ≠ 4 from fun e => by have := hk; simp at this; omega)]; rw [q8_f k (by have := hk; simp at this ⊢; omega)])⟩
          · have c16 : ¬ (((upd y6.2.1 x3.toNatClampNeg y6.1) x3.toNatClampNeg) < 0) := c16
            rw [if_neg c16] at H
            refine Ev.go 2 (s' := ((pu h7 4 (eI 3 (upd y6.2.1 x3.toNatClampNeg y6.1))), 54, [(0, .ref 3), (1, .ref 1), (2, .int x2), (3, .int x3), (4, .int 59)], [.ref 3, .ref 1])) rfl ?_
            refine Ev.get rfl (by decide) (pu_n (by decide) q8_K.1) rfl ?_
            obtain ⟨y18, e17, H⟩ := Option.bind_eq_some_iff.mp H
            refine Ev.callE rfl rfl rfl (p_argsV (by decide) (pu_n (by decide) i9.1) (Nat.le_of_ble_eq_true rfl)) rfl (Nat.le_of_ble_eq_true rfl) (spX1_letterAt (h := (pu h7 4 (eI 3 (upd y6.2.1 x3.toNatClampNeg y6.1)))) (L := L) ⟨(pu_n (by decide) i9.1), (pu_n (by decide) i9.2)⟩ y6.2.2.1 e17) ?_
            refine Ev.go 1 (s' := ((pu h7 4 (eI 3 (upd y6.2.1 x3.toNatClampNeg y6.1))), 62, [(0, .ref 3), (1, .ref 1), (2, .int x2), (3, .int x3), (4, .int 59)], [.int 59, .int y18])) rfl ?_
            refine Ev.if2 rfl (fun c19 => ?_) (fun c19 => ?_)
            · have c19 : y18 = 59 := c19
              rw [if_pos c19] at H
              refine Ev.go 2 (s' := ((pu h7 4 (eI 3 (upd y6.2.1 x3.toNatClampNeg y6.1))), 69, [(0, .ref 3), (1, .ref 1), (2, .int x2), (3, .int x3), (4, .int 59)], [.ref 3, .ref 3])) rfl ?_
              refine Ev.get rfl (by decide) (pu_n (by decide) q8_K.1) rfl ?_
              refine Ev.go 2 (s' := ((pu h7 4 (eI 3 (upd y6.2.1 x3.toNatClampNeg y6.1))), 74, [(0, .ref 3), (1, .ref 1), (2, .int x2), (3, .int x3), (4, .int 59)], [.int (y6.2.2.1 + 1), .ref 3])) rfl ?_
              refine Ev.put rfl rfl (by decide) (pu_n (by decide) q8_K.1) (Nat.le_of_ble_eq_true rfl) rfl rfl (fs' := [.ref 4, .int (y6.2.2.1 + 1), .int y6.2.2.2]) rfl ?_
              refine Ev.go 2 (s' := ((pu (pu h7 4 (eI 3 (upd y6.2.1 x3.toNatClampNeg y6.1))) 3 (eO 7 [.ref 4, .int (y6.2.2.1 + 1), .int y6.2.2.2])), 2, [(0, .ref 3), (1, .ref 1), (2, .int x2), (3, .int (x3 + 1)), (4, .int 59)], [])) rfl ?_
              refine Ev.live rfl (lv' := [(0, .ref 3), (1, .ref 1), (2, .int x2), (3, .int (x3 + 1))]) rfl ?_
              refine (llX8_readNumbers_2 m (pu (pu h7 4 (eI 3 (upd y6.2.1 x3.toNatClampNeg y6.1))) 3 (eO 7 [.ref 4, .int (y6.2.2.1 + 1), .int y6.2.2.2])) x2 (x3 + 1) (upd y6.2.1 x3.toNatClampNeg y6.1, y6.2.2.1 + 1, y6.2.2.2) _ H ⟨(pu_n (by decide) (pu_n (by decide) i9.1)), (pu_n (by decide) (pu_n (by decide) i9.2))⟩ ⟨pu_s, (pu_n (by decide) pu_s)⟩).mono (fun r h9 q9 => ?_)
              obtain ⟨q9r, q9_0, q9f⟩ := q9
              exact ⟨q9r, q9_0, fun k hk => (q9f k hk).trans (by rw [pu_x (show k ≠ 3 from fun e => by have := hk; simp at this; omega)]; rw [pu_x (show k ≠ 4 from fun e => by have := hk; simp at this; omega)]; rw [q8_f k (by have := hk; simp at this ⊢; omega)])⟩
            · have c19 : ¬ (y18 = 59) := c19
              rw [if_neg c19] at H
              refine Ev.go 1 (s' := ((pu h7 4 (eI 3 (upd y6.2.1 x3.toNatClampNeg y6.1))), 66, [(0, .ref 3), (1, .ref 1), (2, .int x2), (3, .int x3), (4, .int 59)], [.int 0])) rfl ?_
              have H := Option.some.inj H
              subst H
              exact Ev.ret rfl rfl (p_retZ rfl) ⟨rfl, ⟨(pu_n (by decide) q8_K.1), pu_s⟩, (fun k hk => by rw [pu_x (show k ≠ 4 from fun e => by have := hk; simp at this; omega)]; rw [q8_f k (by have := hk; simp at this ⊢; omega)])⟩
def fX8_readNumbers (n : Nat) (K : tK) (L : tL) (due : Int32) : Option (Int32 × tK) := lX8_readNumbers_2 n L n due 0 K
theorem spX8_readNumbers {d n : Nat} {h : pH} {K : tK} {L : tL} (xK : isK h K) (xL : isL h L) (due : Int32) {res : Int32 × tK} (H : fX8_readNumbers n K L due = some res) : Ev (d + 3) mX8_readNumbers (h, 0, [(0, .ref 3), (1, .ref 1), (2, .int due)], []) (fun r h1 => r = some (.int res.1) ∧ isK h1 res.2 ∧ fr [(3, 5)] h h1) := by
  unfold fX8_readNumbers at H
  refine Ev.go 2 (s' := (h, 2, [(0, .ref 3), (1, .ref 1), (2, .int due), (3, .int 0)], [])) rfl ?_
  refine Ev.live rfl (lv' := [(0, .ref 3), (1, .ref 1), (2, .int due), (3, .int 0)]) rfl ?_
  exact llX8_readNumbers_2 n h due 0 K _ H xL xK
def fX8_applyKind (K : tK) (T : tT) : Option (Int32 × tK × tT) := (if ¬ K.2.2 = 0 then some (0, K, T) else (if 0 < (fX7_came T) then some (0, K, T) else (if (K.1 0) < 4 then ((fX7_setKind T (K.1 0)).bind fun y5 => some (1, (K.1, K.2.1, 1), y5)) else some (0, K, T))))
theorem spX8_applyKind {d : Nat} {h : pH} {t : Nat} {K : tK} {T : tT} (xK : isK h K) (xT : isT h t T) (ht : 7 ≤ t) {res : Int32 × tK × tT} (H : fX8_applyKind K T = some res) : Ev (d + 1) mX8_applyKind (h, 0, [(0, .ref 3), (1, .ref t)], []) (fun r h1 => r = some (.int res.1) ∧ isK h1 res.2.1 ∧ isT h1 t res.2.2 ∧ fr [(3, 5), (t, t + 4)] h h1) := by
  unfold fX8_applyKind at H
  refine Ev.go 1 (s' := (h, 1, [(0, .ref 3), (1, .ref t)], [.ref 3])) rfl ?_
  refine Ev.get rfl (by decide) xK.1 rfl ?_
  refine Ev.if1 rfl (fun c1 => ?_) (fun c1 => ?_)
  · have c1 : ¬ K.2.2 = 0 := c1
    rw [if_pos c1] at H
    refine Ev.go 1 (s' := (h, 25, [(0, .ref 3), (1, .ref t)], [.int 0])) rfl ?_
    have H := Option.some.inj H
    subst H
    exact Ev.ret rfl rfl (p_retZ rfl) ⟨rfl, xK, xT, (fun k _ => rfl)⟩
  · have c1 : ¬ (¬ K.2.2 = 0) := c1
    rw [if_neg c1] at H
    refine Ev.go 1 (s' := (h, 8, [(0, .ref 3), (1, .ref t)], [.ref t])) rfl ?_
    refine Ev.callE rfl rfl rfl (p_argsV (by have := xT.2.2.2.2; omega) xT.1 (Nat.le_of_ble_eq_true rfl)) rfl (Nat.le_of_ble_eq_true rfl) (spX7_came xT ) ?_
    refine Ev.if1 rfl (fun c2 => ?_) (fun c2 => ?_)
    · have c2 : 0 < (fX7_came T) := c2
      rw [if_pos c2] at H
      refine Ev.go 1 (s' := (h, 25, [(0, .ref 3), (1, .ref t)], [.int 0])) rfl ?_
      have H := Option.some.inj H
      subst H
      exact Ev.ret rfl rfl (p_retZ rfl) ⟨rfl, xK, xT, (fun k _ => rfl)⟩
    · have c2 : ¬ (0 < (fX7_came T)) := c2
      rw [if_neg c2] at H
      refine Ev.go 1 (s' := (h, 15, [(0, .ref 3), (1, .ref t)], [.ref 3])) rfl ?_
      refine Ev.get rfl (by decide) xK.1 rfl ?_
      refine Ev.go 1 (s' := (h, 19, [(0, .ref 3), (1, .ref t)], [.int 0, .ref 4])) rfl ?_
      refine Ev.iald rfl (by decide) xK.2 (by unfold vp_in; decide) ?_
      refine Ev.go 1 (s' := (h, 21, [(0, .ref 3), (1, .ref t)], [.int 4, .int (K.1 0)])) rfl ?_
      refine Ev.if2 rfl (fun c3 => ?_) (fun c3 => ?_)
      · have c3 : (K.1 0) < 4 := c3
        rw [if_pos c3] at H
        refine Ev.go 2 (s' := (h, 28, [(0, .ref 3), (1, .ref t)], [.int 1, .ref 3])) rfl ?_
        refine Ev.put rfl rfl (by decide) xK.1 (Nat.le_of_ble_eq_true rfl) rfl rfl (fs' := [.ref 4, .int K.2.1, .int 1]) rfl ?_
        refine Ev.go 2 (s' := ((pu h 3 (eO 7 [.ref 4, .int K.2.1, .int 1])), 33, [(0, .ref 3), (1, .ref t)], [.ref 3, .ref t])) rfl ?_
        refine Ev.get rfl (by decide) pu_s rfl ?_
        refine Ev.go 1 (s' := ((pu h 3 (eO 7 [.ref 4, .int K.2.1, .int 1])), 37, [(0, .ref 3), (1, .ref t)], [.int 0, .ref 4, .ref t])) rfl ?_
        refine Ev.iald rfl (by decide) (pu_n (by decide) xK.2) (by unfold vp_in; decide) ?_
        obtain ⟨y5, e4, H⟩ := Option.bind_eq_some_iff.mp H
        refine Ev.call rfl rfl rfl (p_argsV (by have := xT.2.2.2.2; omega) (pu_n (by omega) xT.1) (Nat.le_of_ble_eq_true rfl)) rfl (Nat.le_of_ble_eq_true rfl) ((spX7_setKind (h := (pu h 3 (eO 7 [.ref 4, .int K.2.1, .int 1]))) (T := T) ⟨(pu_n (by omega) xT.1), (pu_n (by omega) xT.2.1), (pu_n (by omega) xT.2.2.1), (pu_n (by omega) xT.2.2.2.1), (by have := xT.2.2.2.2; omega)⟩ (K.1 0) e4).mono (fun r h6 q7 => ?_))
        obtain ⟨rfl, q7_T, q7_f⟩ := q7
        have i8 : isK h6 (K.1, K.2.1, 1) := isK.fr q7_f (fr1 (by omega)) ⟨pu_s, (pu_n (by decide) xK.2)⟩
        refine Ev.go 1 (s' := (h6, 42, [(0, .ref 3), (1, .ref t)], [.int 1])) rfl ?_
        have H := Option.some.inj H
        subst H
        exact Ev.ret rfl rfl (p_retZ rfl) ⟨rfl, i8, q7_T, (fun k hk => by rw [q7_f k (by have := hk; simp at this ⊢; omega)]; rw [pu_x (show k ≠ 3 from fun e => by have := hk; simp at this; omega)])⟩
      · have c3 : ¬ ((K.1 0) < 4) := c3
        rw [if_neg c3] at H
        refine Ev.go 1 (s' := (h, 25, [(0, .ref 3), (1, .ref t)], [.int 0])) rfl ?_
        have H := Option.some.inj H
        subst H
        exact Ev.ret rfl rfl (p_retZ rfl) ⟨rfl, xK, xT, (fun k _ => rfl)⟩
def fX8_applyRoot (K : tK) (T : tT) : Option (Int32 × tT) := (if 0 < (fX7_came T) then some (0, T) else (if ¬ (fX9_isTag (K.1 0)) = 0 then ((fX7_add T (-1) 0 (K.1 0)).bind fun y4 => some (1, y4.2)) else some (0, T)))
theorem spX8_applyRoot {d : Nat} {h : pH} {t : Nat} {K : tK} {T : tT} (xK : isK h K) (xT : isT h t T) (ht : 7 ≤ t) {res : Int32 × tT} (H : fX8_applyRoot K T = some res) : Ev (d + 2) mX8_applyRoot (h, 0, [(0, .ref 3), (1, .ref t)], []) (fun r h1 => r = some (.int res.1) ∧ isT h1 t res.2 ∧ fr [(t, t + 4)] h h1) := by
  unfold fX8_applyRoot at H
  refine Ev.go 1 (s' := (h, 1, [(0, .ref 3), (1, .ref t)], [.ref t])) rfl ?_
  refine Ev.callE rfl rfl rfl (p_argsV (by have := xT.2.2.2.2; omega) xT.1 (Nat.le_of_ble_eq_true rfl)) rfl (Nat.le_of_ble_eq_true rfl) (spX7_came xT ) ?_
  refine Ev.if1 rfl (fun c1 => ?_) (fun c1 => ?_)
  · have c1 : 0 < (fX7_came T) := c1
    rw [if_pos c1] at H
    refine Ev.go 1 (s' := (h, 20, [(0, .ref 3), (1, .ref t)], [.int 0])) rfl ?_
    have H := Option.some.inj H
    subst H
    exact Ev.ret rfl rfl (p_retZ rfl) ⟨rfl, xT, (fun k _ => rfl)⟩
  · have c1 : ¬ (0 < (fX7_came T)) := c1
    rw [if_neg c1] at H
    refine Ev.go 1 (s' := (h, 8, [(0, .ref 3), (1, .ref t)], [.ref 3])) rfl ?_
    refine Ev.get rfl (by decide) xK.1 rfl ?_
    refine Ev.go 1 (s' := (h, 12, [(0, .ref 3), (1, .ref t)], [.int 0, .ref 4])) rfl ?_
    refine Ev.iald rfl (by decide) xK.2 (by unfold vp_in; decide) ?_
    refine Ev.callE rfl rfl rfl rfl rfl (Nat.le_of_ble_eq_true rfl) (spX9_isTag  (K.1 0)) ?_
    refine Ev.if1 rfl (fun c2 => ?_) (fun c2 => ?_)
    · have c2 : ¬ (fX9_isTag (K.1 0)) = 0 := c2
      rw [if_pos c2] at H
      refine Ev.go 4 (s' := (h, 25, [(0, .ref 3), (1, .ref t)], [.ref 3, .int 0, .int ((-1)), .ref t])) rfl ?_
      refine Ev.get rfl (by decide) xK.1 rfl ?_
      refine Ev.go 1 (s' := (h, 29, [(0, .ref 3), (1, .ref t)], [.int 0, .ref 4, .int 0, .int ((-1)), .ref t])) rfl ?_
      refine Ev.iald rfl (by decide) xK.2 (by unfold vp_in; decide) ?_
      obtain ⟨y4, e3, H⟩ := Option.bind_eq_some_iff.mp H
      refine Ev.call rfl rfl rfl (p_argsV (by have := xT.2.2.2.2; omega) xT.1 (Nat.le_of_ble_eq_true rfl)) rfl (Nat.le_of_ble_eq_true rfl) ((spX7_add xT (-1) 0 (K.1 0) e3).mono (fun r h5 q6 => ?_))
      obtain ⟨rfl, q6_T, q6_f⟩ := q6
      have i7 : isK h5 K := isK.fr q6_f (fr1 (by omega)) xK
      refine Ev.go 2 (s' := (h5, 35, [(0, .ref 3), (1, .ref t)], [.int 1])) rfl ?_
      have H := Option.some.inj H
      subst H
      exact Ev.ret rfl rfl (p_retZ rfl) ⟨rfl, q6_T, (fun k hk => by rw [q6_f k (by have := hk; simp at this ⊢; omega)])⟩
    · have c2 : ¬ (¬ (fX9_isTag (K.1 0)) = 0) := c2
      rw [if_neg c2] at H
      refine Ev.go 1 (s' := (h, 20, [(0, .ref 3), (1, .ref t)], [.int 0])) rfl ?_
      have H := Option.some.inj H
      subst H
      exact Ev.ret rfl rfl (p_retZ rfl) ⟨rfl, xT, (fun k _ => rfl)⟩
def fX8_applyNode (n : Nat) (K : tK) (T : tT) : Option (Int32 × tT) := (if ¬ (fX7_isFull T) = 0 then some (0, T) else (if (fX7_isThere T (K.1 0)) = 0 then some (0, T) else ((fX7_kidsOf n T (K.1 0)).bind fun y4 => (if y4 < (K.1 1) then some (0, T) else (if ¬ (fX9_isTag (K.1 2)) = 0 then ((fX7_spotFor n T (K.1 0) (K.1 1)).bind fun y8 => (if ¬ y8 = 0 then ((fX7_add T (K.1 0) y8 (K.1 2)).bind fun y11 => some (1, y11.2)) else some (0, T))) else some (0, T))))))
theorem spX8_applyNode {d n : Nat} {h : pH} {t : Nat} {K : tK} {T : tT} (xK : isK h K) (xT : isT h t T) (ht : 7 ≤ t) {res : Int32 × tT} (H : fX8_applyNode n K T = some res) : Ev (d + 4) mX8_applyNode (h, 0, [(0, .ref 3), (1, .ref t)], []) (fun r h1 => r = some (.int res.1) ∧ isT h1 t res.2 ∧ fr [(t, t + 4)] h h1) := by
  unfold fX8_applyNode at H
  refine Ev.go 1 (s' := (h, 1, [(0, .ref 3), (1, .ref t)], [.ref 3])) rfl ?_
  refine Ev.get rfl (by decide) xK.1 rfl ?_
  refine Ev.go 1 (s' := (h, 5, [(0, .ref 3), (1, .ref t)], [.int 0, .ref 4])) rfl ?_
  refine Ev.iald rfl (by decide) xK.2 (by unfold vp_in; decide) ?_
  refine Ev.go 2 (s' := (h, 8, [(0, .ref 3), (1, .ref t), (2, .int (K.1 0))], [.ref t])) rfl ?_
  refine Ev.callE rfl rfl rfl (p_argsV (by have := xT.2.2.2.2; omega) xT.1 (Nat.le_of_ble_eq_true rfl)) rfl (Nat.le_of_ble_eq_true rfl) (spX7_isFull xT ) ?_
  refine Ev.if1 rfl (fun c1 => ?_) (fun c1 => ?_)
  · have c1 : ¬ (fX7_isFull T) = 0 := c1
    rw [if_pos c1] at H
    refine Ev.go 1 (s' := (h, 49, [(0, .ref 3), (1, .ref t), (2, .int (K.1 0))], [.int 0])) rfl ?_
    have H := Option.some.inj H
    subst H
    exact Ev.ret rfl rfl (p_retZ rfl) ⟨rfl, xT, (fun k _ => rfl)⟩
  · have c1 : ¬ (¬ (fX7_isFull T) = 0) := c1
    rw [if_neg c1] at H
    refine Ev.go 2 (s' := (h, 16, [(0, .ref 3), (1, .ref t), (2, .int (K.1 0))], [.int (K.1 0), .ref t])) rfl ?_
    refine Ev.callE rfl rfl rfl (p_argsV (by have := xT.2.2.2.2; omega) xT.1 (Nat.le_of_ble_eq_true rfl)) rfl (Nat.le_of_ble_eq_true rfl) (spX7_isThere xT (K.1 0)) ?_
    refine Ev.if1 rfl (fun c2 => ?_) (fun c2 => ?_)
    · have c2 : (fX7_isThere T (K.1 0)) = 0 := c2
      rw [if_pos c2] at H
      refine Ev.go 1 (s' := (h, 49, [(0, .ref 3), (1, .ref t), (2, .int (K.1 0))], [.int 0])) rfl ?_
      have H := Option.some.inj H
      subst H
      exact Ev.ret rfl rfl (p_retZ rfl) ⟨rfl, xT, (fun k _ => rfl)⟩
    · have c2 : ¬ ((fX7_isThere T (K.1 0)) = 0) := c2
      rw [if_neg c2] at H
      refine Ev.go 1 (s' := (h, 23, [(0, .ref 3), (1, .ref t), (2, .int (K.1 0))], [.ref 3])) rfl ?_
      refine Ev.get rfl (by decide) xK.1 rfl ?_
      refine Ev.go 1 (s' := (h, 27, [(0, .ref 3), (1, .ref t), (2, .int (K.1 0))], [.int 1, .ref 4])) rfl ?_
      refine Ev.iald rfl (by decide) xK.2 (by unfold vp_in; decide) ?_
      refine Ev.go 2 (s' := (h, 30, [(0, .ref 3), (1, .ref t), (2, .int (K.1 0))], [.int (K.1 0), .ref t, .int (K.1 1)])) rfl ?_
      obtain ⟨y4, e3, H⟩ := Option.bind_eq_some_iff.mp H
      refine Ev.callE rfl rfl rfl (p_argsV (by have := xT.2.2.2.2; omega) xT.1 (Nat.le_of_ble_eq_true rfl)) rfl (Nat.le_of_ble_eq_true rfl) (spX7_kidsOf xT (K.1 0) e3) ?_
      refine Ev.if2 rfl (fun c5 => ?_) (fun c5 => ?_)
      · have c5 : y4 < (K.1 1) := c5
        rw [if_pos c5] at H
        refine Ev.go 1 (s' := (h, 49, [(0, .ref 3), (1, .ref t), (2, .int (K.1 0))], [.int 0])) rfl ?_
        have H := Option.some.inj H
        subst H
        exact Ev.ret rfl rfl (p_retZ rfl) ⟨rfl, xT, (fun k _ => rfl)⟩
      · have c5 : ¬ (y4 < (K.1 1)) := c5
        rw [if_neg c5] at H
        refine Ev.go 1 (s' := (h, 37, [(0, .ref 3), (1, .ref t), (2, .int (K.1 0))], [.ref 3])) rfl ?_
        refine Ev.get rfl (by decide) xK.1 rfl ?_
        refine Ev.go 1 (s' := (h, 41, [(0, .ref 3), (1, .ref t), (2, .int (K.1 0))], [.int 2, .ref 4])) rfl ?_
        refine Ev.iald rfl (by decide) xK.2 (by unfold vp_in; decide) ?_
        refine Ev.callE rfl rfl rfl rfl rfl (Nat.le_of_ble_eq_true rfl) (spX9_isTag  (K.1 2)) ?_
        refine Ev.if1 rfl (fun c6 => ?_) (fun c6 => ?_)
        · have c6 : ¬ (fX9_isTag (K.1 2)) = 0 := c6
          rw [if_pos c6] at H
          refine Ev.go 3 (s' := (h, 53, [(0, .ref 3), (1, .ref t), (2, .int (K.1 0))], [.ref 3, .int (K.1 0), .ref t])) rfl ?_
          refine Ev.get rfl (by decide) xK.1 rfl ?_
          refine Ev.go 1 (s' := (h, 57, [(0, .ref 3), (1, .ref t), (2, .int (K.1 0))], [.int 1, .ref 4, .int (K.1 0), .ref t])) rfl ?_
          refine Ev.iald rfl (by decide) xK.2 (by unfold vp_in; decide) ?_
          obtain ⟨y8, e7, H⟩ := Option.bind_eq_some_iff.mp H
          refine Ev.callE rfl rfl rfl (p_argsV (by have := xT.2.2.2.2; omega) xT.1 (Nat.le_of_ble_eq_true rfl)) rfl (Nat.le_of_ble_eq_true rfl) (spX7_spotFor xT (K.1 0) (K.1 1) e7) ?_
          refine Ev.go 2 (s' := (h, 63, [(0, .ref 3), (1, .ref t), (2, .int (K.1 0)), (3, .int y8)], [.int y8])) rfl ?_
          refine Ev.if1 rfl (fun c9 => ?_) (fun c9 => ?_)
          · have c9 : ¬ y8 = 0 := c9
            rw [if_pos c9] at H
            refine Ev.go 4 (s' := (h, 72, [(0, .ref 3), (1, .ref t), (2, .int (K.1 0)), (3, .int y8)], [.ref 3, .int y8, .int (K.1 0), .ref t])) rfl ?_
            refine Ev.get rfl (by decide) xK.1 rfl ?_
            refine Ev.go 1 (s' := (h, 76, [(0, .ref 3), (1, .ref t), (2, .int (K.1 0)), (3, .int y8)], [.int 2, .ref 4, .int y8, .int (K.1 0), .ref t])) rfl ?_
            refine Ev.iald rfl (by decide) xK.2 (by unfold vp_in; decide) ?_
            obtain ⟨y11, e10, H⟩ := Option.bind_eq_some_iff.mp H
            refine Ev.call rfl rfl rfl (p_argsV (by have := xT.2.2.2.2; omega) xT.1 (Nat.le_of_ble_eq_true rfl)) rfl (Nat.le_of_ble_eq_true rfl) ((spX7_add xT (K.1 0) y8 (K.1 2) e10).mono (fun r h12 q13 => ?_))
            obtain ⟨rfl, q13_T, q13_f⟩ := q13
            have i14 : isK h12 K := isK.fr q13_f (fr1 (by omega)) xK
            refine Ev.go 2 (s' := (h12, 82, [(0, .ref 3), (1, .ref t), (2, .int (K.1 0)), (3, .int y8)], [.int 1])) rfl ?_
            have H := Option.some.inj H
            subst H
            exact Ev.ret rfl rfl (p_retZ rfl) ⟨rfl, q13_T, (fun k hk => by rw [q13_f k (by have := hk; simp at this ⊢; omega)])⟩
          · have c9 : ¬ (¬ y8 = 0) := c9
            rw [if_neg c9] at H
            refine Ev.go 1 (s' := (h, 67, [(0, .ref 3), (1, .ref t), (2, .int (K.1 0)), (3, .int y8)], [.int 0])) rfl ?_
            have H := Option.some.inj H
            subst H
            exact Ev.ret rfl rfl (p_retZ rfl) ⟨rfl, xT, (fun k _ => rfl)⟩
        · have c6 : ¬ (¬ (fX9_isTag (K.1 2)) = 0) := c6
          rw [if_neg c6] at H
          refine Ev.go 1 (s' := (h, 49, [(0, .ref 3), (1, .ref t), (2, .int (K.1 0))], [.int 0])) rfl ?_
          have H := Option.some.inj H
          subst H
          exact Ev.ret rfl rfl (p_retZ rfl) ⟨rfl, xT, (fun k _ => rfl)⟩
def fX8_apply (n : Nat) (K : tK) (letter : Int32) (T : tT) : Option (Int32 × tK × tT) := (if ¬ letter = 107 then (if ¬ letter = 114 then ((fX8_applyNode n K T).bind fun y4 => (if y4.1 &&& 1 = y4.1 then some (y4.1, K, y4.2) else none)) else ((fX8_applyRoot K T).bind fun y10 => (if y10.1 &&& 1 = y10.1 then some (y10.1, K, y10.2) else none))) else ((fX8_applyKind K T).bind fun y16 => (if y16.1 &&& 1 = y16.1 then some (y16.1, y16.2.1, y16.2.2) else none)))
theorem spX8_apply {d n : Nat} {h : pH} {t : Nat} {K : tK} {T : tT} (xK : isK h K) (xT : isT h t T) (ht : 7 ≤ t) (letter : Int32) {res : Int32 × tK × tT} (H : fX8_apply n K letter T = some res) : Ev (d + 5) mX8_apply (h, 0, [(0, .ref 3), (1, .int letter), (2, .ref t)], []) (fun r h1 => r = some (.int res.1) ∧ isK h1 res.2.1 ∧ isT h1 t res.2.2 ∧ fr [(3, 5), (t, t + 4)] h h1) := by
  unfold fX8_apply at H
  refine Ev.go 2 (s' := (h, 3, [(0, .ref 3), (1, .int letter), (2, .ref t)], [.int 107, .int letter])) rfl ?_
  refine Ev.if2 rfl (fun c1 => ?_) (fun c1 => ?_)
  · have c1 : ¬ letter = 107 := c1
    rw [if_pos c1] at H
    refine Ev.go 2 (s' := (h, 15, [(0, .ref 3), (1, .int letter), (2, .ref t)], [.int 114, .int letter])) rfl ?_
    refine Ev.if2 rfl (fun c2 => ?_) (fun c2 => ?_)
    · have c2 : ¬ letter = 114 := c2
      rw [if_pos c2] at H
      refine Ev.go 2 (s' := (h, 28, [(0, .ref 3), (1, .int letter), (2, .ref t)], [.ref t, .ref 3])) rfl ?_
      obtain ⟨y4, e3, H⟩ := Option.bind_eq_some_iff.mp H
      refine Ev.call rfl rfl rfl (p_argsV (by decide) xK.1 (Nat.le_of_ble_eq_true rfl)) rfl (Nat.le_of_ble_eq_true rfl) ((spX8_applyNode xK xT (by omega)  e3).mono (fun r h5 q6 => ?_))
      obtain ⟨rfl, q6_T, q6_f⟩ := q6
      have i7 : isK h5 K := isK.fr q6_f (fr1 (by omega)) xK
      have v8 : y4.1 &&& 1 = y4.1 := Classical.byContradiction fun q => by rw [if_neg q] at H; cases H
      rw [if_pos v8] at H
      have H := Option.some.inj H
      subst H
      exact Ev.ret rfl rfl (p_retZ (t := .boolean) (congrArg Value.int v8)) ⟨rfl, i7, q6_T, (fun k hk => by rw [q6_f k (by have := hk; simp at this ⊢; omega)])⟩
    · have c2 : ¬ (¬ letter = 114) := c2
      rw [if_neg c2] at H
      refine Ev.go 2 (s' := (h, 20, [(0, .ref 3), (1, .int letter), (2, .ref t)], [.ref t, .ref 3])) rfl ?_
      obtain ⟨y10, e9, H⟩ := Option.bind_eq_some_iff.mp H
      refine Ev.call rfl rfl rfl (p_argsV (by decide) xK.1 (Nat.le_of_ble_eq_true rfl)) rfl (Nat.le_of_ble_eq_true rfl) ((spX8_applyRoot xK xT (by omega)  e9).mono (fun r h11 q12 => ?_))
      obtain ⟨rfl, q12_T, q12_f⟩ := q12
      have i13 : isK h11 K := isK.fr q12_f (fr1 (by omega)) xK
      refine Ev.go 1 (s' := (h11, 31, [(0, .ref 3), (1, .int letter), (2, .ref t)], [.int y10.1])) rfl ?_
      have v14 : y10.1 &&& 1 = y10.1 := Classical.byContradiction fun q => by rw [if_neg q] at H; cases H
      rw [if_pos v14] at H
      have H := Option.some.inj H
      subst H
      exact Ev.ret rfl rfl (p_retZ (t := .boolean) (congrArg Value.int v14)) ⟨rfl, i13, q12_T, (fun k hk => by rw [q12_f k (by have := hk; simp at this ⊢; omega)])⟩
  · have c1 : ¬ (¬ letter = 107) := c1
    rw [if_neg c1] at H
    refine Ev.go 2 (s' := (h, 8, [(0, .ref 3), (1, .int letter), (2, .ref t)], [.ref t, .ref 3])) rfl ?_
    obtain ⟨y16, e15, H⟩ := Option.bind_eq_some_iff.mp H
    refine Ev.call rfl rfl rfl (p_argsV (by decide) xK.1 (Nat.le_of_ble_eq_true rfl)) rfl (Nat.le_of_ble_eq_true rfl) ((spX8_applyKind xK xT (by omega)  e15).mono (fun r h17 q18 => ?_))
    obtain ⟨rfl, q18_K, q18_T, q18_f⟩ := q18
    have v19 : y16.1 &&& 1 = y16.1 := Classical.byContradiction fun q => by rw [if_neg q] at H; cases H
    rw [if_pos v19] at H
    have H := Option.some.inj H
    subst H
    exact Ev.ret rfl rfl (p_retZ (t := .boolean) (congrArg Value.int v19)) ⟨rfl, q18_K, q18_T, (fun k hk => by rw [q18_f k (by have := hk; simp at this ⊢; omega)])⟩
def lX8_read_16 (n : Nat) (L : tL) : Nat → Int32 → tK → tT → Option (Int32 × tK × tT)
  | 0, _, _, _ => none
  | m + 1, x3, K, T => (if 200 ≤ x3 then some ((-1), K, T) else (if (fX1_size L) ≤ K.2.1 then some ((-1), K, T) else ((fX1_letterAt L K.2.1).bind fun y10 => ((fX8_readNumbers n (K.1, K.2.1 + 1, K.2.2) L (fX8_numbersBehind y10)).bind fun y12 => (if y12.1 = 0 then some (K.2.1, y12.2, T) else ((fX8_apply n y12.2 y10 T).bind fun y19 => (if ¬ y19.1 = 0 then lX8_read_16 n L m (x3 + 1) y19.2.1 y19.2.2 else some (K.2.1, y19.2.1, y19.2.2))))))))
theorem llX8_read_16 {d n : Nat} {t : Nat} {L : tL} (ht : 7 ≤ t) : ∀ (m : Nat) (h : pH) (x3 : Int32) (K : tK) (T : tT) (res : Int32 × tK × tT), lX8_read_16 n L m x3 K T = some res → isL h L → isK h K → isT h t T → Ev (d + 6) mX8_read (h, 16, [(0, .ref 3), (1, .ref 1), (2, .ref t), (3, .int x3)], []) (fun r h1 => r = some (.int res.1) ∧ isK h1 res.2.1 ∧ isT h1 t res.2.2 ∧ fr [(3, 5), (t, t + 4)] h h1)
  | 0, h, x3, K, T, res, H, _, _, _ => by cases H
  | m + 1, h, x3, K, T, res, H, xL, xK, xT => by
    have H : (if 200 ≤ x3 then some ((-1), K, T) else (if (fX1_size L) ≤ K.2.1 then some ((-1), K, T) else ((fX1_letterAt L K.2.1).bind fun y10 => ((fX8_readNumbers n (K.1, K.2.1 + 1, K.2.2) L (fX8_numbersBehind y10)).bind fun y12 => (if y12.1 = 0 then some (K.2.1, y12.2, T) else ((fX8_apply n y12.2 y10 T).bind fun y19 => (if ¬ y19.1 = 0 then lX8_read_16 n L m (x3 + 1) y19.2.1 y19.2.2 else some (K.2.1, y19.2.1, y19.2.2)))))))) = some res := H
    refine Ev.go 2 (s' := (h, 20, [(0, .ref 3), (1, .ref 1), (2, .ref t), (3, .int x3)], [.int 200, .int x3])) rfl ?_
    refine Ev.if2 rfl (fun c7 => ?_) (fun c7 => ?_)
    · have c7 : 200 ≤ x3 := c7
      rw [if_pos c7] at H
      refine Ev.go 1 (s' := (h, 93, [(0, .ref 3), (1, .ref 1), (2, .ref t), (3, .int x3)], [.int ((-1))])) rfl ?_
      have H := Option.some.inj H
      subst H
      exact Ev.ret rfl rfl (p_retZ rfl) ⟨rfl, xK, xT, (fun k _ => rfl)⟩
    · have c7 : ¬ (200 ≤ x3) := c7
      rw [if_neg c7] at H
      refine Ev.go 1 (s' := (h, 24, [(0, .ref 3), (1, .ref 1), (2, .ref t), (3, .int x3)], [.ref 3])) rfl ?_
      refine Ev.get rfl (by decide) xK.1 rfl ?_
      refine Ev.go 1 (s' := (h, 28, [(0, .ref 3), (1, .ref 1), (2, .ref t), (3, .int x3)], [.ref 1, .int K.2.1])) rfl ?_
      refine Ev.callE rfl rfl rfl (p_argsV (by decide) xL.1 (Nat.le_of_ble_eq_true rfl)) rfl (Nat.le_of_ble_eq_true rfl) (spX1_size xL ) ?_
      refine Ev.if2 rfl (fun c8 => ?_) (fun c8 => ?_)
      · have c8 : (fX1_size L) ≤ K.2.1 := c8
        rw [if_pos c8] at H
        refine Ev.go 1 (s' := (h, 93, [(0, .ref 3), (1, .ref 1), (2, .ref t), (3, .int x3)], [.int ((-1))])) rfl ?_
        have H := Option.some.inj H
        subst H
        exact Ev.ret rfl rfl (p_retZ rfl) ⟨rfl, xK, xT, (fun k _ => rfl)⟩
      · have c8 : ¬ ((fX1_size L) ≤ K.2.1) := c8
        rw [if_neg c8] at H
        refine Ev.go 1 (s' := (h, 35, [(0, .ref 3), (1, .ref 1), (2, .ref t), (3, .int x3)], [.ref 3])) rfl ?_
        refine Ev.get rfl (by decide) xK.1 rfl ?_
        refine Ev.go 3 (s' := (h, 42, [(0, .ref 3), (1, .ref 1), (2, .ref t), (3, .int x3), (4, .int K.2.1)], [.ref 3, .ref 1])) rfl ?_
        refine Ev.get rfl (by decide) xK.1 rfl ?_
        obtain ⟨y10, e9, H⟩ := Option.bind_eq_some_iff.mp H
        refine Ev.callE rfl rfl rfl (p_argsV (by decide) xL.1 (Nat.le_of_ble_eq_true rfl)) rfl (Nat.le_of_ble_eq_true rfl) (spX1_letterAt xL K.2.1 e9) ?_
        refine Ev.go 3 (s' := (h, 52, [(0, .ref 3), (1, .ref 1), (2, .ref t), (3, .int x3), (4, .int K.2.1), (5, .int y10)], [.ref 3, .ref 3])) rfl ?_
        refine Ev.get rfl (by decide) xK.1 rfl ?_
        refine Ev.go 2 (s' := (h, 57, [(0, .ref 3), (1, .ref 1), (2, .ref t), (3, .int x3), (4, .int K.2.1), (5, .int y10)], [.int (K.2.1 + 1), .ref 3])) rfl ?_
        refine Ev.put rfl rfl (by decide) xK.1 (Nat.le_of_ble_eq_true rfl) rfl rfl (fs' := [.ref 4, .int (K.2.1 + 1), .int K.2.2]) rfl ?_
        refine Ev.go 3 (s' := ((pu h 3 (eO 7 [.ref 4, .int (K.2.1 + 1), .int K.2.2])), 64, [(0, .ref 3), (1, .ref 1), (2, .ref t), (3, .int x3), (4, .int K.2.1), (5, .int y10)], [.int y10, .ref 1, .ref 3])) rfl ?_
        refine Ev.callE rfl rfl rfl rfl rfl (Nat.le_of_ble_eq_true rfl) (spX8_numbersBehind  y10) ?_
        obtain ⟨y12, e11, H⟩ := Option.bind_eq_some_iff.mp H
        refine Ev.call rfl rfl rfl (p_argsV (by decide) pu_s (Nat.le_of_ble_eq_true rfl)) rfl (Nat.le_of_ble_eq_true rfl) ((spX8_readNumbers (h := (pu h 3 (eO 7 [.ref 4, .int (K.2.1 + 1), .int K.2.2]))) (K := (K.1, K.2.1 + 1, K.2.2)) (L := L) ⟨pu_s, (pu_n (by decide) xK.2)⟩ ⟨(pu_n (by decide) xL.1), (pu_n (by decide) xL.2)⟩ (fX8_numbersBehind y10) e11).mono (fun r h13 q14 => ?_))
        obtain ⟨rfl, q14_K, q14_f⟩ := q14
        have i15 : isL h13 L := isL.fr q14_f (fr1 (by omega)) ⟨(pu_n (by decide) xL.1), (pu_n (by decide) xL.2)⟩
        have i16 : isT h13 t T := isT.fr q14_f (fr1 (by omega)) ⟨(pu_n (by omega) xT.1), (pu_n (by omega) xT.2.1), (pu_n (by omega) xT.2.2.1), (pu_n (by omega) xT.2.2.2.1), (by have := xT.2.2.2.2; omega)⟩
        refine Ev.if1 rfl (fun c17 => ?_) (fun c17 => ?_)
        · have c17 : y12.1 = 0 := c17
          rw [if_pos c17] at H
          refine Ev.go 1 (s' := (h13, 85, [(0, .ref 3), (1, .ref 1), (2, .ref t), (3, .int x3), (4, .int K.2.1), (5, .int y10)], [.int K.2.1])) rfl ?_
          have H := Option.some.inj H
          subst H
          exact Ev.ret rfl rfl (p_retZ rfl) ⟨rfl, q14_K, i16, (fun k hk => by rw [q14_f k (by have := hk; simp at this ⊢; omega)]; rw [pu_x (show k ≠ 3 from fun e => by have := hk; simp at this; omega)])⟩
        · have c17 : ¬ (y12.1 = 0) := c17
          rw [if_neg c17] at H
          refine Ev.go 3 (s' := (h13, 77, [(0, .ref 3), (1, .ref 1), (2, .ref t), (3, .int x3), (4, .int K.2.1), (5, .int y10)], [.ref t, .int y10, .ref 3])) rfl ?_
          obtain ⟨y19, e18, H⟩ := Option.bind_eq_some_iff.mp H
          refine Ev.call rfl rfl rfl (p_argsV (by decide) q14_K.1 (Nat.le_of_ble_eq_true rfl)) rfl (Nat.le_of_ble_eq_true rfl) ((spX8_apply q14_K i16 (by omega) y10 e18).mono (fun r h20 q21 => ?_))
          obtain ⟨rfl, q21_K, q21_T, q21_f⟩ := q21
          have i22 : isL h20 L := isL.fr q21_f (fr2 (by omega) (by omega)) i15
          refine Ev.if1 rfl (fun c23 => ?_) (fun c23 => ?_)
          · have c23 : ¬ y19.1 = 0 := c23
            rw [if_pos c23] at H
            refine Ev.go 2 (s' := (h20, 16, [(0, .ref 3), (1, .ref 1), (2, .ref t), (3, .int (x3 + 1)), (4, .int K.2.1), (5, .int y10)], [])) rfl ?_
            refine Ev.live rfl (lv' := [(0, .ref 3), (1, .ref 1), (2, .ref t), (3, .int (x3 + 1))]) rfl ?_
            refine (llX8_read_16 ht m h20 (x3 + 1) y19.2.1 y19.2.2 _ H i22 q21_K q21_T).mono (fun r h9 q9 => ?_)
            obtain ⟨q9r, q9_0, q9_1, q9f⟩ := q9
            exact ⟨q9r, q9_0, q9_1, fun k hk => (q9f k hk).trans (by rw [q21_f k (by have := hk; simp at this ⊢; omega)]; rw [q14_f k (by have := hk; simp at this ⊢; omega)]; rw [pu_x (show k ≠ 3 from fun e => by have := hk; simp at this; omega)])⟩
          · have c23 : ¬ (¬ y19.1 = 0) := c23
            rw [if_neg c23] at H
            refine Ev.go 1 (s' := (h20, 85, [(0, .ref 3), (1, .ref 1), (2, .ref t), (3, .int x3), (4, .int K.2.1), (5, .int y10)], [.int K.2.1])) rfl ?_
            have H := Option.some.inj H
            subst H
            exact Ev.ret rfl rfl (p_retZ rfl) ⟨rfl, q21_K, q21_T, (fun k hk => by rw [q21_f k (by have := hk; simp at this ⊢; omega)]; rw [q14_f k (by have := hk; simp at this ⊢; omega)]; rw [pu_x (show k ≠ 3 from fun e => by have := hk; simp at this; omega)])⟩
def fX8_read (n : Nat) (K : tK) (L : tL) (T : tT) : Option (Int32 × tK × tT) := ((fX7_clear T).bind fun y2 => lX8_read_16 n L n 0 (K.1, 0, 0) y2)
theorem spX8_read {d n : Nat} {h : pH} {t : Nat} {K : tK} {L : tL} {T : tT} (xK : isK h K) (xL : isL h L) (xT : isT h t T) (ht : 7 ≤ t) {res : Int32 × tK × tT} (H : fX8_read n K L T = some res) : Ev (d + 6) mX8_read (h, 0, [(0, .ref 3), (1, .ref 1), (2, .ref t)], []) (fun r h1 => r = some (.int res.1) ∧ isK h1 res.2.1 ∧ isT h1 t res.2.2 ∧ fr [(3, 5), (t, t + 4)] h h1) := by
  unfold fX8_read at H
  refine Ev.go 1 (s' := (h, 1, [(0, .ref 3), (1, .ref 1), (2, .ref t)], [.ref t])) rfl ?_
  obtain ⟨y2, e1, H⟩ := Option.bind_eq_some_iff.mp H
  refine Ev.call rfl rfl rfl (p_argsV (by have := xT.2.2.2.2; omega) xT.1 (Nat.le_of_ble_eq_true rfl)) rfl (Nat.le_of_ble_eq_true rfl) ((spX7_clear xT  e1).mono (fun r h3 q4 => ?_))
  obtain ⟨rfl, q4_T, q4_f⟩ := q4
  have i5 : isK h3 K := isK.fr q4_f (fr1 (by omega)) xK
  have i6 : isL h3 L := isL.fr q4_f (fr1 (by omega)) xL
  refine Ev.go 2 (s' := (h3, 6, [(0, .ref 3), (1, .ref 1), (2, .ref t)], [.int 0, .ref 3])) rfl ?_
  refine Ev.put rfl rfl (by decide) i5.1 (Nat.le_of_ble_eq_true rfl) rfl rfl (fs' := [.ref 4, .int 0, .int K.2.2]) rfl ?_
  refine Ev.go 2 (s' := ((pu h3 3 (eO 7 [.ref 4, .int 0, .int K.2.2])), 11, [(0, .ref 3), (1, .ref 1), (2, .ref t)], [.int 0, .ref 3])) rfl ?_
  refine Ev.put rfl rfl (by decide) pu_s (Nat.le_of_ble_eq_true rfl) rfl rfl (fs' := [.ref 4, .int 0, .int 0]) rfl ?_
  refine Ev.go 2 (s' := ((pu (pu h3 3 (eO 7 [.ref 4, .int 0, .int K.2.2])) 3 (eO 7 [.ref 4, .int 0, .int 0])), 16, [(0, .ref 3), (1, .ref 1), (2, .ref t), (3, .int 0)], [])) rfl ?_
  refine Ev.live rfl (lv' := [(0, .ref 3), (1, .ref 1), (2, .ref t), (3, .int 0)]) rfl ?_
  refine (llX8_read_16 ht n (pu (pu h3 3 (eO 7 [.ref 4, .int 0, .int K.2.2])) 3 (eO 7 [.ref 4, .int 0, .int 0])) 0 (K.1, 0, 0) y2 _ H ⟨(pu_n (by decide) (pu_n (by decide) i6.1)), (pu_n (by decide) (pu_n (by decide) i6.2))⟩ ⟨pu_s, (pu_n (by decide) (pu_n (by decide) i5.2))⟩ ⟨(pu_n (by omega) (pu_n (by omega) q4_T.1)), (pu_n (by omega) (pu_n (by omega) q4_T.2.1)), (pu_n (by omega) (pu_n (by omega) q4_T.2.2.1)), (pu_n (by omega) (pu_n (by omega) q4_T.2.2.2.1)), (by have := q4_T.2.2.2.2; omega)⟩).mono (fun r h9 q9 => ?_)
  obtain ⟨q9r, q9_0, q9_1, q9f⟩ := q9
  exact ⟨q9r, q9_0, q9_1, fun k hk => (q9f k hk).trans (by rw [pu_x (show k ≠ 3 from fun e => by have := hk; simp at this; omega)]; rw [pu_x (show k ≠ 3 from fun e => by have := hk; simp at this; omega)]; rw [q4_f k (by have := hk; simp at this ⊢; omega)])⟩
def fX6_axisFor (letter : Int32) : Int32 := (if letter = 43 then 2 else (if letter = 47 then 0 else (if letter = 58 then 1 else (if letter = 126 then 3 else (-1)))))
theorem spX6_axisFor {d : Nat} {h : pH}  (letter : Int32) : Ev d mX6_axisFor (h, 0, [(0, .int letter)], []) (fun r h1 => r = some (.int (fX6_axisFor letter)) ∧ h1 = h) := by
  refine Ev.go 1 (s' := (h, 1, [(0, .int letter)], [.int letter])) rfl ?_
  rcases Classical.em (letter = 43) with c1 | c1
  · skip
    refine Ev.one (s' := (h, 48, [(0, .int letter)], [])) rfl rfl (by rw [c1]; rfl) ?_
    refine Ev.go 1 (s' := (h, 49, [(0, .int letter)], [.int 2])) rfl ?_
    exact Ev.ret rfl rfl (p_retZ rfl) ⟨congrArg (fun z => some (Value.int z)) (by rw [fX6_axisFor, if_pos c1]), rfl⟩
  · skip
    rcases Classical.em (letter = 47) with c2 | c2
    · skip
      refine Ev.one (s' := (h, 44, [(0, .int letter)], [])) rfl rfl (by rw [c2]; rfl) ?_
      refine Ev.go 1 (s' := (h, 45, [(0, .int letter)], [.int 0])) rfl ?_
      exact Ev.ret rfl rfl (p_retZ rfl) ⟨congrArg (fun z => some (Value.int z)) (by rw [fX6_axisFor, if_neg c1, if_pos c2]), rfl⟩
    · skip
      rcases Classical.em (letter = 58) with c3 | c3
      · skip
        refine Ev.one (s' := (h, 46, [(0, .int letter)], [])) rfl rfl (by rw [c3]; rfl) ?_
        refine Ev.go 1 (s' := (h, 47, [(0, .int letter)], [.int 1])) rfl ?_
        exact Ev.ret rfl rfl (p_retZ rfl) ⟨congrArg (fun z => some (Value.int z)) (by rw [fX6_axisFor, if_neg c1, if_neg c2, if_pos c3]), rfl⟩
      · skip
        rcases Classical.em (letter = 126) with c4 | c4
        · skip
          refine Ev.one (s' := (h, 50, [(0, .int letter)], [])) rfl rfl (by rw [c4]; rfl) ?_
          refine Ev.go 1 (s' := (h, 51, [(0, .int letter)], [.int 3])) rfl ?_
          exact Ev.ret rfl rfl (p_retZ rfl) ⟨congrArg (fun z => some (Value.int z)) (by rw [fX6_axisFor, if_neg c1, if_neg c2, if_neg c3, if_pos c4]), rfl⟩
        · skip
          refine Ev.one (s' := (h, 52, [(0, .int letter)], [])) rfl rfl (p_swl (p_sw_43_126 c1 c2 c3 c4)) ?_
          refine Ev.go 1 (s' := (h, 53, [(0, .int letter)], [.int ((-1))])) rfl ?_
          exact Ev.ret rfl rfl (p_retZ rfl) ⟨congrArg (fun z => some (Value.int z)) (by rw [fX6_axisFor, if_neg c1, if_neg c2, if_neg c3, if_neg c4]), rfl⟩
def fX6_opens (U : tU) : Option (Int32 × tU) := (if U.2.1 < 8 then (if U.2.1 < 0 ∨ 8 ≤ U.2.1.toNatClampNeg then none else some (1, (upd U.1 U.2.1.toNatClampNeg U.2.2.2.1, U.2.1 + 1, 1, U.2.2.2.1, U.2.2.2.2))) else some (0, U))
theorem spX6_opens {d : Nat} {h : pH} {U : tU} (xU : isU h U) {res : Int32 × tU} (H : fX6_opens U = some res) : Ev d mX6_opens (h, 0, [(0, .ref 5)], []) (fun r h1 => r = some (.int res.1) ∧ isU h1 res.2 ∧ fr [(5, 7)] h h1) := by
  unfold fX6_opens at H
  refine Ev.go 1 (s' := (h, 1, [(0, .ref 5)], [.ref 5])) rfl ?_
  refine Ev.get rfl (by decide) xU.1 rfl ?_
  refine Ev.go 1 (s' := (h, 6, [(0, .ref 5)], [.int 8, .int U.2.1])) rfl ?_
  refine Ev.if2 rfl (fun c1 => ?_) (fun c1 => ?_)
  · have c1 : U.2.1 < 8 := c1
    rw [if_pos c1] at H
    refine Ev.go 1 (s' := (h, 12, [(0, .ref 5)], [.ref 5])) rfl ?_
    refine Ev.get rfl (by decide) xU.1 rfl ?_
    refine Ev.go 1 (s' := (h, 16, [(0, .ref 5)], [.ref 5, .ref 6])) rfl ?_
    refine Ev.get rfl (by decide) xU.1 rfl ?_
    refine Ev.go 1 (s' := (h, 20, [(0, .ref 5)], [.ref 5, .int U.2.1, .ref 6])) rfl ?_
    refine Ev.get rfl (by decide) xU.1 rfl ?_
    have v2 : vp_in U.2.1 8 := fun q => by rw [if_pos q] at H; cases H
    rw [if_neg v2] at H
    refine Ev.iast rfl (by decide) xU.2 v2 ?_
    refine Ev.go 2 (s' := ((pu h 6 (eI 8 (upd U.1 U.2.1.toNatClampNeg U.2.2.2.1))), 26, [(0, .ref 5)], [.ref 5, .ref 5])) rfl ?_
    refine Ev.get rfl (by decide) (pu_n (by decide) xU.1) rfl ?_
    refine Ev.go 2 (s' := ((pu h 6 (eI 8 (upd U.1 U.2.1.toNatClampNeg U.2.2.2.1))), 31, [(0, .ref 5)], [.int (U.2.1 + 1), .ref 5])) rfl ?_
    refine Ev.put rfl rfl (by decide) (pu_n (by decide) xU.1) (Nat.le_of_ble_eq_true rfl) rfl rfl (fs' := [.ref 6, .int (U.2.1 + 1), .int U.2.2.1, .int U.2.2.2.1, .int U.2.2.2.2]) rfl ?_
    refine Ev.go 2 (s' := ((pu (pu h 6 (eI 8 (upd U.1 U.2.1.toNatClampNeg U.2.2.2.1))) 5 (eO 5 [.ref 6, .int (U.2.1 + 1), .int U.2.2.1, .int U.2.2.2.1, .int U.2.2.2.2])), 36, [(0, .ref 5)], [.int 1, .ref 5])) rfl ?_
    refine Ev.put rfl rfl (by decide) pu_s (Nat.le_of_ble_eq_true rfl) rfl rfl (fs' := [.ref 6, .int (U.2.1 + 1), .int 1, .int U.2.2.2.1, .int U.2.2.2.2]) rfl ?_
    refine Ev.go 1 (s' := ((pu (pu (pu h 6 (eI 8 (upd U.1 U.2.1.toNatClampNeg U.2.2.2.1))) 5 (eO 5 [.ref 6, .int (U.2.1 + 1), .int U.2.2.1, .int U.2.2.2.1, .int U.2.2.2.2])) 5 (eO 5 [.ref 6, .int (U.2.1 + 1), .int 1, .int U.2.2.2.1, .int U.2.2.2.2])), 40, [(0, .ref 5)], [.int 1])) rfl ?_
    have H := Option.some.inj H
    subst H
    exact Ev.ret rfl rfl (p_retZ rfl) ⟨rfl, ⟨pu_s, (pu_n (by decide) (pu_n (by decide) pu_s))⟩, (fun k hk => by rw [pu_x (show k ≠ 5 from fun e => by have := hk; simp at this; omega)]; rw [pu_x (show k ≠ 5 from fun e => by have := hk; simp at this; omega)]; rw [pu_x (show k ≠ 6 from fun e => by have := hk; simp at this; omega)])⟩
  · have c1 : ¬ (U.2.1 < 8) := c1
    rw [if_neg c1] at H
    refine Ev.go 1 (s' := (h, 10, [(0, .ref 5)], [.int 0])) rfl ?_
    have H := Option.some.inj H
    subst H
    exact Ev.ret rfl rfl (p_retZ rfl) ⟨rfl, xU, (fun k _ => rfl)⟩
def fX6_closes (U : tU) : Option (Int32 × tU) := (if 0 < U.2.1 then (if (U.2.1 - 1) < 0 ∨ 8 ≤ (U.2.1 - 1).toNatClampNeg then none else some (1, (U.1, U.2.1 - 1, U.2.2.1, U.1 (U.2.1 - 1).toNatClampNeg, U.2.2.2.2))) else some (0, U))
theorem spX6_closes {d : Nat} {h : pH} {U : tU} (xU : isU h U) {res : Int32 × tU} (H : fX6_closes U = some res) : Ev d mX6_closes (h, 0, [(0, .ref 5)], []) (fun r h1 => r = some (.int res.1) ∧ isU h1 res.2 ∧ fr [(5, 7)] h h1) := by
  unfold fX6_closes at H
  refine Ev.go 1 (s' := (h, 1, [(0, .ref 5)], [.ref 5])) rfl ?_
  refine Ev.get rfl (by decide) xU.1 rfl ?_
  refine Ev.if1 rfl (fun c1 => ?_) (fun c1 => ?_)
  · have c1 : 0 < U.2.1 := c1
    rw [if_pos c1] at H
    refine Ev.go 2 (s' := (h, 11, [(0, .ref 5)], [.ref 5, .ref 5])) rfl ?_
    refine Ev.get rfl (by decide) xU.1 rfl ?_
    refine Ev.go 2 (s' := (h, 16, [(0, .ref 5)], [.int (U.2.1 - 1), .ref 5])) rfl ?_
    refine Ev.put rfl rfl (by decide) xU.1 (Nat.le_of_ble_eq_true rfl) rfl rfl (fs' := [.ref 6, .int (U.2.1 - 1), .int U.2.2.1, .int U.2.2.2.1, .int U.2.2.2.2]) rfl ?_
    refine Ev.go 2 (s' := ((pu h 5 (eO 5 [.ref 6, .int (U.2.1 - 1), .int U.2.2.1, .int U.2.2.2.1, .int U.2.2.2.2])), 21, [(0, .ref 5)], [.ref 5, .ref 5])) rfl ?_
    refine Ev.get rfl (by decide) pu_s rfl ?_
    refine Ev.go 1 (s' := ((pu h 5 (eO 5 [.ref 6, .int (U.2.1 - 1), .int U.2.2.1, .int U.2.2.2.1, .int U.2.2.2.2])), 25, [(0, .ref 5)], [.ref 5, .ref 6, .ref 5])) rfl ?_
    refine Ev.get rfl (by decide) pu_s rfl ?_
    have v2 : vp_in (U.2.1 - 1) 8 := fun q => by rw [if_pos q] at H; cases H
    rw [if_neg v2] at H
    refine Ev.iald rfl (by decide) (pu_n (by decide) xU.2) v2 ?_
    refine Ev.put rfl rfl (by decide) pu_s (Nat.le_of_ble_eq_true rfl) rfl rfl (fs' := [.ref 6, .int (U.2.1 - 1), .int U.2.2.1, .int (U.1 (U.2.1 - 1).toNatClampNeg), .int U.2.2.2.2]) rfl ?_
    refine Ev.go 1 (s' := ((pu (pu h 5 (eO 5 [.ref 6, .int (U.2.1 - 1), .int U.2.2.1, .int U.2.2.2.1, .int U.2.2.2.2])) 5 (eO 5 [.ref 6, .int (U.2.1 - 1), .int U.2.2.1, .int (U.1 (U.2.1 - 1).toNatClampNeg), .int U.2.2.2.2])), 33, [(0, .ref 5)], [.int 1])) rfl ?_
    have H := Option.some.inj H
    subst H
    exact Ev.ret rfl rfl (p_retZ rfl) ⟨rfl, ⟨pu_s, (pu_n (by decide) (pu_n (by decide) xU.2))⟩, (fun k hk => by rw [pu_x (show k ≠ 5 from fun e => by have := hk; simp at this; omega)]; rw [pu_x (show k ≠ 5 from fun e => by have := hk; simp at this; omega)])⟩
  · have c1 : ¬ (0 < U.2.1) := c1
    rw [if_neg c1] at H
    refine Ev.go 1 (s' := (h, 8, [(0, .ref 5)], [.int 0])) rfl ?_
    have H := Option.some.inj H
    subst H
    exact Ev.ret rfl rfl (p_retZ rfl) ⟨rfl, xU, (fun k _ => rfl)⟩
def fX6_takesAxis (U : tU) (letter : Int32) : Option (Int32 × tU) := (if 0 ≤ (fX6_axisFor letter) then some (1, (U.1, U.2.1, 0, U.2.2.2.1, fX6_axisFor letter)) else some (0, U))
theorem spX6_takesAxis {d : Nat} {h : pH} {U : tU} (xU : isU h U) (letter : Int32) {res : Int32 × tU} (H : fX6_takesAxis U letter = some res) : Ev (d + 1) mX6_takesAxis (h, 0, [(0, .ref 5), (1, .int letter)], []) (fun r h1 => r = some (.int res.1) ∧ isU h1 res.2 ∧ fr [(5, 7)] h h1) := by
  unfold fX6_takesAxis at H
  refine Ev.go 1 (s' := (h, 1, [(0, .ref 5), (1, .int letter)], [.int letter])) rfl ?_
  refine Ev.callE rfl rfl rfl rfl rfl (Nat.le_of_ble_eq_true rfl) (spX6_axisFor  letter) ?_
  refine Ev.go 2 (s' := (h, 6, [(0, .ref 5), (1, .int letter), (2, .int (fX6_axisFor letter))], [.int (fX6_axisFor letter)])) rfl ?_
  refine Ev.if1 rfl (fun c1 => ?_) (fun c1 => ?_)
  · have c1 : 0 ≤ (fX6_axisFor letter) := c1
    rw [if_pos c1] at H
    refine Ev.go 2 (s' := (h, 13, [(0, .ref 5), (1, .int letter), (2, .int (fX6_axisFor letter))], [.int (fX6_axisFor letter), .ref 5])) rfl ?_
    refine Ev.put rfl rfl (by decide) xU.1 (Nat.le_of_ble_eq_true rfl) rfl rfl (fs' := [.ref 6, .int U.2.1, .int U.2.2.1, .int U.2.2.2.1, .int (fX6_axisFor letter)]) rfl ?_
    refine Ev.go 2 (s' := ((pu h 5 (eO 5 [.ref 6, .int U.2.1, .int U.2.2.1, .int U.2.2.2.1, .int (fX6_axisFor letter)])), 18, [(0, .ref 5), (1, .int letter), (2, .int (fX6_axisFor letter))], [.int 0, .ref 5])) rfl ?_
    refine Ev.put rfl rfl (by decide) pu_s (Nat.le_of_ble_eq_true rfl) rfl rfl (fs' := [.ref 6, .int U.2.1, .int 0, .int U.2.2.2.1, .int (fX6_axisFor letter)]) rfl ?_
    refine Ev.go 1 (s' := ((pu (pu h 5 (eO 5 [.ref 6, .int U.2.1, .int U.2.2.1, .int U.2.2.2.1, .int (fX6_axisFor letter)])) 5 (eO 5 [.ref 6, .int U.2.1, .int 0, .int U.2.2.2.1, .int (fX6_axisFor letter)])), 22, [(0, .ref 5), (1, .int letter), (2, .int (fX6_axisFor letter))], [.int 1])) rfl ?_
    have H := Option.some.inj H
    subst H
    exact Ev.ret rfl rfl (p_retZ rfl) ⟨rfl, ⟨pu_s, (pu_n (by decide) (pu_n (by decide) xU.2))⟩, (fun k hk => by rw [pu_x (show k ≠ 5 from fun e => by have := hk; simp at this; omega)]; rw [pu_x (show k ≠ 5 from fun e => by have := hk; simp at this; omega)])⟩
  · have c1 : ¬ (0 ≤ (fX6_axisFor letter)) := c1
    rw [if_neg c1] at H
    refine Ev.go 1 (s' := (h, 10, [(0, .ref 5), (1, .int letter), (2, .int (fX6_axisFor letter))], [.int 0])) rfl ?_
    have H := Option.some.inj H
    subst H
    exact Ev.ret rfl rfl (p_retZ rfl) ⟨rfl, xU, (fun k _ => rfl)⟩
def fX6_takesTag (U : tU) (letter : Int32) (S : tS) : Option (Int32 × tU × tS) := (if ¬ letter = 42 then (if letter = 42 then ((fX5_add S (letter - 97) U.2.2.2.1 U.2.2.2.2).bind fun y4 => (if 0 ≤ y4.1 then (if ¬ U.2.1 = 0 then some (1, (U.1, U.2.1, 2, y4.1, U.2.2.2.2), y4.2) else ((fX5_setLastOutermost y4.2 y4.1).bind fun y11 => some (1, (U.1, U.2.1, 2, y4.1, U.2.2.2.2), y11))) else some (0, U, y4.2))) else (if ¬ (fX9_isTag (letter - 97)) = 0 then ((fX5_add S (letter - 97) U.2.2.2.1 U.2.2.2.2).bind fun y17 => (if 0 ≤ y17.1 then (if ¬ U.2.1 = 0 then some (1, (U.1, U.2.1, 2, y17.1, U.2.2.2.2), y17.2) else ((fX5_setLastOutermost y17.2 y17.1).bind fun y24 => some (1, (U.1, U.2.1, 2, y17.1, U.2.2.2.2), y24))) else some (0, U, y17.2))) else some (0, U, S))) else (if letter = 42 then ((fX5_add S 6 U.2.2.2.1 U.2.2.2.2).bind fun y30 => (if 0 ≤ y30.1 then (if ¬ U.2.1 = 0 then some (1, (U.1, U.2.1, 2, y30.1, U.2.2.2.2), y30.2) else ((fX5_setLastOutermost y30.2 y30.1).bind fun y37 => some (1, (U.1, U.2.1, 2, y30.1, U.2.2.2.2), y37))) else some (0, U, y30.2))) else (if ¬ (fX9_isTag 6) = 0 then ((fX5_add S 6 U.2.2.2.1 U.2.2.2.2).bind fun y43 => (if 0 ≤ y43.1 then (if ¬ U.2.1 = 0 then some (1, (U.1, U.2.1, 2, y43.1, U.2.2.2.2), y43.2) else ((fX5_setLastOutermost y43.2 y43.1).bind fun y50 => some (1, (U.1, U.2.1, 2, y43.1, U.2.2.2.2), y50))) else some (0, U, y43.2))) else some (0, U, S))))
theorem spX6_takesTag {d : Nat} {h : pH} {t : Nat} {U : tU} {S : tS} (xU : isU h U) (xS : isS h t S) (ht : 7 ≤ t) (letter : Int32) {res : Int32 × tU × tS} (H : fX6_takesTag U letter S = some res) : Ev (d + 1) mX6_takesTag (h, 0, [(0, .ref 5), (1, .int letter), (2, .ref t)], []) (fun r h1 => r = some (.int res.1) ∧ isU h1 res.2.1 ∧ isS h1 t res.2.2 ∧ fr [(5, 7), (t, t + 4)] h h1) := by
  unfold fX6_takesTag at H
  refine Ev.go 2 (s' := (h, 3, [(0, .ref 5), (1, .int letter), (2, .ref t)], [.int 42, .int letter])) rfl ?_
  refine Ev.if2 rfl (fun c1 => ?_) (fun c1 => ?_)
  · have c1 : ¬ letter = 42 := c1
    rw [if_pos c1] at H
    refine Ev.go 6 (s' := (h, 19, [(0, .ref 5), (1, .int letter), (2, .ref t), (3, .int (letter - 97))], [.int 42, .int letter])) rfl ?_
    refine Ev.if2 rfl (fun c2 => ?_) (fun c2 => ?_)
    · have c2 : letter = 42 := c2
      rw [if_pos c2] at H
      refine Ev.go 3 (s' := (h, 34, [(0, .ref 5), (1, .int letter), (2, .ref t), (3, .int (letter - 97))], [.ref 5, .int (letter - 97), .ref t])) rfl ?_
      refine Ev.get rfl (by decide) xU.1 rfl ?_
      refine Ev.go 1 (s' := (h, 38, [(0, .ref 5), (1, .int letter), (2, .ref t), (3, .int (letter - 97))], [.ref 5, .int U.2.2.2.1, .int (letter - 97), .ref t])) rfl ?_
      refine Ev.get rfl (by decide) xU.1 rfl ?_
      obtain ⟨y4, e3, H⟩ := Option.bind_eq_some_iff.mp H
      refine Ev.call rfl rfl rfl (p_argsV (by have := xS.2.2.2.2; omega) xS.1 (Nat.le_of_ble_eq_true rfl)) rfl (Nat.le_of_ble_eq_true rfl) ((spX5_add xS (letter - 97) U.2.2.2.1 U.2.2.2.2 e3).mono (fun r h5 q6 => ?_))
      obtain ⟨rfl, q6_S, q6_f⟩ := q6
      have i7 : isU h5 U := isU.fr q6_f (fr1 (by omega)) xU
      refine Ev.go 2 (s' := (h5, 48, [(0, .ref 5), (1, .int letter), (2, .ref t), (3, .int (letter - 97)), (4, .int y4.1)], [.int y4.1])) rfl ?_
      refine Ev.if1 rfl (fun c8 => ?_) (fun c8 => ?_)
      · have c8 : 0 ≤ y4.1 := c8
        rw [if_pos c8] at H
        refine Ev.go 1 (s' := (h5, 54, [(0, .ref 5), (1, .int letter), (2, .ref t), (3, .int (letter - 97)), (4, .int y4.1)], [.ref 5])) rfl ?_
        refine Ev.get rfl (by decide) i7.1 rfl ?_
        refine Ev.if1 rfl (fun c9 => ?_) (fun c9 => ?_)
        · have c9 : ¬ U.2.1 = 0 := c9
          rw [if_pos c9] at H
          refine Ev.go 2 (s' := (h5, 69, [(0, .ref 5), (1, .int letter), (2, .ref t), (3, .int (letter - 97)), (4, .int y4.1)], [.int y4.1, .ref 5])) rfl ?_
          refine Ev.put rfl rfl (by decide) i7.1 (Nat.le_of_ble_eq_true rfl) rfl rfl (fs' := [.ref 6, .int U.2.1, .int U.2.2.1, .int y4.1, .int U.2.2.2.2]) rfl ?_
          refine Ev.go 2 (s' := ((pu h5 5 (eO 5 [.ref 6, .int U.2.1, .int U.2.2.1, .int y4.1, .int U.2.2.2.2])), 74, [(0, .ref 5), (1, .int letter), (2, .ref t), (3, .int (letter - 97)), (4, .int y4.1)], [.int 2, .ref 5])) rfl ?_
          refine Ev.put rfl rfl (by decide) pu_s (Nat.le_of_ble_eq_true rfl) rfl rfl (fs' := [.ref 6, .int U.2.1, .int 2, .int y4.1, .int U.2.2.2.2]) rfl ?_
          refine Ev.go 1 (s' := ((pu (pu h5 5 (eO 5 [.ref 6, .int U.2.1, .int U.2.2.1, .int y4.1, .int U.2.2.2.2])) 5 (eO 5 [.ref 6, .int U.2.1, .int 2, .int y4.1, .int U.2.2.2.2])), 78, [(0, .ref 5), (1, .int letter), (2, .ref t), (3, .int (letter - 97)), (4, .int y4.1)], [.int 1])) rfl ?_
          have H := Option.some.inj H
          subst H
          exact Ev.ret rfl rfl (p_retZ rfl) ⟨rfl, ⟨pu_s, (pu_n (by decide) (pu_n (by decide) i7.2))⟩, ⟨(pu_n (by omega) (pu_n (by omega) q6_S.1)), (pu_n (by omega) (pu_n (by omega) q6_S.2.1)), (pu_n (by omega) (pu_n (by omega) q6_S.2.2.1)), (pu_n (by omega) (pu_n (by omega) q6_S.2.2.2.1)), (by have := q6_S.2.2.2.2; omega)⟩, (fun k hk => by rw [pu_x (show k ≠ 5 from fun e => by have := hk; simp at this; omega)]; rw [pu_x (show k ≠ 5 from fun e => by have := hk; simp at this; omega)]; rw [q6_f k (by have := hk; simp at this ⊢; omega)])⟩
        · have c9 : ¬ (¬ U.2.1 = 0) := c9
          rw [if_neg c9] at H
          refine Ev.go 2 (s' := (h5, 63, [(0, .ref 5), (1, .int letter), (2, .ref t), (3, .int (letter - 97)), (4, .int y4.1)], [.int y4.1, .ref t])) rfl ?_
          obtain ⟨y11, e10, H⟩ := Option.bind_eq_some_iff.mp H
          refine Ev.call rfl rfl rfl (p_argsV (by have := q6_S.2.2.2.2; omega) q6_S.1 (Nat.le_of_ble_eq_true rfl)) rfl (Nat.le_of_ble_eq_true rfl) ((spX5_setLastOutermost q6_S y4.1 e10).mono (fun r h12 q13 => ?_))
          obtain ⟨rfl, q13_S, q13_f⟩ := q13
          have i14 : isU h12 U := isU.fr q13_f (fr1 (by omega)) i7
          refine Ev.go 2 (s' := (h12, 69, [(0, .ref 5), (1, .int letter), (2, .ref t), (3, .int (letter - 97)), (4, .int y4.1)], [.int y4.1, .ref 5])) rfl ?_
          refine Ev.put rfl rfl (by decide) i14.1 (Nat.le_of_ble_eq_true rfl) rfl rfl (fs' := [.ref 6, .int U.2.1, .int U.2.2.1, .int y4.1, .int U.2.2.2.2]) rfl ?_
          refine Ev.go 2 (s' := ((pu h12 5 (eO 5 [.ref 6, .int U.2.1, .int U.2.2.1, .int y4.1, .int U.2.2.2.2])), 74, [(0, .ref 5), (1, .int letter), (2, .ref t), (3, .int (letter - 97)), (4, .int y4.1)], [.int 2, .ref 5])) rfl ?_
          refine Ev.put rfl rfl (by decide) pu_s (Nat.le_of_ble_eq_true rfl) rfl rfl (fs' := [.ref 6, .int U.2.1, .int 2, .int y4.1, .int U.2.2.2.2]) rfl ?_
          refine Ev.go 1 (s' := ((pu (pu h12 5 (eO 5 [.ref 6, .int U.2.1, .int U.2.2.1, .int y4.1, .int U.2.2.2.2])) 5 (eO 5 [.ref 6, .int U.2.1, .int 2, .int y4.1, .int U.2.2.2.2])), 78, [(0, .ref 5), (1, .int letter), (2, .ref t), (3, .int (letter - 97)), (4, .int y4.1)], [.int 1])) rfl ?_
          have H := Option.some.inj H
          subst H
          exact Ev.ret rfl rfl (p_retZ rfl) ⟨rfl, ⟨pu_s, (pu_n (by decide) (pu_n (by decide) i14.2))⟩, ⟨(pu_n (by omega) (pu_n (by omega) q13_S.1)), (pu_n (by omega) (pu_n (by omega) q13_S.2.1)), (pu_n (by omega) (pu_n (by omega) q13_S.2.2.1)), (pu_n (by omega) (pu_n (by omega) q13_S.2.2.2.1)), (by have := q13_S.2.2.2.2; omega)⟩, (fun k hk => by rw [pu_x (show k ≠ 5 from fun e => by have := hk; simp at this; omega)]; rw [pu_x (show k ≠ 5 from fun e => by have := hk; simp at this; omega)]; rw [q13_f k (by have := hk; simp at this ⊢; omega)]; rw [q6_f k (by have := hk; simp at this ⊢; omega)])⟩
      · have c8 : ¬ (0 ≤ y4.1) := c8
        rw [if_neg c8] at H
        refine Ev.go 1 (s' := (h5, 52, [(0, .ref 5), (1, .int letter), (2, .ref t), (3, .int (letter - 97)), (4, .int y4.1)], [.int 0])) rfl ?_
        have H := Option.some.inj H
        subst H
        exact Ev.ret rfl rfl (p_retZ rfl) ⟨rfl, i7, q6_S, (fun k hk => by rw [q6_f k (by have := hk; simp at this ⊢; omega)])⟩
    · have c2 : ¬ (letter = 42) := c2
      rw [if_neg c2] at H
      refine Ev.go 1 (s' := (h, 23, [(0, .ref 5), (1, .int letter), (2, .ref t), (3, .int (letter - 97))], [.int (letter - 97)])) rfl ?_
      refine Ev.callE rfl rfl rfl rfl rfl (Nat.le_of_ble_eq_true rfl) (spX9_isTag  (letter - 97)) ?_
      refine Ev.if1 rfl (fun c15 => ?_) (fun c15 => ?_)
      · have c15 : ¬ (fX9_isTag (letter - 97)) = 0 := c15
        rw [if_pos c15] at H
        refine Ev.go 3 (s' := (h, 34, [(0, .ref 5), (1, .int letter), (2, .ref t), (3, .int (letter - 97))], [.ref 5, .int (letter - 97), .ref t])) rfl ?_
        refine Ev.get rfl (by decide) xU.1 rfl ?_
        refine Ev.go 1 (s' := (h, 38, [(0, .ref 5), (1, .int letter), (2, .ref t), (3, .int (letter - 97))], [.ref 5, .int U.2.2.2.1, .int (letter - 97), .ref t])) rfl ?_
        refine Ev.get rfl (by decide) xU.1 rfl ?_
        obtain ⟨y17, e16, H⟩ := Option.bind_eq_some_iff.mp H
        refine Ev.call rfl rfl rfl (p_argsV (by have := xS.2.2.2.2; omega) xS.1 (Nat.le_of_ble_eq_true rfl)) rfl (Nat.le_of_ble_eq_true rfl) ((spX5_add xS (letter - 97) U.2.2.2.1 U.2.2.2.2 e16).mono (fun r h18 q19 => ?_))
        obtain ⟨rfl, q19_S, q19_f⟩ := q19
        have i20 : isU h18 U := isU.fr q19_f (fr1 (by omega)) xU
        refine Ev.go 2 (s' := (h18, 48, [(0, .ref 5), (1, .int letter), (2, .ref t), (3, .int (letter - 97)), (4, .int y17.1)], [.int y17.1])) rfl ?_
        refine Ev.if1 rfl (fun c21 => ?_) (fun c21 => ?_)
        · have c21 : 0 ≤ y17.1 := c21
          rw [if_pos c21] at H
          refine Ev.go 1 (s' := (h18, 54, [(0, .ref 5), (1, .int letter), (2, .ref t), (3, .int (letter - 97)), (4, .int y17.1)], [.ref 5])) rfl ?_
          refine Ev.get rfl (by decide) i20.1 rfl ?_
          refine Ev.if1 rfl (fun c22 => ?_) (fun c22 => ?_)
          · have c22 : ¬ U.2.1 = 0 := c22
            rw [if_pos c22] at H
            refine Ev.go 2 (s' := (h18, 69, [(0, .ref 5), (1, .int letter), (2, .ref t), (3, .int (letter - 97)), (4, .int y17.1)], [.int y17.1, .ref 5])) rfl ?_
            refine Ev.put rfl rfl (by decide) i20.1 (Nat.le_of_ble_eq_true rfl) rfl rfl (fs' := [.ref 6, .int U.2.1, .int U.2.2.1, .int y17.1, .int U.2.2.2.2]) rfl ?_
            refine Ev.go 2 (s' := ((pu h18 5 (eO 5 [.ref 6, .int U.2.1, .int U.2.2.1, .int y17.1, .int U.2.2.2.2])), 74, [(0, .ref 5), (1, .int letter), (2, .ref t), (3, .int (letter - 97)), (4, .int y17.1)], [.int 2, .ref 5])) rfl ?_
            refine Ev.put rfl rfl (by decide) pu_s (Nat.le_of_ble_eq_true rfl) rfl rfl (fs' := [.ref 6, .int U.2.1, .int 2, .int y17.1, .int U.2.2.2.2]) rfl ?_
            refine Ev.go 1 (s' := ((pu (pu h18 5 (eO 5 [.ref 6, .int U.2.1, .int U.2.2.1, .int y17.1, .int U.2.2.2.2])) 5 (eO 5 [.ref 6, .int U.2.1, .int 2, .int y17.1, .int U.2.2.2.2])), 78, [(0, .ref 5), (1, .int letter), (2, .ref t), (3, .int (letter - 97)), (4, .int y17.1)], [.int 1])) rfl ?_
            have H := Option.some.inj H
            subst H
            exact Ev.ret rfl rfl (p_retZ rfl) ⟨rfl, ⟨pu_s, (pu_n (by decide) (pu_n (by decide) i20.2))⟩, ⟨(pu_n (by omega) (pu_n (by omega) q19_S.1)), (pu_n (by omega) (pu_n (by omega) q19_S.2.1)), (pu_n (by omega) (pu_n (by omega) q19_S.2.2.1)), (pu_n (by omega) (pu_n (by omega) q19_S.2.2.2.1)), (by have := q19_S.2.2.2.2; omega)⟩, (fun k hk => by rw [pu_x (show k ≠ 5 from fun e => by have := hk; simp at this; omega)]; rw [pu_x (show k ≠ 5 from fun e => by have := hk; simp at this; omega)]; rw [q19_f k (by have := hk; simp at this ⊢; omega)])⟩
          · have c22 : ¬ (¬ U.2.1 = 0) := c22
            rw [if_neg c22] at H
            refine Ev.go 2 (s' := (h18, 63, [(0, .ref 5), (1, .int letter), (2, .ref t), (3, .int (letter - 97)), (4, .int y17.1)], [.int y17.1, .ref t])) rfl ?_
            obtain ⟨y24, e23, H⟩ := Option.bind_eq_some_iff.mp H
            refine Ev.call rfl rfl rfl (p_argsV (by have := q19_S.2.2.2.2; omega) q19_S.1 (Nat.le_of_ble_eq_true rfl)) rfl (Nat.le_of_ble_eq_true rfl) ((spX5_setLastOutermost q19_S y17.1 e23).mono (fun r h25 q26 => ?_))
            obtain ⟨rfl, q26_S, q26_f⟩ := q26
            have i27 : isU h25 U := isU.fr q26_f (fr1 (by omega)) i20
            refine Ev.go 2 (s' := (h25, 69, [(0, .ref 5), (1, .int letter), (2, .ref t), (3, .int (letter - 97)), (4, .int y17.1)], [.int y17.1, .ref 5])) rfl ?_
            refine Ev.put rfl rfl (by decide) i27.1 (Nat.le_of_ble_eq_true rfl) rfl rfl (fs' := [.ref 6, .int U.2.1, .int U.2.2.1, .int y17.1, .int U.2.2.2.2]) rfl ?_
            refine Ev.go 2 (s' := ((pu h25 5 (eO 5 [.ref 6, .int U.2.1, .int U.2.2.1, .int y17.1, .int U.2.2.2.2])), 74, [(0, .ref 5), (1, .int letter), (2, .ref t), (3, .int (letter - 97)), (4, .int y17.1)], [.int 2, .ref 5])) rfl ?_
            refine Ev.put rfl rfl (by decide) pu_s (Nat.le_of_ble_eq_true rfl) rfl rfl (fs' := [.ref 6, .int U.2.1, .int 2, .int y17.1, .int U.2.2.2.2]) rfl ?_
            refine Ev.go 1 (s' := ((pu (pu h25 5 (eO 5 [.ref 6, .int U.2.1, .int U.2.2.1, .int y17.1, .int U.2.2.2.2])) 5 (eO 5 [.ref 6, .int U.2.1, .int 2, .int y17.1, .int U.2.2.2.2])), 78, [(0, .ref 5), (1, .int letter), (2, .ref t), (3, .int (letter - 97)), (4, .int y17.1)], [.int 1])) rfl ?_
            have H := Option.some.inj H
            subst H
            exact Ev.ret rfl rfl (p_retZ rfl) ⟨rfl, ⟨pu_s, (pu_n (by decide) (pu_n (by decide) i27.2))⟩, ⟨(pu_n (by omega) (pu_n (by omega) q26_S.1)), (pu_n (by omega) (pu_n (by omega) q26_S.2.1)), (pu_n (by omega) (pu_n (by omega) q26_S.2.2.1)), (pu_n (by omega) (pu_n (by omega) q26_S.2.2.2.1)), (by have := q26_S.2.2.2.2; omega)⟩, (fun k hk => by rw [pu_x (show k ≠ 5 from fun e => by have := hk; simp at this; omega)]; rw [pu_x (show k ≠ 5 from fun e => by have := hk; simp at this; omega)]; rw [q26_f k (by have := hk; simp at this ⊢; omega)]; rw [q19_f k (by have := hk; simp at this ⊢; omega)])⟩
        · have c21 : ¬ (0 ≤ y17.1) := c21
          rw [if_neg c21] at H
          refine Ev.go 1 (s' := (h18, 52, [(0, .ref 5), (1, .int letter), (2, .ref t), (3, .int (letter - 97)), (4, .int y17.1)], [.int 0])) rfl ?_
          have H := Option.some.inj H
          subst H
          exact Ev.ret rfl rfl (p_retZ rfl) ⟨rfl, i20, q19_S, (fun k hk => by rw [q19_f k (by have := hk; simp at this ⊢; omega)])⟩
      · have c15 : ¬ (¬ (fX9_isTag (letter - 97)) = 0) := c15
        rw [if_neg c15] at H
        refine Ev.go 1 (s' := (h, 30, [(0, .ref 5), (1, .int letter), (2, .ref t), (3, .int (letter - 97))], [.int 0])) rfl ?_
        have H := Option.some.inj H
        subst H
        exact Ev.ret rfl rfl (p_retZ rfl) ⟨rfl, xU, xS, (fun k _ => rfl)⟩
  · have c1 : ¬ (¬ letter = 42) := c1
    rw [if_neg c1] at H
    refine Ev.go 5 (s' := (h, 19, [(0, .ref 5), (1, .int letter), (2, .ref t), (3, .int 6)], [.int 42, .int letter])) rfl ?_
    refine Ev.if2 rfl (fun c28 => ?_) (fun c28 => ?_)
    · have c28 : letter = 42 := c28
      rw [if_pos c28] at H
      refine Ev.go 3 (s' := (h, 34, [(0, .ref 5), (1, .int letter), (2, .ref t), (3, .int 6)], [.ref 5, .int 6, .ref t])) rfl ?_
      refine Ev.get rfl (by decide) xU.1 rfl ?_
      refine Ev.go 1 (s' := (h, 38, [(0, .ref 5), (1, .int letter), (2, .ref t), (3, .int 6)], [.ref 5, .int U.2.2.2.1, .int 6, .ref t])) rfl ?_
      refine Ev.get rfl (by decide) xU.1 rfl ?_
      obtain ⟨y30, e29, H⟩ := Option.bind_eq_some_iff.mp H
      refine Ev.call rfl rfl rfl (p_argsV (by have := xS.2.2.2.2; omega) xS.1 (Nat.le_of_ble_eq_true rfl)) rfl (Nat.le_of_ble_eq_true rfl) ((spX5_add xS 6 U.2.2.2.1 U.2.2.2.2 e29).mono (fun r h31 q32 => ?_))
      obtain ⟨rfl, q32_S, q32_f⟩ := q32
      have i33 : isU h31 U := isU.fr q32_f (fr1 (by omega)) xU
      refine Ev.go 2 (s' := (h31, 48, [(0, .ref 5), (1, .int letter), (2, .ref t), (3, .int 6), (4, .int y30.1)], [.int y30.1])) rfl ?_
      refine Ev.if1 rfl (fun c34 => ?_) (fun c34 => ?_)
      · have c34 : 0 ≤ y30.1 := c34
        rw [if_pos c34] at H
        refine Ev.go 1 (s' := (h31, 54, [(0, .ref 5), (1, .int letter), (2, .ref t), (3, .int 6), (4, .int y30.1)], [.ref 5])) rfl ?_
        refine Ev.get rfl (by decide) i33.1 rfl ?_
        refine Ev.if1 rfl (fun c35 => ?_) (fun c35 => ?_)
        · have c35 : ¬ U.2.1 = 0 := c35
          rw [if_pos c35] at H
          refine Ev.go 2 (s' := (h31, 69, [(0, .ref 5), (1, .int letter), (2, .ref t), (3, .int 6), (4, .int y30.1)], [.int y30.1, .ref 5])) rfl ?_
          refine Ev.put rfl rfl (by decide) i33.1 (Nat.le_of_ble_eq_true rfl) rfl rfl (fs' := [.ref 6, .int U.2.1, .int U.2.2.1, .int y30.1, .int U.2.2.2.2]) rfl ?_
          refine Ev.go 2 (s' := ((pu h31 5 (eO 5 [.ref 6, .int U.2.1, .int U.2.2.1, .int y30.1, .int U.2.2.2.2])), 74, [(0, .ref 5), (1, .int letter), (2, .ref t), (3, .int 6), (4, .int y30.1)], [.int 2, .ref 5])) rfl ?_
          refine Ev.put rfl rfl (by decide) pu_s (Nat.le_of_ble_eq_true rfl) rfl rfl (fs' := [.ref 6, .int U.2.1, .int 2, .int y30.1, .int U.2.2.2.2]) rfl ?_
          refine Ev.go 1 (s' := ((pu (pu h31 5 (eO 5 [.ref 6, .int U.2.1, .int U.2.2.1, .int y30.1, .int U.2.2.2.2])) 5 (eO 5 [.ref 6, .int U.2.1, .int 2, .int y30.1, .int U.2.2.2.2])), 78, [(0, .ref 5), (1, .int letter), (2, .ref t), (3, .int 6), (4, .int y30.1)], [.int 1])) rfl ?_
          have H := Option.some.inj H
          subst H
          exact Ev.ret rfl rfl (p_retZ rfl) ⟨rfl, ⟨pu_s, (pu_n (by decide) (pu_n (by decide) i33.2))⟩, ⟨(pu_n (by omega) (pu_n (by omega) q32_S.1)), (pu_n (by omega) (pu_n (by omega) q32_S.2.1)), (pu_n (by omega) (pu_n (by omega) q32_S.2.2.1)), (pu_n (by omega) (pu_n (by omega) q32_S.2.2.2.1)), (by have := q32_S.2.2.2.2; omega)⟩, (fun k hk => by rw [pu_x (show k ≠ 5 from fun e => by have := hk; simp at this; omega)]; rw [pu_x (show k ≠ 5 from fun e => by have := hk; simp at this; omega)]; rw [q32_f k (by have := hk; simp at this ⊢; omega)])⟩
        · have c35 : ¬ (¬ U.2.1 = 0) := c35
          rw [if_neg c35] at H
          refine Ev.go 2 (s' := (h31, 63, [(0, .ref 5), (1, .int letter), (2, .ref t), (3, .int 6), (4, .int y30.1)], [.int y30.1, .ref t])) rfl ?_
          obtain ⟨y37, e36, H⟩ := Option.bind_eq_some_iff.mp H
          refine Ev.call rfl rfl rfl (p_argsV (by have := q32_S.2.2.2.2; omega) q32_S.1 (Nat.le_of_ble_eq_true rfl)) rfl (Nat.le_of_ble_eq_true rfl) ((spX5_setLastOutermost q32_S y30.1 e36).mono (fun r h38 q39 => ?_))
          obtain ⟨rfl, q39_S, q39_f⟩ := q39
          have i40 : isU h38 U := isU.fr q39_f (fr1 (by omega)) i33
          refine Ev.go 2 (s' := (h38, 69, [(0, .ref 5), (1, .int letter), (2, .ref t), (3, .int 6), (4, .int y30.1)], [.int y30.1, .ref 5])) rfl ?_
          refine Ev.put rfl rfl (by decide) i40.1 (Nat.le_of_ble_eq_true rfl) rfl rfl (fs' := [.ref 6, .int U.2.1, .int U.2.2.1, .int y30.1, .int U.2.2.2.2]) rfl ?_
          refine Ev.go 2 (s' := ((pu h38 5 (eO 5 [.ref 6, .int U.2.1, .int U.2.2.1, .int y30.1, .int U.2.2.2.2])), 74, [(0, .ref 5), (1, .int letter), (2, .ref t), (3, .int 6), (4, .int y30.1)], [.int 2, .ref 5])) rfl ?_
          refine Ev.put rfl rfl (by decide) pu_s (Nat.le_of_ble_eq_true rfl) rfl rfl (fs' := [.ref 6, .int U.2.1, .int 2, .int y30.1, .int U.2.2.2.2]) rfl ?_
          refine Ev.go 1 (s' := ((pu (pu h38 5 (eO 5 [.ref 6, .int U.2.1, .int U.2.2.1, .int y30.1, .int U.2.2.2.2])) 5 (eO 5 [.ref 6, .int U.2.1, .int 2, .int y30.1, .int U.2.2.2.2])), 78, [(0, .ref 5), (1, .int letter), (2, .ref t), (3, .int 6), (4, .int y30.1)], [.int 1])) rfl ?_
          have H := Option.some.inj H
          subst H
          exact Ev.ret rfl rfl (p_retZ rfl) ⟨rfl, ⟨pu_s, (pu_n (by decide) (pu_n (by decide) i40.2))⟩, ⟨(pu_n (by omega) (pu_n (by omega) q39_S.1)), (pu_n (by omega) (pu_n (by omega) q39_S.2.1)), (pu_n (by omega) (pu_n (by omega) q39_S.2.2.1)), (pu_n (by omega) (pu_n (by omega) q39_S.2.2.2.1)), (by have := q39_S.2.2.2.2; omega)⟩, (fun k hk => by rw [pu_x (show k ≠ 5 from fun e => by have := hk; simp at this; omega)]; rw [pu_x (show k ≠ 5 from fun e => by have := hk; simp at this; omega)]; rw [q39_f k (by have := hk; simp at this ⊢; omega)]; rw [q32_f k (by have := hk; simp at this ⊢; omega)])⟩
      · have c34 : ¬ (0 ≤ y30.1) := c34
        rw [if_neg c34] at H
        refine Ev.go 1 (s' := (h31, 52, [(0, .ref 5), (1, .int letter), (2, .ref t), (3, .int 6), (4, .int y30.1)], [.int 0])) rfl ?_
        have H := Option.some.inj H
        subst H
        exact Ev.ret rfl rfl (p_retZ rfl) ⟨rfl, i33, q32_S, (fun k hk => by rw [q32_f k (by have := hk; simp at this ⊢; omega)])⟩
    · have c28 : ¬ (letter = 42) := c28
      rw [if_neg c28] at H
      refine Ev.go 1 (s' := (h, 23, [(0, .ref 5), (1, .int letter), (2, .ref t), (3, .int 6)], [.int 6])) rfl ?_
      refine Ev.callE rfl rfl rfl rfl rfl (Nat.le_of_ble_eq_true rfl) (spX9_isTag  6) ?_
      refine Ev.if1 rfl (fun c41 => ?_) (fun c41 => ?_)
      · have c41 : ¬ (fX9_isTag 6) = 0 := c41
        rw [if_pos c41] at H
        refine Ev.go 3 (s' := (h, 34, [(0, .ref 5), (1, .int letter), (2, .ref t), (3, .int 6)], [.ref 5, .int 6, .ref t])) rfl ?_
        refine Ev.get rfl (by decide) xU.1 rfl ?_
        refine Ev.go 1 (s' := (h, 38, [(0, .ref 5), (1, .int letter), (2, .ref t), (3, .int 6)], [.ref 5, .int U.2.2.2.1, .int 6, .ref t])) rfl ?_
        refine Ev.get rfl (by decide) xU.1 rfl ?_
        obtain ⟨y43, e42, H⟩ := Option.bind_eq_some_iff.mp H
        refine Ev.call rfl rfl rfl (p_argsV (by have := xS.2.2.2.2; omega) xS.1 (Nat.le_of_ble_eq_true rfl)) rfl (Nat.le_of_ble_eq_true rfl) ((spX5_add xS 6 U.2.2.2.1 U.2.2.2.2 e42).mono (fun r h44 q45 => ?_))
        obtain ⟨rfl, q45_S, q45_f⟩ := q45
        have i46 : isU h44 U := isU.fr q45_f (fr1 (by omega)) xU
        refine Ev.go 2 (s' := (h44, 48, [(0, .ref 5), (1, .int letter), (2, .ref t), (3, .int 6), (4, .int y43.1)], [.int y43.1])) rfl ?_
        refine Ev.if1 rfl (fun c47 => ?_) (fun c47 => ?_)
        · have c47 : 0 ≤ y43.1 := c47
          rw [if_pos c47] at H
          refine Ev.go 1 (s' := (h44, 54, [(0, .ref 5), (1, .int letter), (2, .ref t), (3, .int 6), (4, .int y43.1)], [.ref 5])) rfl ?_
          refine Ev.get rfl (by decide) i46.1 rfl ?_
          refine Ev.if1 rfl (fun c48 => ?_) (fun c48 => ?_)
          · have c48 : ¬ U.2.1 = 0 := c48
            rw [if_pos c48] at H
            refine Ev.go 2 (s' := (h44, 69, [(0, .ref 5), (1, .int letter), (2, .ref t), (3, .int 6), (4, .int y43.1)], [.int y43.1, .ref 5])) rfl ?_
            refine Ev.put rfl rfl (by decide) i46.1 (Nat.le_of_ble_eq_true rfl) rfl rfl (fs' := [.ref 6, .int U.2.1, .int U.2.2.1, .int y43.1, .int U.2.2.2.2]) rfl ?_
            refine Ev.go 2 (s' := ((pu h44 5 (eO 5 [.ref 6, .int U.2.1, .int U.2.2.1, .int y43.1, .int U.2.2.2.2])), 74, [(0, .ref 5), (1, .int letter), (2, .ref t), (3, .int 6), (4, .int y43.1)], [.int 2, .ref 5])) rfl ?_
            refine Ev.put rfl rfl (by decide) pu_s (Nat.le_of_ble_eq_true rfl) rfl rfl (fs' := [.ref 6, .int U.2.1, .int 2, .int y43.1, .int U.2.2.2.2]) rfl ?_
            refine Ev.go 1 (s' := ((pu (pu h44 5 (eO 5 [.ref 6, .int U.2.1, .int U.2.2.1, .int y43.1, .int U.2.2.2.2])) 5 (eO 5 [.ref 6, .int U.2.1, .int 2, .int y43.1, .int U.2.2.2.2])), 78, [(0, .ref 5), (1, .int letter), (2, .ref t), (3, .int 6), (4, .int y43.1)], [.int 1])) rfl ?_
            have H := Option.some.inj H
            subst H
            exact Ev.ret rfl rfl (p_retZ rfl) ⟨rfl, ⟨pu_s, (pu_n (by decide) (pu_n (by decide) i46.2))⟩, ⟨(pu_n (by omega) (pu_n (by omega) q45_S.1)), (pu_n (by omega) (pu_n (by omega) q45_S.2.1)), (pu_n (by omega) (pu_n (by omega) q45_S.2.2.1)), (pu_n (by omega) (pu_n (by omega) q45_S.2.2.2.1)), (by have := q45_S.2.2.2.2; omega)⟩, (fun k hk => by rw [pu_x (show k ≠ 5 from fun e => by have := hk; simp at this; omega)]; rw [pu_x (show k ≠ 5 from fun e => by have := hk; simp at this; omega)]; rw [q45_f k (by have := hk; simp at this ⊢; omega)])⟩
          · have c48 : ¬ (¬ U.2.1 = 0) := c48
            rw [if_neg c48] at H
            refine Ev.go 2 (s' := (h44, 63, [(0, .ref 5), (1, .int letter), (2, .ref t), (3, .int 6), (4, .int y43.1)], [.int y43.1, .ref t])) rfl ?_
            obtain ⟨y50, e49, H⟩ := Option.bind_eq_some_iff.mp H
            refine Ev.call rfl rfl rfl (p_argsV (by have := q45_S.2.2.2.2; omega) q45_S.1 (Nat.le_of_ble_eq_true rfl)) rfl (Nat.le_of_ble_eq_true rfl) ((spX5_setLastOutermost q45_S y43.1 e49).mono (fun r h51 q52 => ?_))
            obtain ⟨rfl, q52_S, q52_f⟩ := q52
            have i53 : isU h51 U := isU.fr q52_f (fr1 (by omega)) i46
            refine Ev.go 2 (s' := (h51, 69, [(0, .ref 5), (1, .int letter), (2, .ref t), (3, .int 6), (4, .int y43.1)], [.int y43.1, .ref 5])) rfl ?_
            refine Ev.put rfl rfl (by decide) i53.1 (Nat.le_of_ble_eq_true rfl) rfl rfl (fs' := [.ref 6, .int U.2.1, .int U.2.2.1, .int y43.1, .int U.2.2.2.2]) rfl ?_
            refine Ev.go 2 (s' := ((pu h51 5 (eO 5 [.ref 6, .int U.2.1, .int U.2.2.1, .int y43.1, .int U.2.2.2.2])), 74, [(0, .ref 5), (1, .int letter), (2, .ref t), (3, .int 6), (4, .int y43.1)], [.int 2, .ref 5])) rfl ?_
            refine Ev.put rfl rfl (by decide) pu_s (Nat.le_of_ble_eq_true rfl) rfl rfl (fs' := [.ref 6, .int U.2.1, .int 2, .int y43.1, .int U.2.2.2.2]) rfl ?_
            refine Ev.go 1 (s' := ((pu (pu h51 5 (eO 5 [.ref 6, .int U.2.1, .int U.2.2.1, .int y43.1, .int U.2.2.2.2])) 5 (eO 5 [.ref 6, .int U.2.1, .int 2, .int y43.1, .int U.2.2.2.2])), 78, [(0, .ref 5), (1, .int letter), (2, .ref t), (3, .int 6), (4, .int y43.1)], [.int 1])) rfl ?_
            have H := Option.some.inj H
            subst H
            exact Ev.ret rfl rfl (p_retZ rfl) ⟨rfl, ⟨pu_s, (pu_n (by decide) (pu_n (by decide) i53.2))⟩, ⟨(pu_n (by omega) (pu_n (by omega) q52_S.1)), (pu_n (by omega) (pu_n (by omega) q52_S.2.1)), (pu_n (by omega) (pu_n (by omega) q52_S.2.2.1)), (pu_n (by omega) (pu_n (by omega) q52_S.2.2.2.1)), (by have := q52_S.2.2.2.2; omega)⟩, (fun k hk => by rw [pu_x (show k ≠ 5 from fun e => by have := hk; simp at this; omega)]; rw [pu_x (show k ≠ 5 from fun e => by have := hk; simp at this; omega)]; rw [q52_f k (by have := hk; simp at this ⊢; omega)]; rw [q45_f k (by have := hk; simp at this ⊢; omega)])⟩
        · have c47 : ¬ (0 ≤ y43.1) := c47
          rw [if_neg c47] at H
          refine Ev.go 1 (s' := (h44, 52, [(0, .ref 5), (1, .int letter), (2, .ref t), (3, .int 6), (4, .int y43.1)], [.int 0])) rfl ?_
          have H := Option.some.inj H
          subst H
          exact Ev.ret rfl rfl (p_retZ rfl) ⟨rfl, i46, q45_S, (fun k hk => by rw [q45_f k (by have := hk; simp at this ⊢; omega)])⟩
      · have c41 : ¬ (¬ (fX9_isTag 6) = 0) := c41
        rw [if_neg c41] at H
        refine Ev.go 1 (s' := (h, 30, [(0, .ref 5), (1, .int letter), (2, .ref t), (3, .int 6)], [.int 0])) rfl ?_
        have H := Option.some.inj H
        subst H
        exact Ev.ret rfl rfl (p_retZ rfl) ⟨rfl, xU, xS, (fun k _ => rfl)⟩
def fX6_takes (U : tU) (letter : Int32) (S : tS) : Option (Int32 × tU × tS) := (if ¬ U.2.2.1 = 0 then (if ¬ U.2.2.1 = 2 then (if ¬ U.2.2.1 = 2 then ((fX6_takesAxis U letter).bind fun y5 => (if y5.1 &&& 1 = y5.1 then some (y5.1, y5.2, S) else none)) else (if ¬ letter = 93 then ((fX6_takesAxis U letter).bind fun y12 => (if y12.1 &&& 1 = y12.1 then some (y12.1, y12.2, S) else none)) else ((fX6_closes U).bind fun y18 => (if y18.1 &&& 1 = y18.1 then some (y18.1, y18.2, S) else none)))) else (if ¬ letter = 91 then (if ¬ U.2.2.1 = 2 then ((fX6_takesAxis U letter).bind fun y26 => (if y26.1 &&& 1 = y26.1 then some (y26.1, y26.2, S) else none)) else (if ¬ letter = 93 then ((fX6_takesAxis U letter).bind fun y33 => (if y33.1 &&& 1 = y33.1 then some (y33.1, y33.2, S) else none)) else ((fX6_closes U).bind fun y39 => (if y39.1 &&& 1 = y39.1 then some (y39.1, y39.2, S) else none)))) else ((fX6_opens U).bind fun y45 => (if y45.1 &&& 1 = y45.1 then some (y45.1, y45.2, S) else none)))) else ((fX6_takesTag U letter S).bind fun y51 => (if y51.1 &&& 1 = y51.1 then some (y51.1, y51.2.1, y51.2.2) else none)))
theorem spX6_takes {d : Nat} {h : pH} {t : Nat} {U : tU} {S : tS} (xU : isU h U) (xS : isS h t S) (ht : 7 ≤ t) (letter : Int32) {res : Int32 × tU × tS} (H : fX6_takes U letter S = some res) : Ev (d + 2) mX6_takes (h, 0, [(0, .ref 5), (1, .int letter), (2, .ref t)], []) (fun r h1 => r = some (.int res.1) ∧ isU h1 res.2.1 ∧ isS h1 t res.2.2 ∧ fr [(5, 7), (t, t + 4)] h h1) := by
  unfold fX6_takes at H
  refine Ev.go 1 (s' := (h, 1, [(0, .ref 5), (1, .int letter), (2, .ref t)], [.ref 5])) rfl ?_
  refine Ev.get rfl (by decide) xU.1 rfl ?_
  refine Ev.if1 rfl (fun c1 => ?_) (fun c1 => ?_)
  · have c1 : ¬ U.2.2.1 = 0 := c1
    rw [if_pos c1] at H
    refine Ev.go 1 (s' := (h, 15, [(0, .ref 5), (1, .int letter), (2, .ref t)], [.ref 5])) rfl ?_
    refine Ev.get rfl (by decide) xU.1 rfl ?_
    refine Ev.go 1 (s' := (h, 19, [(0, .ref 5), (1, .int letter), (2, .ref t)], [.int 2, .int U.2.2.1])) rfl ?_
    refine Ev.if2 rfl (fun c2 => ?_) (fun c2 => ?_)
    · have c2 : ¬ U.2.2.1 = 2 := c2
      rw [if_pos c2] at H
      refine Ev.go 1 (s' := (h, 34, [(0, .ref 5), (1, .int letter), (2, .ref t)], [.ref 5])) rfl ?_
      refine Ev.get rfl (by decide) xU.1 rfl ?_
      refine Ev.go 1 (s' := (h, 38, [(0, .ref 5), (1, .int letter), (2, .ref t)], [.int 2, .int U.2.2.1])) rfl ?_
      refine Ev.if2 rfl (fun c3 => ?_) (fun c3 => ?_)
      · have c3 : ¬ U.2.2.1 = 2 := c3
        rw [if_pos c3] at H
        refine Ev.go 2 (s' := (h, 54, [(0, .ref 5), (1, .int letter), (2, .ref t)], [.int letter, .ref 5])) rfl ?_
        obtain ⟨y5, e4, H⟩ := Option.bind_eq_some_iff.mp H
        refine Ev.call rfl rfl rfl (p_argsV (by decide) xU.1 (Nat.le_of_ble_eq_true rfl)) rfl (Nat.le_of_ble_eq_true rfl) ((spX6_takesAxis xU letter e4).mono (fun r h6 q7 => ?_))
        obtain ⟨rfl, q7_U, q7_f⟩ := q7
        have i8 : isS h6 t S := isS.fr q7_f (fr1 (by omega)) xS
        have v9 : y5.1 &&& 1 = y5.1 := Classical.byContradiction fun q => by rw [if_neg q] at H; cases H
        rw [if_pos v9] at H
        have H := Option.some.inj H
        subst H
        exact Ev.ret rfl rfl (p_retZ (t := .boolean) (congrArg Value.int v9)) ⟨rfl, q7_U, i8, (fun k hk => by rw [q7_f k (by have := hk; simp at this ⊢; omega)])⟩
      · have c3 : ¬ (¬ U.2.2.1 = 2) := c3
        rw [if_neg c3] at H
        refine Ev.go 2 (s' := (h, 44, [(0, .ref 5), (1, .int letter), (2, .ref t)], [.int 93, .int letter])) rfl ?_
        refine Ev.if2 rfl (fun c10 => ?_) (fun c10 => ?_)
        · have c10 : ¬ letter = 93 := c10
          rw [if_pos c10] at H
          refine Ev.go 2 (s' := (h, 54, [(0, .ref 5), (1, .int letter), (2, .ref t)], [.int letter, .ref 5])) rfl ?_
          obtain ⟨y12, e11, H⟩ := Option.bind_eq_some_iff.mp H
          refine Ev.call rfl rfl rfl (p_argsV (by decide) xU.1 (Nat.le_of_ble_eq_true rfl)) rfl (Nat.le_of_ble_eq_true rfl) ((spX6_takesAxis xU letter e11).mono (fun r h13 q14 => ?_))
          obtain ⟨rfl, q14_U, q14_f⟩ := q14
          have i15 : isS h13 t S := isS.fr q14_f (fr1 (by omega)) xS
          have v16 : y12.1 &&& 1 = y12.1 := Classical.byContradiction fun q => by rw [if_neg q] at H; cases H
          rw [if_pos v16] at H
          have H := Option.some.inj H
          subst H
          exact Ev.ret rfl rfl (p_retZ (t := .boolean) (congrArg Value.int v16)) ⟨rfl, q14_U, i15, (fun k hk => by rw [q14_f k (by have := hk; simp at this ⊢; omega)])⟩
        · have c10 : ¬ (¬ letter = 93) := c10
          rw [if_neg c10] at H
          refine Ev.go 1 (s' := (h, 48, [(0, .ref 5), (1, .int letter), (2, .ref t)], [.ref 5])) rfl ?_
          obtain ⟨y18, e17, H⟩ := Option.bind_eq_some_iff.mp H
          refine Ev.call rfl rfl rfl (p_argsV (by decide) xU.1 (Nat.le_of_ble_eq_true rfl)) rfl (Nat.le_of_ble_eq_true rfl) ((spX6_closes xU  e17).mono (fun r h19 q20 => ?_))
          obtain ⟨rfl, q20_U, q20_f⟩ := q20
          have i21 : isS h19 t S := isS.fr q20_f (fr1 (by omega)) xS
          have v22 : y18.1 &&& 1 = y18.1 := Classical.byContradiction fun q => by rw [if_neg q] at H; cases H
          rw [if_pos v22] at H
          have H := Option.some.inj H
          subst H
          exact Ev.ret rfl rfl (p_retZ (t := .boolean) (congrArg Value.int v22)) ⟨rfl, q20_U, i21, (fun k hk => by rw [q20_f k (by have := hk; simp at this ⊢; omega)])⟩
    · have c2 : ¬ (¬ U.2.2.1 = 2) := c2
      rw [if_neg c2] at H
      refine Ev.go 2 (s' := (h, 25, [(0, .ref 5), (1, .int letter), (2, .ref t)], [.int 91, .int letter])) rfl ?_
      refine Ev.if2 rfl (fun c23 => ?_) (fun c23 => ?_)
      · have c23 : ¬ letter = 91 := c23
        rw [if_pos c23] at H
        refine Ev.go 1 (s' := (h, 34, [(0, .ref 5), (1, .int letter), (2, .ref t)], [.ref 5])) rfl ?_
        refine Ev.get rfl (by decide) xU.1 rfl ?_
        refine Ev.go 1 (s' := (h, 38, [(0, .ref 5), (1, .int letter), (2, .ref t)], [.int 2, .int U.2.2.1])) rfl ?_
        refine Ev.if2 rfl (fun c24 => ?_) (fun c24 => ?_)
        · have c24 : ¬ U.2.2.1 = 2 := c24
          rw [if_pos c24] at H
          refine Ev.go 2 (s' := (h, 54, [(0, .ref 5), (1, .int letter), (2, .ref t)], [.int letter, .ref 5])) rfl ?_
          obtain ⟨y26, e25, H⟩ := Option.bind_eq_some_iff.mp H
          refine Ev.call rfl rfl rfl (p_argsV (by decide) xU.1 (Nat.le_of_ble_eq_true rfl)) rfl (Nat.le_of_ble_eq_true rfl) ((spX6_takesAxis xU letter e25).mono (fun r h27 q28 => ?_))
          obtain ⟨rfl, q28_U, q28_f⟩ := q28
          have i29 : isS h27 t S := isS.fr q28_f (fr1 (by omega)) xS
          have v30 : y26.1 &&& 1 = y26.1 := Classical.byContradiction fun q => by rw [if_neg q] at H; cases H
          rw [if_pos v30] at H
          have H := Option.some.inj H
          subst H
          exact Ev.ret rfl rfl (p_retZ (t := .boolean) (congrArg Value.int v30)) ⟨rfl, q28_U, i29, (fun k hk => by rw [q28_f k (by have := hk; simp at this ⊢; omega)])⟩
        · have c24 : ¬ (¬ U.2.2.1 = 2) := c24
          rw [if_neg c24] at H
          refine Ev.go 2 (s' := (h, 44, [(0, .ref 5), (1, .int letter), (2, .ref t)], [.int 93, .int letter])) rfl ?_
          refine Ev.if2 rfl (fun c31 => ?_) (fun c31 => ?_)
          · have c31 : ¬ letter = 93 := c31
            rw [if_pos c31] at H
            refine Ev.go 2 (s' := (h, 54, [(0, .ref 5), (1, .int letter), (2, .ref t)], [.int letter, .ref 5])) rfl ?_
            obtain ⟨y33, e32, H⟩ := Option.bind_eq_some_iff.mp H
            refine Ev.call rfl rfl rfl (p_argsV (by decide) xU.1 (Nat.le_of_ble_eq_true rfl)) rfl (Nat.le_of_ble_eq_true rfl) ((spX6_takesAxis xU letter e32).mono (fun r h34 q35 => ?_))
            obtain ⟨rfl, q35_U, q35_f⟩ := q35
            have i36 : isS h34 t S := isS.fr q35_f (fr1 (by omega)) xS
            have v37 : y33.1 &&& 1 = y33.1 := Classical.byContradiction fun q => by rw [if_neg q] at H; cases H
            rw [if_pos v37] at H
            have H := Option.some.inj H
            subst H
            exact Ev.ret rfl rfl (p_retZ (t := .boolean) (congrArg Value.int v37)) ⟨rfl, q35_U, i36, (fun k hk => by rw [q35_f k (by have := hk; simp at this ⊢; omega)])⟩
          · have c31 : ¬ (¬ letter = 93) := c31
            rw [if_neg c31] at H
            refine Ev.go 1 (s' := (h, 48, [(0, .ref 5), (1, .int letter), (2, .ref t)], [.ref 5])) rfl ?_
            obtain ⟨y39, e38, H⟩ := Option.bind_eq_some_iff.mp H
            refine Ev.call rfl rfl rfl (p_argsV (by decide) xU.1 (Nat.le_of_ble_eq_true rfl)) rfl (Nat.le_of_ble_eq_true rfl) ((spX6_closes xU  e38).mono (fun r h40 q41 => ?_))
            obtain ⟨rfl, q41_U, q41_f⟩ := q41
            have i42 : isS h40 t S := isS.fr q41_f (fr1 (by omega)) xS
            have v43 : y39.1 &&& 1 = y39.1 := Classical.byContradiction fun q => by rw [if_neg q] at H; cases H
            rw [if_pos v43] at H
            have H := Option.some.inj H
            subst H
            exact Ev.ret rfl rfl (p_retZ (t := .boolean) (congrArg Value.int v43)) ⟨rfl, q41_U, i42, (fun k hk => by rw [q41_f k (by have := hk; simp at this ⊢; omega)])⟩
      · have c23 : ¬ (¬ letter = 91) := c23
        rw [if_neg c23] at H
        refine Ev.go 1 (s' := (h, 29, [(0, .ref 5), (1, .int letter), (2, .ref t)], [.ref 5])) rfl ?_
        obtain ⟨y45, e44, H⟩ := Option.bind_eq_some_iff.mp H
        refine Ev.call rfl rfl rfl (p_argsV (by decide) xU.1 (Nat.le_of_ble_eq_true rfl)) rfl (Nat.le_of_ble_eq_true rfl) ((spX6_opens xU  e44).mono (fun r h46 q47 => ?_))
        obtain ⟨rfl, q47_U, q47_f⟩ := q47
        have i48 : isS h46 t S := isS.fr q47_f (fr1 (by omega)) xS
        have v49 : y45.1 &&& 1 = y45.1 := Classical.byContradiction fun q => by rw [if_neg q] at H; cases H
        rw [if_pos v49] at H
        have H := Option.some.inj H
        subst H
        exact Ev.ret rfl rfl (p_retZ (t := .boolean) (congrArg Value.int v49)) ⟨rfl, q47_U, i48, (fun k hk => by rw [q47_f k (by have := hk; simp at this ⊢; omega)])⟩
  · have c1 : ¬ (¬ U.2.2.1 = 0) := c1
    rw [if_neg c1] at H
    refine Ev.go 3 (s' := (h, 10, [(0, .ref 5), (1, .int letter), (2, .ref t)], [.ref t, .int letter, .ref 5])) rfl ?_
    obtain ⟨y51, e50, H⟩ := Option.bind_eq_some_iff.mp H
    refine Ev.call rfl rfl rfl (p_argsV (by decide) xU.1 (Nat.le_of_ble_eq_true rfl)) rfl (Nat.le_of_ble_eq_true rfl) ((spX6_takesTag xU xS (by omega) letter e50).mono (fun r h52 q53 => ?_))
    obtain ⟨rfl, q53_U, q53_S, q53_f⟩ := q53
    have v54 : y51.1 &&& 1 = y51.1 := Classical.byContradiction fun q => by rw [if_neg q] at H; cases H
    rw [if_pos v54] at H
    have H := Option.some.inj H
    subst H
    exact Ev.ret rfl rfl (p_retZ (t := .boolean) (congrArg Value.int v54)) ⟨rfl, q53_U, q53_S, (fun k hk => by rw [q53_f k (by have := hk; simp at this ⊢; omega)])⟩
def lX6_read_26 (n : Nat) (L : tL) : Nat → Int32 → tU → tS → Option (Int32 × tU × tS)
  | 0, _, _, _ => none
  | m + 1, x3, U, S => (if (fX1_size L) ≤ x3 then (if ¬ U.2.2.1 = 2 then some (fX1_size L, U, S) else (if ¬ U.2.1 = 0 then some (fX1_size L, U, S) else some ((-1), U, S))) else ((fX1_letterAt L x3).bind fun y11 => ((fX6_takes U y11 S).bind fun y13 => (if ¬ y13.1 = 0 then lX6_read_26 n L m (x3 + 1) y13.2.1 y13.2.2 else some (x3, y13.2.1, y13.2.2)))))
theorem llX6_read_26 {d n : Nat} {t : Nat} {L : tL} (ht : 7 ≤ t) : ∀ (m : Nat) (h : pH) (x3 : Int32) (U : tU) (S : tS) (res : Int32 × tU × tS), lX6_read_26 n L m x3 U S = some res → isL h L → isU h U → isS h t S → Ev (d + 3) mX6_read (h, 26, [(0, .ref 5), (1, .ref 1), (2, .ref t), (3, .int x3)], []) (fun r h1 => r = some (.int res.1) ∧ isU h1 res.2.1 ∧ isS h1 t res.2.2 ∧ fr [(5, 7), (t, t + 4)] h h1)
  | 0, h, x3, U, S, res, H, _, _, _ => by cases H
  | m + 1, h, x3, U, S, res, H, xL, xU, xS => by
    have H : (if (fX1_size L) ≤ x3 then (if ¬ U.2.2.1 = 2 then some (fX1_size L, U, S) else (if ¬ U.2.1 = 0 then some (fX1_size L, U, S) else some ((-1), U, S))) else ((fX1_letterAt L x3).bind fun y11 => ((fX6_takes U y11 S).bind fun y13 => (if ¬ y13.1 = 0 then lX6_read_26 n L m (x3 + 1) y13.2.1 y13.2.2 else some (x3, y13.2.1, y13.2.2))))) = some res := H
    refine Ev.go 2 (s' := (h, 28, [(0, .ref 5), (1, .ref 1), (2, .ref t), (3, .int x3)], [.ref 1, .int x3])) rfl ?_
    refine Ev.callE rfl rfl rfl (p_argsV (by decide) xL.1 (Nat.le_of_ble_eq_true rfl)) rfl (Nat.le_of_ble_eq_true rfl) (spX1_size xL ) ?_
    refine Ev.if2 rfl (fun c7 => ?_) (fun c7 => ?_)
    · have c7 : (fX1_size L) ≤ x3 := c7
      rw [if_pos c7] at H
      refine Ev.go 1 (s' := (h, 56, [(0, .ref 5), (1, .ref 1), (2, .ref t), (3, .int x3)], [.ref 5])) rfl ?_
      refine Ev.get rfl (by decide) xU.1 rfl ?_
      refine Ev.go 1 (s' := (h, 60, [(0, .ref 5), (1, .ref 1), (2, .ref t), (3, .int x3)], [.int 2, .int U.2.2.1])) rfl ?_
      refine Ev.if2 rfl (fun c8 => ?_) (fun c8 => ?_)
      · have c8 : ¬ U.2.2.1 = 2 := c8
        rw [if_pos c8] at H
        refine Ev.go 1 (s' := (h, 75, [(0, .ref 5), (1, .ref 1), (2, .ref t), (3, .int x3)], [.ref 1])) rfl ?_
        refine Ev.callE rfl rfl rfl (p_argsV (by decide) xL.1 (Nat.le_of_ble_eq_true rfl)) rfl (Nat.le_of_ble_eq_true rfl) (spX1_size xL ) ?_
        have H := Option.some.inj H
        subst H
        exact Ev.ret rfl rfl (p_retZ rfl) ⟨rfl, xU, xS, (fun k _ => rfl)⟩
      · have c8 : ¬ (¬ U.2.2.1 = 2) := c8
        rw [if_neg c8] at H
        refine Ev.go 1 (s' := (h, 64, [(0, .ref 5), (1, .ref 1), (2, .ref t), (3, .int x3)], [.ref 5])) rfl ?_
        refine Ev.get rfl (by decide) xU.1 rfl ?_
        refine Ev.if1 rfl (fun c9 => ?_) (fun c9 => ?_)
        · have c9 : ¬ U.2.1 = 0 := c9
          rw [if_pos c9] at H
          refine Ev.go 1 (s' := (h, 75, [(0, .ref 5), (1, .ref 1), (2, .ref t), (3, .int x3)], [.ref 1])) rfl ?_
          refine Ev.callE rfl rfl rfl (p_argsV (by decide) xL.1 (Nat.le_of_ble_eq_true rfl)) rfl (Nat.le_of_ble_eq_true rfl) (spX1_size xL ) ?_
          have H := Option.some.inj H
          subst H
          exact Ev.ret rfl rfl (p_retZ rfl) ⟨rfl, xU, xS, (fun k _ => rfl)⟩
        · have c9 : ¬ (¬ U.2.1 = 0) := c9
          rw [if_neg c9] at H
          refine Ev.go 2 (s' := (h, 78, [(0, .ref 5), (1, .ref 1), (2, .ref t), (3, .int x3)], [.int ((-1))])) rfl ?_
          have H := Option.some.inj H
          subst H
          exact Ev.ret rfl rfl (p_retZ rfl) ⟨rfl, xU, xS, (fun k _ => rfl)⟩
    · have c7 : ¬ ((fX1_size L) ≤ x3) := c7
      rw [if_neg c7] at H
      refine Ev.go 3 (s' := (h, 37, [(0, .ref 5), (1, .ref 1), (2, .ref t), (3, .int x3)], [.int x3, .ref 1, .ref 5])) rfl ?_
      obtain ⟨y11, e10, H⟩ := Option.bind_eq_some_iff.mp H
      refine Ev.callE rfl rfl rfl (p_argsV (by decide) xL.1 (Nat.le_of_ble_eq_true rfl)) rfl (Nat.le_of_ble_eq_true rfl) (spX1_letterAt xL x3 e10) ?_
      refine Ev.go 1 (s' := (h, 41, [(0, .ref 5), (1, .ref 1), (2, .ref t), (3, .int x3)], [.ref t, .int y11, .ref 5])) rfl ?_
      obtain ⟨y13, e12, H⟩ := Option.bind_eq_some_iff.mp H
      refine Ev.call rfl rfl rfl (p_argsV (by decide) xU.1 (Nat.le_of_ble_eq_true rfl)) rfl (Nat.le_of_ble_eq_true rfl) ((spX6_takes xU xS (by omega) y11 e12).mono (fun r h14 q15 => ?_))
      obtain ⟨rfl, q15_U, q15_S, q15_f⟩ := q15
      have i16 : isL h14 L := isL.fr q15_f (fr2 (by omega) (by omega)) xL
      refine Ev.if1 rfl (fun c17 => ?_) (fun c17 => ?_)
      · have c17 : ¬ y13.1 = 0 := c17
        rw [if_pos c17] at H
        refine Ev.go 2 (s' := (h14, 26, [(0, .ref 5), (1, .ref 1), (2, .ref t), (3, .int (x3 + 1))], [])) rfl ?_
        refine Ev.live rfl (lv' := [(0, .ref 5), (1, .ref 1), (2, .ref t), (3, .int (x3 + 1))]) rfl ?_
        refine (llX6_read_26 ht m h14 (x3 + 1) y13.2.1 y13.2.2 _ H i16 q15_U q15_S).mono (fun r h9 q9 => ?_)
        obtain ⟨q9r, q9_0, q9_1, q9f⟩ := q9
        exact ⟨q9r, q9_0, q9_1, fun k hk => (q9f k hk).trans (by rw [q15_f k (by have := hk; simp at this ⊢; omega)])⟩
      · have c17 : ¬ (¬ y13.1 = 0) := c17
        rw [if_neg c17] at H
        refine Ev.go 1 (s' := (h14, 48, [(0, .ref 5), (1, .ref 1), (2, .ref t), (3, .int x3)], [.int x3])) rfl ?_
        have H := Option.some.inj H
        subst H
        exact Ev.ret rfl rfl (p_retZ rfl) ⟨rfl, q15_U, q15_S, (fun k hk => by rw [q15_f k (by have := hk; simp at this ⊢; omega)])⟩
def fX6_read (n : Nat) (U : tU) (L : tL) (S : tS) : Option (Int32 × tU × tS) := ((fX5_clear S).bind fun y2 => lX6_read_26 n L n 0 (U.1, 0, 0, (-1), (-1)) y2)
theorem spX6_read {d n : Nat} {h : pH} {t : Nat} {U : tU} {L : tL} {S : tS} (xU : isU h U) (xL : isL h L) (xS : isS h t S) (ht : 7 ≤ t) {res : Int32 × tU × tS} (H : fX6_read n U L S = some res) : Ev (d + 3) mX6_read (h, 0, [(0, .ref 5), (1, .ref 1), (2, .ref t)], []) (fun r h1 => r = some (.int res.1) ∧ isU h1 res.2.1 ∧ isS h1 t res.2.2 ∧ fr [(5, 7), (t, t + 4)] h h1) := by
  unfold fX6_read at H
  refine Ev.go 1 (s' := (h, 1, [(0, .ref 5), (1, .ref 1), (2, .ref t)], [.ref t])) rfl ?_
  obtain ⟨y2, e1, H⟩ := Option.bind_eq_some_iff.mp H
  refine Ev.call rfl rfl rfl (p_argsV (by have := xS.2.2.2.2; omega) xS.1 (Nat.le_of_ble_eq_true rfl)) rfl (Nat.le_of_ble_eq_true rfl) ((spX5_clear xS  e1).mono (fun r h3 q4 => ?_))
  obtain ⟨rfl, q4_S, q4_f⟩ := q4
  have i5 : isU h3 U := isU.fr q4_f (fr1 (by omega)) xU
  have i6 : isL h3 L := isL.fr q4_f (fr1 (by omega)) xL
  refine Ev.go 2 (s' := (h3, 6, [(0, .ref 5), (1, .ref 1), (2, .ref t)], [.int 0, .ref 5])) rfl ?_
  refine Ev.put rfl rfl (by decide) i5.1 (Nat.le_of_ble_eq_true rfl) rfl rfl (fs' := [.ref 6, .int 0, .int U.2.2.1, .int U.2.2.2.1, .int U.2.2.2.2]) rfl ?_
  refine Ev.go 2 (s' := ((pu h3 5 (eO 5 [.ref 6, .int 0, .int U.2.2.1, .int U.2.2.2.1, .int U.2.2.2.2])), 11, [(0, .ref 5), (1, .ref 1), (2, .ref t)], [.int 0, .ref 5])) rfl ?_
  refine Ev.put rfl rfl (by decide) pu_s (Nat.le_of_ble_eq_true rfl) rfl rfl (fs' := [.ref 6, .int 0, .int 0, .int U.2.2.2.1, .int U.2.2.2.2]) rfl ?_
  refine Ev.go 2 (s' := ((pu (pu h3 5 (eO 5 [.ref 6, .int 0, .int U.2.2.1, .int U.2.2.2.1, .int U.2.2.2.2])) 5 (eO 5 [.ref 6, .int 0, .int 0, .int U.2.2.2.1, .int U.2.2.2.2])), 16, [(0, .ref 5), (1, .ref 1), (2, .ref t)], [.int ((-1)), .ref 5])) rfl ?_
  refine Ev.put rfl rfl (by decide) pu_s (Nat.le_of_ble_eq_true rfl) rfl rfl (fs' := [.ref 6, .int 0, .int 0, .int ((-1)), .int U.2.2.2.2]) rfl ?_
  refine Ev.go 2 (s' := ((pu (pu (pu h3 5 (eO 5 [.ref 6, .int 0, .int U.2.2.1, .int U.2.2.2.1, .int U.2.2.2.2])) 5 (eO 5 [.ref 6, .int 0, .int 0, .int U.2.2.2.1, .int U.2.2.2.2])) 5 (eO 5 [.ref 6, .int 0, .int 0, .int ((-1)), .int U.2.2.2.2])), 21, [(0, .ref 5), (1, .ref 1), (2, .ref t)], [.int ((-1)), .ref 5])) rfl ?_
  refine Ev.put rfl rfl (by decide) pu_s (Nat.le_of_ble_eq_true rfl) rfl rfl (fs' := [.ref 6, .int 0, .int 0, .int ((-1)), .int ((-1))]) rfl ?_
  refine Ev.go 2 (s' := ((pu (pu (pu (pu h3 5 (eO 5 [.ref 6, .int 0, .int U.2.2.1, .int U.2.2.2.1, .int U.2.2.2.2])) 5 (eO 5 [.ref 6, .int 0, .int 0, .int U.2.2.2.1, .int U.2.2.2.2])) 5 (eO 5 [.ref 6, .int 0, .int 0, .int ((-1)), .int U.2.2.2.2])) 5 (eO 5 [.ref 6, .int 0, .int 0, .int ((-1)), .int ((-1))])), 26, [(0, .ref 5), (1, .ref 1), (2, .ref t), (3, .int 0)], [])) rfl ?_
  refine Ev.live rfl (lv' := [(0, .ref 5), (1, .ref 1), (2, .ref t), (3, .int 0)]) rfl ?_
  refine (llX6_read_26 ht n (pu (pu (pu (pu h3 5 (eO 5 [.ref 6, .int 0, .int U.2.2.1, .int U.2.2.2.1, .int U.2.2.2.2])) 5 (eO 5 [.ref 6, .int 0, .int 0, .int U.2.2.2.1, .int U.2.2.2.2])) 5 (eO 5 [.ref 6, .int 0, .int 0, .int ((-1)), .int U.2.2.2.2])) 5 (eO 5 [.ref 6, .int 0, .int 0, .int ((-1)), .int ((-1))])) 0 (U.1, 0, 0, (-1), (-1)) y2 _ H ⟨(pu_n (by decide) (pu_n (by decide) (pu_n (by decide) (pu_n (by decide) i6.1)))), (pu_n (by decide) (pu_n (by decide) (pu_n (by decide) (pu_n (by decide) i6.2))))⟩ ⟨pu_s, (pu_n (by decide) (pu_n (by decide) (pu_n (by decide) (pu_n (by decide) i5.2))))⟩ ⟨(pu_n (by omega) (pu_n (by omega) (pu_n (by omega) (pu_n (by omega) q4_S.1)))), (pu_n (by omega) (pu_n (by omega) (pu_n (by omega) (pu_n (by omega) q4_S.2.1)))), (pu_n (by omega) (pu_n (by omega) (pu_n (by omega) (pu_n (by omega) q4_S.2.2.1)))), (pu_n (by omega) (pu_n (by omega) (pu_n (by omega) (pu_n (by omega) q4_S.2.2.2.1)))), (by have := q4_S.2.2.2.2; omega)⟩).mono (fun r h9 q9 => ?_)
  obtain ⟨q9r, q9_0, q9_1, q9f⟩ := q9
  exact ⟨q9r, q9_0, q9_1, fun k hk => (q9f k hk).trans (by rw [pu_x (show k ≠ 5 from fun e => by have := hk; simp at this; omega)]; rw [pu_x (show k ≠ 5 from fun e => by have := hk; simp at this; omega)]; rw [pu_x (show k ≠ 5 from fun e => by have := hk; simp at this; omega)]; rw [pu_x (show k ≠ 5 from fun e => by have := hk; simp at this; omega)]; rw [q4_f k (by have := hk; simp at this ⊢; omega)])⟩
