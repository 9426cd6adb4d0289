/-! LabelTree: its methods as functions -/
theorem spX9_keptTree0 {d : Nat} {h : pH} {X : tX} {i : Int32} (xX : isX h X) (c : i = 0) : Ev d mX9_keptTree (h, 0, [(0, .ref 0), (1, .int i)], []) (fun r h1 => r = some (.ref 28) ∧ h1 = h) := by
  refine Ev.go 1 (s' := (h, 1, [(0, .ref 0), (1, .int i)], [.int i])) rfl ?_
  refine Ev.if1 rfl (fun c1 => absurd c c1) (fun _ => ?_)
  refine Ev.go 1 (s' := (h, 5, [(0, .ref 0), (1, .int i)], [.ref 0])) rfl ?_
  refine Ev.get rfl (by decide) xX rfl ?_
  refine Ev.go 1 (s' := (h, 15, [(0, .ref 0), (1, .int i)], [.ref 28])) rfl ?_
  exact Ev.ret rfl rfl rfl ⟨rfl, rfl⟩
theorem spX9_keptTree1 {d : Nat} {h : pH} {X : tX} {i : Int32} (xX : isX h X) (c : ¬ i = 0) : Ev d mX9_keptTree (h, 0, [(0, .ref 0), (1, .int i)], []) (fun r h1 => r = some (.ref 32) ∧ h1 = h) := by
  refine Ev.go 1 (s' := (h, 1, [(0, .ref 0), (1, .int i)], [.int i])) rfl ?_
  refine Ev.if1 rfl (fun _ => ?_) (fun c1 => absurd c c1)
  refine Ev.go 1 (s' := (h, 12, [(0, .ref 0), (1, .int i)], [.ref 0])) rfl ?_
  refine Ev.get rfl (by decide) xX rfl ?_
  exact Ev.ret rfl rfl rfl ⟨rfl, rfl⟩
def fX9_isKeyPart (what : Int32) : Int32 := (if what = 0 then 1 else (if ¬ what = 1 then 0 else 1))
theorem spX9_isKeyPart {d : Nat} {h : pH}  (what : Int32) : Ev d mX9_isKeyPart (h, 0, [(0, .int what)], []) (fun r h1 => r = some (.int (fX9_isKeyPart what)) ∧ h1 = h) := by
  refine Ev.go 1 (s' := (h, 1, [(0, .int what)], [.int what])) rfl ?_
  refine Ev.if1 rfl (fun c1 => ?_) (fun c1 => ?_)
  · have c1 : what = 0 := c1
    refine Ev.go 2 (s' := (h, 14, [(0, .int what)], [.int 1])) rfl ?_
    exact Ev.ret rfl rfl (p_retZ rfl) ⟨congrArg (fun z => some (Value.int z)) (by rw [fX9_isKeyPart, if_pos c1]), rfl⟩
  · have c1 : ¬ (what = 0) := c1
    refine Ev.go 2 (s' := (h, 6, [(0, .int what)], [.int 1, .int what])) rfl ?_
    refine Ev.if2 rfl (fun c2 => ?_) (fun c2 => ?_)
    · have c2 : ¬ what = 1 := c2
      refine Ev.go 1 (s' := (h, 14, [(0, .int what)], [.int 0])) rfl ?_
      exact Ev.ret rfl rfl (p_retZ rfl) ⟨congrArg (fun z => some (Value.int z)) (by rw [fX9_isKeyPart, if_neg c1, if_pos c2]), rfl⟩
    · have c2 : ¬ (¬ what = 1) := c2
      refine Ev.go 2 (s' := (h, 14, [(0, .int what)], [.int 1])) rfl ?_
      exact Ev.ret rfl rfl (p_retZ rfl) ⟨congrArg (fun z => some (Value.int z)) (by rw [fX9_isKeyPart, if_neg c1, if_neg c2]), rfl⟩
def fX9_keyPart (n : Nat) (spot : Int32) (what : Int32) : Option (Int32) := (if ¬ what = 0 then ((fX0_length n spot).bind fun y3 => some y3) else ((fX0_figures n spot).bind fun y5 => some y5))
theorem spX9_keyPart {d n : Nat} {h : pH}  (spot : Int32) (what : Int32) {res : Int32} (H : fX9_keyPart n spot what = some res) : Ev (d + 2) mX9_keyPart (h, 0, [(0, .int spot), (1, .int what)], []) (fun r h1 => r = some (.int res) ∧ h1 = h) := by
  unfold fX9_keyPart at H
  refine Ev.go 1 (s' := (h, 1, [(0, .int spot), (1, .int what)], [.int what])) rfl ?_
  refine Ev.if1 rfl (fun c1 => ?_) (fun c1 => ?_)
  · have c1 : ¬ what = 0 := c1
    rw [if_pos c1] at H
    refine Ev.go 1 (s' := (h, 12, [(0, .int spot), (1, .int what)], [.int spot])) rfl ?_
    obtain ⟨y3, e2, H⟩ := Option.bind_eq_some_iff.mp H
    refine Ev.callE rfl rfl rfl rfl rfl (Nat.le_of_ble_eq_true rfl) (spX0_length  spot e2) ?_
    have H := Option.some.inj H
    subst H
    exact Ev.ret rfl rfl (p_retZ rfl) ⟨rfl, rfl⟩
  · have c1 : ¬ (¬ what = 0) := c1
    rw [if_neg c1] at H
    refine Ev.go 1 (s' := (h, 5, [(0, .int spot), (1, .int what)], [.int spot])) rfl ?_
    obtain ⟨y5, e4, H⟩ := Option.bind_eq_some_iff.mp H
    refine Ev.callE rfl rfl rfl rfl rfl (Nat.le_of_ble_eq_true rfl) (spX0_figures  spot e4) ?_
    refine Ev.go 1 (s' := (h, 15, [(0, .int spot), (1, .int what)], [.int y5])) rfl ?_
    have H := Option.some.inj H
    subst H
    exact Ev.ret rfl rfl (p_retZ rfl) ⟨rfl, rfl⟩
def lX9_climb_5 (n : Nat) (X : tX) (T : tT) : Nat → Int32 → Int32 → Int32 → Option (Int32)
  | 0, _, _, _ => none
  | m + 1, x2, x3, x4 => (if x2 ≤ x4 then some x3 else (if 24 ≤ x4 then some x3 else lX9_climb_5 n X T m x2 (fX7_parentOf T x3) (x4 + 1)))
theorem llX9_climb_5 {d n : Nat} {X : tX} {T : tT} : ∀ (m : Nat) (h : pH) (x2 : Int32) (x3 : Int32) (x4 : Int32) (res : Int32), lX9_climb_5 n X T m x2 x3 x4 = some res → isX h X → isT h 7 T → Ev (d + 2) mX9_climb (h, 5, [(0, .ref 0), (2, .int x2), (3, .int x3), (4, .int x4)], []) (fun r h1 => r = some (.int res) ∧ h1 = h)
  | 0, h, x2, x3, x4, res, H, _, _ => by cases H
  | m + 1, h, x2, x3, x4, res, H, xX, xT => by
    have H : (if x2 ≤ x4 then some x3 else (if 24 ≤ x4 then some x3 else lX9_climb_5 n X T m x2 (fX7_parentOf T x3) (x4 + 1))) = some res := H
    refine Ev.go 2 (s' := (h, 8, [(0, .ref 0), (2, .int x2), (3, .int x3), (4, .int x4)], [.int x2, .int x4])) rfl ?_
    refine Ev.if2 rfl (fun c1 => ?_) (fun c1 => ?_)
    · have c1 : x2 ≤ x4 := c1
      rw [if_pos c1] at H
      refine Ev.go 1 (s' := (h, 34, [(0, .ref 0), (2, .int x2), (3, .int x3), (4, .int x4)], [.int x3])) rfl ?_
      have H := Option.some.inj H
      subst H
      exact Ev.ret rfl rfl (p_retZ rfl) ⟨rfl, rfl⟩
    · have c1 : ¬ (x2 ≤ x4) := c1
      rw [if_neg c1] at H
      refine Ev.go 2 (s' := (h, 15, [(0, .ref 0), (2, .int x2), (3, .int x3), (4, .int x4)], [.int 24, .int x4])) rfl ?_
      refine Ev.if2 rfl (fun c2 => ?_) (fun c2 => ?_)
      · have c2 : 24 ≤ x4 := c2
        rw [if_pos c2] at H
        refine Ev.go 1 (s' := (h, 34, [(0, .ref 0), (2, .int x2), (3, .int x3), (4, .int x4)], [.int x3])) rfl ?_
        have H := Option.some.inj H
        subst H
        exact Ev.ret rfl rfl (p_retZ rfl) ⟨rfl, rfl⟩
      · have c2 : ¬ (24 ≤ x4) := c2
        rw [if_neg c2] at H
        refine Ev.go 1 (s' := (h, 19, [(0, .ref 0), (2, .int x2), (3, .int x3), (4, .int x4)], [.ref 0])) rfl ?_
        refine Ev.get rfl (by decide) xX rfl ?_
        refine Ev.go 1 (s' := (h, 23, [(0, .ref 0), (2, .int x2), (3, .int x3), (4, .int x4)], [.int x3, .ref 7])) rfl ?_
        refine Ev.callE rfl rfl rfl (p_argsV (by decide) xT.1 (Nat.le_of_ble_eq_true rfl)) rfl (Nat.le_of_ble_eq_true rfl) (spX7_parentOf xT x3) ?_
        refine Ev.go 3 (s' := (h, 5, [(0, .ref 0), (2, .int x2), (3, .int (fX7_parentOf T x3)), (4, .int (x4 + 1))], [])) rfl ?_
        refine Ev.live rfl (lv' := [(0, .ref 0), (2, .int x2), (3, .int (fX7_parentOf T x3)), (4, .int (x4 + 1))]) rfl ?_
        exact llX9_climb_5 m h x2 (fX7_parentOf T x3) (x4 + 1) _ H xX xT
def fX9_climb (n : Nat) (X : tX) (v : Int32) (levels : Int32) (T : tT) : Option (Int32) := lX9_climb_5 n X T n levels v 0
theorem spX9_climb {d n : Nat} {h : pH} {X : tX} {T : tT} (xX : isX h X) (xT : isT h 7 T) (v : Int32) (levels : Int32) {res : Int32} (H : fX9_climb n X v levels T = some res) : Ev (d + 2) mX9_climb (h, 0, [(0, .ref 0), (1, .int v), (2, .int levels)], []) (fun r h1 => r = some (.int res) ∧ h1 = h) := by
  unfold fX9_climb at H
  refine Ev.go 4 (s' := (h, 5, [(0, .ref 0), (1, .int v), (2, .int levels), (3, .int v), (4, .int 0)], [])) rfl ?_
  refine Ev.live rfl (lv' := [(0, .ref 0), (2, .int levels), (3, .int v), (4, .int 0)]) rfl ?_
  exact llX9_climb_5 n h levels v 0 _ H xX xT
def fX9_isPlace (n : Nat) (X : tX) (p : Int32) (place : Int32) (T : tT) : Option (Int32) := (if (fX7_isThere T p) = 0 then some 0 else (if place < 0 then some 0 else ((fX7_kidsOf n T p).bind fun y4 => (if y4 < place then some 0 else some 1))))
theorem spX9_isPlace {d n : Nat} {h : pH} {X : tX} {T : tT} (xX : isX h X) (xT : isT h 7 T) (p : Int32) (place : Int32) {res : Int32} (H : fX9_isPlace n X p place T = some res) : Ev (d + 3) mX9_isPlace (h, 0, [(0, .ref 0), (1, .int p), (2, .int place)], []) (fun r h1 => r = some (.int res) ∧ h1 = h) := by
  unfold fX9_isPlace at H
  refine Ev.go 1 (s' := (h, 1, [(0, .ref 0), (1, .int p), (2, .int place)], [.ref 0])) rfl ?_
  refine Ev.get rfl (by decide) xX rfl ?_
  refine Ev.go 1 (s' := (h, 5, [(0, .ref 0), (1, .int p), (2, .int place)], [.int p, .ref 7])) rfl ?_
  refine Ev.callE rfl rfl rfl (p_argsV (by decide) xT.1 (Nat.le_of_ble_eq_true rfl)) rfl (Nat.le_of_ble_eq_true rfl) (spX7_isThere xT p) ?_
  refine Ev.if1 rfl (fun c1 => ?_) (fun c1 => ?_)
  · have c1 : (fX7_isThere T p) = 0 := c1
    rw [if_pos c1] at H
    refine Ev.go 1 (s' := (h, 32, [(0, .ref 0), (1, .int p), (2, .int place)], [.int 0])) rfl ?_
    have H := Option.some.inj H
    subst H
    exact Ev.ret rfl rfl (p_retZ rfl) ⟨rfl, rfl⟩
  · have c1 : ¬ ((fX7_isThere T p) = 0) := c1
    rw [if_neg c1] at H
    refine Ev.go 1 (s' := (h, 12, [(0, .ref 0), (1, .int p), (2, .int place)], [.int place])) rfl ?_
    refine Ev.if1 rfl (fun c2 => ?_) (fun c2 => ?_)
    · have c2 : place < 0 := c2
      rw [if_pos c2] at H
      refine Ev.go 1 (s' := (h, 32, [(0, .ref 0), (1, .int p), (2, .int place)], [.int 0])) rfl ?_
      have H := Option.some.inj H
      subst H
      exact Ev.ret rfl rfl (p_retZ rfl) ⟨rfl, rfl⟩
    · have c2 : ¬ (place < 0) := c2
      rw [if_neg c2] at H
      refine Ev.go 2 (s' := (h, 17, [(0, .ref 0), (1, .int p), (2, .int place)], [.ref 0, .int place])) rfl ?_
      refine Ev.get rfl (by decide) xX rfl ?_
      refine Ev.go 1 (s' := (h, 21, [(0, .ref 0), (1, .int p), (2, .int place)], [.int p, .ref 7, .int place])) rfl ?_
      obtain ⟨y4, e3, H⟩ := Option.bind_eq_some_iff.mp H
      refine Ev.callE rfl rfl rfl (p_argsV (by decide) xT.1 (Nat.le_of_ble_eq_true rfl)) rfl (Nat.le_of_ble_eq_true rfl) (spX7_kidsOf xT p e3) ?_
      refine Ev.if2 rfl (fun c5 => ?_) (fun c5 => ?_)
      · have c5 : y4 < place := c5
        rw [if_pos c5] at H
        refine Ev.go 1 (s' := (h, 32, [(0, .ref 0), (1, .int p), (2, .int place)], [.int 0])) rfl ?_
        have H := Option.some.inj H
        subst H
        exact Ev.ret rfl rfl (p_retZ rfl) ⟨rfl, rfl⟩
      · have c5 : ¬ (y4 < place) := c5
        rw [if_neg c5] at H
        refine Ev.go 2 (s' := (h, 32, [(0, .ref 0), (1, .int p), (2, .int place)], [.int 1])) rfl ?_
        have H := Option.some.inj H
        subst H
        exact Ev.ret rfl rfl (p_retZ rfl) ⟨rfl, rfl⟩
def lX9_mostFigures_4 (n : Nat) (X : tX) (T : tT) (O : tO) : Nat → Int32 → Int32 → Option (Int32)
  | 0, _, _ => none
  | m + 1, x1, x2 => (if (fX3_size O) ≤ x2 then some x1 else ((fX3_nodeAt O x2).bind fun y3 => ((fX0_length n (fX7_spotOf T y3)).bind fun y5 => lX9_mostFigures_4 n X T O m (if x1 < y5 then y5 else x1) (x2 + 1))))
theorem llX9_mostFigures_4 {d n : Nat} {X : tX} {T : tT} {O : tO} : ∀ (m : Nat) (h : pH) (x1 : Int32) (x2 : Int32) (res : Int32), lX9_mostFigures_4 n X T O m x1 x2 = some res → isX h X → isT h 7 T → isO h O → Ev (d + 2) mX9_mostFigures (h, 4, [(0, .ref 0), (1, .int x1), (2, .int x2)], []) (fun r h1 => r = some (.int res) ∧ h1 = h)
  | 0, h, x1, x2, res, H, _, _, _ => by cases H
  | m + 1, h, x1, x2, res, H, xX, xT, xO => by
    have H : (if (fX3_size O) ≤ x2 then some x1 else ((fX3_nodeAt O x2).bind fun y3 => ((fX0_length n (fX7_spotOf T y3)).bind fun y5 => lX9_mostFigures_4 n X T O m (if x1 < y5 then y5 else x1) (x2 + 1)))) = some res := H
    refine Ev.go 2 (s' := (h, 6, [(0, .ref 0), (1, .int x1), (2, .int x2)], [.ref 0, .int x2])) rfl ?_
    refine Ev.get rfl (by decide) xX rfl ?_
    refine Ev.callE rfl rfl rfl (p_argsV (by decide) xO.1 (Nat.le_of_ble_eq_true rfl)) rfl (Nat.le_of_ble_eq_true rfl) (spX3_size xO ) ?_
    refine Ev.if2 rfl (fun c1 => ?_) (fun c1 => ?_)
    · have c1 : (fX3_size O) ≤ x2 := c1
      rw [if_pos c1] at H
      refine Ev.go 1 (s' := (h, 45, [(0, .ref 0), (1, .int x1), (2, .int x2)], [.int x1])) rfl ?_
      have H := Option.some.inj H
      subst H
      exact Ev.ret rfl rfl (p_retZ rfl) ⟨rfl, rfl⟩
    · have c1 : ¬ ((fX3_size O) ≤ x2) := c1
      rw [if_neg c1] at H
      refine Ev.go 2 (s' := (h, 17, [(0, .ref 0), (1, .int x1), (2, .int x2)], [.ref 0, .int x1])) rfl ?_
      refine Ev.get rfl (by decide) xX rfl ?_
      refine Ev.go 1 (s' := (h, 21, [(0, .ref 0), (1, .int x1), (2, .int x2)], [.ref 0, .ref 7, .int x1])) rfl ?_
      refine Ev.get rfl (by decide) xX rfl ?_
      refine Ev.go 1 (s' := (h, 25, [(0, .ref 0), (1, .int x1), (2, .int x2)], [.int x2, .ref 15, .ref 7, .int x1])) rfl ?_
      obtain ⟨y3, e2, H⟩ := Option.bind_eq_some_iff.mp H
      refine Ev.callE rfl rfl rfl (p_argsV (by decide) xO.1 (Nat.le_of_ble_eq_true rfl)) rfl (Nat.le_of_ble_eq_true rfl) (spX3_nodeAt xO x2 e2) ?_
      refine Ev.callE rfl rfl rfl (p_argsV (by decide) xT.1 (Nat.le_of_ble_eq_true rfl)) rfl (Nat.le_of_ble_eq_true rfl) (spX7_spotOf xT y3) ?_
      obtain ⟨y5, e4, H⟩ := Option.bind_eq_some_iff.mp H
      refine Ev.callE rfl rfl rfl rfl rfl (Nat.le_of_ble_eq_true rfl) (spX0_length  (fX7_spotOf T y3) e4) ?_
      refine Ev.mmax rfl rfl (Nat.le_of_ble_eq_true rfl) ?_
      refine Ev.go 3 (s' := (h, 4, [(0, .ref 0), (1, .int (if x1 < y5 then y5 else x1)), (2, .int (x2 + 1))], [])) rfl ?_
      refine Ev.live rfl (lv' := [(0, .ref 0), (1, .int (if x1 < y5 then y5 else x1)), (2, .int (x2 + 1))]) rfl ?_
      exact llX9_mostFigures_4 m h (if x1 < y5 then y5 else x1) (x2 + 1) _ H xX xT xO
def fX9_mostFigures (n : Nat) (X : tX) (T : tT) (O : tO) : Option (Int32) := lX9_mostFigures_4 n X T O n 0 1
theorem spX9_mostFigures {d n : Nat} {h : pH} {X : tX} {T : tT} {O : tO} (xX : isX h X) (xT : isT h 7 T) (xO : isO h O) {res : Int32} (H : fX9_mostFigures n X T O = some res) : Ev (d + 2) mX9_mostFigures (h, 0, [(0, .ref 0)], []) (fun r h1 => r = some (.int res) ∧ h1 = h) := by
  unfold fX9_mostFigures at H
  refine Ev.go 4 (s' := (h, 4, [(0, .ref 0), (1, .int 0), (2, .int 1)], [])) rfl ?_
  refine Ev.live rfl (lv' := [(0, .ref 0), (1, .int 0), (2, .int 1)]) rfl ?_
  exact llX9_mostFigures_4 n h 0 1 _ H xX xT xO
def fX9_settle (n : Nat) (X : tX) (T : tT) (O : tO) : Option (tX × tO) := ((fX3_read n O T).bind fun y2 => some ((X.1, 0), y2))
theorem spX9_settle {d n : Nat} {h : pH} {X : tX} {T : tT} {O : tO} (xX : isX h X) (xT : isT h 7 T) (xO : isO h O) {res : tX × tO} (H : fX9_settle n X T O = some res) : Ev (d + 5) mX9_settle (h, 0, [(0, .ref 0)], []) (fun r h1 => r = none ∧ isX h1 res.1 ∧ isO h1 res.2 ∧ fr [(0, 1), (15, 23)] h h1) := by
  unfold fX9_settle at H
  refine Ev.go 1 (s' := (h, 1, [(0, .ref 0)], [.ref 0])) rfl ?_
  refine Ev.get rfl (by decide) xX rfl ?_
  refine Ev.go 1 (s' := (h, 5, [(0, .ref 0)], [.ref 0, .ref 15])) rfl ?_
  refine Ev.get rfl (by decide) xX rfl ?_
  obtain ⟨y2, e1, H⟩ := Option.bind_eq_some_iff.mp H
  refine Ev.call rfl rfl rfl (p_argsV (by decide) xO.1 (Nat.le_of_ble_eq_true rfl)) rfl (Nat.le_of_ble_eq_true rfl) ((spX3_read xO xT  e1).mono (fun r h3 q4 => ?_))
  obtain ⟨rfl, q4_O, q4_f⟩ := q4
  have i5 : isX h3 X := isX.fr q4_f (fr1 (by omega)) xX
  have i6 : isT h3 7 T := isT.fr q4_f (fr1 (by omega)) xT
  refine Ev.go 2 (s' := (h3, 13, [(0, .ref 0)], [.int 0, .ref 0])) rfl ?_
  refine Ev.put rfl rfl (by decide) i5 (Nat.le_of_ble_eq_true rfl) rfl rfl (fs' := [.ref 1, .ref 3, .ref 5, .ref 7, .ref 11, .ref 15, .ref 23, .ref 28, .ref 32, .int X.1, .ref 36, .ref 40, .ref 44, .int 0]) rfl ?_
  have H := Option.some.inj H
  subst H
  exact Ev.ret rfl rfl rfl ⟨rfl, pu_s, ⟨(pu_n (by decide) q4_O.1), (pu_n (by decide) q4_O.2.1), (pu_n (by decide) q4_O.2.2.1), (pu_n (by decide) q4_O.2.2.2.1), (pu_n (by decide) q4_O.2.2.2.2.1), (pu_n (by decide) q4_O.2.2.2.2.2.1), (pu_n (by decide) q4_O.2.2.2.2.2.2.1), (pu_n (by decide) q4_O.2.2.2.2.2.2.2)⟩, (fun k hk => by rw [pu_x (show k ≠ 0 from fun e => by have := hk; simp at this; omega)]; rw [q4_f k (by have := hk; simp at this ⊢; omega)])⟩
def fX9_matchAll (n : Nat) (X : tX) (T : tT) (O : tO) (S : tS) (G : tG) : Option (tX × tG) := (if ¬ X.2 = 0 then some (X, G) else ((fX2_run n G T O S).bind fun y3 => some ((X.1, 1), y3)))
theorem spX9_matchAll {d n : Nat} {h : pH} {X : tX} {T : tT} {O : tO} {S : tS} {G : tG} (xX : isX h X) (xT : isT h 7 T) (xO : isO h O) (xS : isS h 36 S) (xG : isG h G) {res : tX × tG} (H : fX9_matchAll n X T O S G = some res) : Ev (d + 5) mX9_matchAll (h, 0, [(0, .ref 0)], []) (fun r h1 => r = none ∧ isX h1 res.1 ∧ isG h1 res.2 ∧ fr [(0, 1), (44, 73)] h h1) := by
  unfold fX9_matchAll at H
  refine Ev.go 1 (s' := (h, 1, [(0, .ref 0)], [.ref 0])) rfl ?_
  refine Ev.get rfl (by decide) xX rfl ?_
  refine Ev.if1 rfl (fun c1 => ?_) (fun c1 => ?_)
  · have c1 : ¬ X.2 = 0 := c1
    rw [if_pos c1] at H
    have H := Option.some.inj H
    subst H
    exact Ev.ret rfl rfl rfl ⟨rfl, xX, xG, (fun k _ => rfl)⟩
  · have c1 : ¬ (¬ X.2 = 0) := c1
    rw [if_neg c1] at H
    refine Ev.go 1 (s' := (h, 8, [(0, .ref 0)], [.ref 0])) rfl ?_
    refine Ev.get rfl (by decide) xX rfl ?_
    obtain ⟨y3, e2, H⟩ := Option.bind_eq_some_iff.mp H
    refine Ev.call rfl rfl rfl (p_argsV (by decide) xG.1 (Nat.le_of_ble_eq_true rfl)) rfl (Nat.le_of_ble_eq_true rfl) ((spX2_run xG xT xO xS  e2).mono (fun r h4 q5 => ?_))
    obtain ⟨rfl, q5_G, q5_f⟩ := q5
    have i6 : isX h4 X := isX.fr q5_f (fr1 (by omega)) xX
    have i7 : isT h4 7 T := isT.fr q5_f (fr1 (by omega)) xT
    have i8 : isO h4 O := isO.fr q5_f (fr1 (by omega)) xO
    have i9 : isS h4 36 S := isS.fr q5_f (fr1 (by omega)) xS
    refine Ev.go 2 (s' := (h4, 16, [(0, .ref 0)], [.int 1, .ref 0])) rfl ?_
    refine Ev.put rfl rfl (by decide) i6 (Nat.le_of_ble_eq_true rfl) rfl rfl (fs' := [.ref 1, .ref 3, .ref 5, .ref 7, .ref 11, .ref 15, .ref 23, .ref 28, .ref 32, .int X.1, .ref 36, .ref 40, .ref 44, .int 1]) rfl ?_
    have H := Option.some.inj H
    subst H
    exact Ev.ret rfl rfl rfl ⟨rfl, pu_s, ⟨(pu_n (by decide) q5_G.1), (pu_n (by decide) q5_G.2.1), (rw_keep q5_G.2.2.1 (by omega)), (pu_n (by decide) q5_G.2.2.2.1), (rw_keep q5_G.2.2.2.2.1 (by omega)), (pu_n (by decide) q5_G.2.2.2.2.2.1), (rw_keep q5_G.2.2.2.2.2.2.1 (by omega)), (pu_n (by decide) q5_G.2.2.2.2.2.2.2)⟩, (fun k hk => by rw [pu_x (show k ≠ 0 from fun e => by have := hk; simp at this; omega)]; rw [q5_f k (by have := hk; simp at this ⊢; omega)])⟩
def fX9_write (X : tX) (letter : Int32) (L : tL) : Option (Int32 × tL) := (if letter < 32 then some ((-1), L) else (if letter ≤ 126 then (if (fX1_isFull L) = 0 then ((fX1_add L letter).bind fun y5 => some (fX1_size y5, y5)) else some ((-3), L)) else some ((-1), L)))
theorem spX9_write {d : Nat} {h : pH} {X : tX} {L : tL} (xX : isX h X) (xL : isL h L) (letter : Int32) {res : Int32 × tL} (H : fX9_write X letter L = some res) : Ev (d + 1) mX9_write (h, 0, [(0, .ref 0), (1, .int letter)], []) (fun r h1 => r = some (.int res.1) ∧ isL h1 res.2 ∧ fr [(1, 3)] h h1) := by
  unfold fX9_write at H
  refine Ev.go 2 (s' := (h, 3, [(0, .ref 0), (1, .int letter)], [.int 32, .int letter])) rfl ?_
  refine Ev.if2 rfl (fun c1 => ?_) (fun c1 => ?_)
  · have c1 : letter < 32 := c1
    rw [if_pos c1] at H
    refine Ev.go 1 (s' := (h, 13, [(0, .ref 0), (1, .int letter)], [.int ((-1))])) rfl ?_
    have H := Option.some.inj H
    subst H
    exact Ev.ret rfl rfl (p_retZ rfl) ⟨rfl, xL, (fun k _ => rfl)⟩
  · have c1 : ¬ (letter < 32) := c1
    rw [if_neg c1] at H
    refine Ev.go 2 (s' := (h, 9, [(0, .ref 0), (1, .int letter)], [.int 126, .int letter])) rfl ?_
    refine Ev.if2 rfl (fun c2 => ?_) (fun c2 => ?_)
    · have c2 : letter ≤ 126 := c2
      rw [if_pos c2] at H
      refine Ev.go 1 (s' := (h, 15, [(0, .ref 0), (1, .int letter)], [.ref 0])) rfl ?_
      refine Ev.get rfl (by decide) xX rfl ?_
      refine Ev.callE rfl rfl rfl (p_argsV (by decide) xL.1 (Nat.le_of_ble_eq_true rfl)) rfl (Nat.le_of_ble_eq_true rfl) (spX1_isFull xL ) ?_
      refine Ev.if1 rfl (fun c3 => ?_) (fun c3 => ?_)
      · have c3 : (fX1_isFull L) = 0 := c3
        rw [if_pos c3] at H
        refine Ev.go 1 (s' := (h, 28, [(0, .ref 0), (1, .int letter)], [.ref 0])) rfl ?_
        refine Ev.get rfl (by decide) xX rfl ?_
        refine Ev.go 1 (s' := (h, 32, [(0, .ref 0), (1, .int letter)], [.int letter, .ref 1])) rfl ?_
        obtain ⟨y5, e4, H⟩ := Option.bind_eq_some_iff.mp H
        refine Ev.call rfl rfl rfl (p_argsV (by decide) xL.1 (Nat.le_of_ble_eq_true rfl)) rfl (Nat.le_of_ble_eq_true rfl) ((spX1_add xL letter e4).mono (fun r h6 q7 => ?_))
        obtain ⟨rfl, q7_L, q7_f⟩ := q7
        have i8 : isX h6 X := isX.fr q7_f (fr1 (by omega)) xX
        refine Ev.go 1 (s' := (h6, 36, [(0, .ref 0), (1, .int letter)], [.ref 0])) rfl ?_
        refine Ev.get rfl (by decide) i8 rfl ?_
        refine Ev.callE rfl rfl rfl (p_argsV (by decide) q7_L.1 (Nat.le_of_ble_eq_true rfl)) rfl (Nat.le_of_ble_eq_true rfl) (spX1_size q7_L ) ?_
        have H := Option.some.inj H
        subst H
        exact Ev.ret rfl rfl (p_retZ rfl) ⟨rfl, q7_L, (fun k hk => by rw [q7_f k (by have := hk; simp at this ⊢; omega)])⟩
      · have c3 : ¬ ((fX1_isFull L) = 0) := c3
        rw [if_neg c3] at H
        refine Ev.go 1 (s' := (h, 26, [(0, .ref 0), (1, .int letter)], [.int ((-3))])) rfl ?_
        have H := Option.some.inj H
        subst H
        exact Ev.ret rfl rfl (p_retZ rfl) ⟨rfl, xL, (fun k _ => rfl)⟩
    · have c2 : ¬ (letter ≤ 126) := c2
      rw [if_neg c2] at H
      refine Ev.go 1 (s' := (h, 13, [(0, .ref 0), (1, .int letter)], [.int ((-1))])) rfl ?_
      have H := Option.some.inj H
      subst H
      exact Ev.ret rfl rfl (p_retZ rfl) ⟨rfl, xL, (fun k _ => rfl)⟩
def fX9_wipe (X : tX) (L : tL) : Option (Int32 × tL) := ((fX1_clear L).bind fun y2 => some (fX1_size L, y2))
theorem spX9_wipe {d : Nat} {h : pH} {X : tX} {L : tL} (xX : isX h X) (xL : isL h L) {res : Int32 × tL} (H : fX9_wipe X L = some res) : Ev (d + 1) mX9_wipe (h, 0, [(0, .ref 0)], []) (fun r h1 => r = some (.int res.1) ∧ isL h1 res.2 ∧ fr [(1, 3)] h h1) := by
  unfold fX9_wipe at H
  refine Ev.go 1 (s' := (h, 1, [(0, .ref 0)], [.ref 0])) rfl ?_
  refine Ev.get rfl (by decide) xX rfl ?_
  refine Ev.callE rfl rfl rfl (p_argsV (by decide) xL.1 (Nat.le_of_ble_eq_true rfl)) rfl (Nat.le_of_ble_eq_true rfl) (spX1_size xL ) ?_
  refine Ev.go 2 (s' := (h, 9, [(0, .ref 0), (1, .int (fX1_size L))], [.ref 0])) rfl ?_
  refine Ev.get rfl (by decide) xX rfl ?_
  obtain ⟨y2, e1, H⟩ := Option.bind_eq_some_iff.mp H
  refine Ev.call rfl rfl rfl (p_argsV (by decide) xL.1 (Nat.le_of_ble_eq_true rfl)) rfl (Nat.le_of_ble_eq_true rfl) ((spX1_clear xL  e1).mono (fun r h3 q4 => ?_))
  obtain ⟨rfl, q4_L, q4_f⟩ := q4
  have i5 : isX h3 X := isX.fr q4_f (fr1 (by omega)) xX
  refine Ev.go 1 (s' := (h3, 16, [(0, .ref 0), (1, .int (fX1_size L))], [.int (fX1_size L)])) rfl ?_
  have H := Option.some.inj H
  subst H
  exact Ev.ret rfl rfl (p_retZ rfl) ⟨rfl, q4_L, (fun k hk => by rw [q4_f k (by have := hk; simp at this ⊢; omega)])⟩
def fX9_fault (n : Nat) (X : tX) (L : tL) (K : tK) (D : tT) : Option (Int32 × tK × tT) := ((fX8_read n K L D).bind fun y2 => (if 0 ≤ y2.1 then some (y2.1, y2.2.1, y2.2.2) else some ((-4), y2.2.1, y2.2.2)))
theorem spX9_fault {d n : Nat} {h : pH} {X : tX} {L : tL} {K : tK} {D : tT} (xX : isX h X) (xL : isL h L) (xK : isK h K) (xD : isT h 11 D) {res : Int32 × tK × tT} (H : fX9_fault n X L K D = some res) : Ev (d + 7) mX9_fault (h, 0, [(0, .ref 0)], []) (fun r h1 => r = some (.int res.1) ∧ isK h1 res.2.1 ∧ isT h1 11 res.2.2 ∧ fr [(3, 5), (11, 15)] h h1) := by
  unfold fX9_fault at H
  refine Ev.go 1 (s' := (h, 1, [(0, .ref 0)], [.ref 0])) rfl ?_
  refine Ev.get rfl (by decide) xX rfl ?_
  refine Ev.go 1 (s' := (h, 5, [(0, .ref 0)], [.ref 0, .ref 3])) rfl ?_
  refine Ev.get rfl (by decide) xX rfl ?_
  refine Ev.go 1 (s' := (h, 9, [(0, .ref 0)], [.ref 0, .ref 1, .ref 3])) rfl ?_
  refine Ev.get rfl (by decide) xX rfl ?_
  obtain ⟨y2, e1, H⟩ := Option.bind_eq_some_iff.mp H
  refine Ev.call rfl rfl rfl (p_argsV (by decide) xK.1 (Nat.le_of_ble_eq_true rfl)) rfl (Nat.le_of_ble_eq_true rfl) ((spX8_read xK xL xD (by omega)  e1).mono (fun r h3 q4 => ?_))
  obtain ⟨rfl, q4_K, q4_T, q4_f⟩ := q4
  have i5 : isX h3 X := isX.fr q4_f (fr2 (by omega) (by omega)) xX
  have i6 : isL h3 L := isL.fr q4_f (fr2 (by omega) (by omega)) xL
  refine Ev.go 2 (s' := (h3, 17, [(0, .ref 0), (1, .int y2.1)], [.int y2.1])) rfl ?_
  refine Ev.if1 rfl (fun c7 => ?_) (fun c7 => ?_)
  · have c7 : 0 ≤ y2.1 := c7
    rw [if_pos c7] at H
    refine Ev.go 1 (s' := (h3, 26, [(0, .ref 0), (1, .int y2.1)], [.int y2.1])) rfl ?_
    have H := Option.some.inj H
    subst H
    exact Ev.ret rfl rfl (p_retZ rfl) ⟨rfl, q4_K, q4_T, (fun k hk => by rw [q4_f k (by have := hk; simp at this ⊢; omega)])⟩
  · have c7 : ¬ (0 ≤ y2.1) := c7
    rw [if_neg c7] at H
    refine Ev.go 2 (s' := (h3, 26, [(0, .ref 0), (1, .int y2.1)], [.int ((-4))])) rfl ?_
    have H := Option.some.inj H
    subst H
    exact Ev.ret rfl rfl (p_retZ rfl) ⟨rfl, q4_K, q4_T, (fun k hk => by rw [q4_f k (by have := hk; simp at this ⊢; omega)])⟩
def fX9_lay (n : Nat) (X : tX) (L : tL) (K : tK) (T : tT) (D : tT) (O : tO) (P : tP) (S : tS) : Option (Int32 × tX × tK × tT × tT × tO × tP × tS) := ((fX8_read n K L D).bind fun y2 => (if 0 ≤ y2.1 then some ((-2), X, y2.2.1, T, y2.2.2, O, P, S) else (if ¬ (fX7_isThere y2.2.2 0) = 0 then ((fX7_copyFrom T y2.2.2).bind fun y14 => ((fX5_clear S).bind fun y25 => ((fX4_clear P).bind fun y36 => ((fX9_settle n (0, X.2) y14 O).bind fun y47 => some (fX3_size y47.2, y47.1, y2.2.1, y14, y2.2.2, y47.2, y36, y25))))) else some ((-2), X, y2.2.1, T, y2.2.2, O, P, S))))
theorem spX9_lay {d n : Nat} {h : pH} {X : tX} {L : tL} {K : tK} {T : tT} {D : tT} {O : tO} {P : tP} {S : tS} (xX : isX h X) (xL : isL h L) (xK : isK h K) (xT : isT h 7 T) (xD : isT h 11 D) (xO : isO h O) (xP : isP h P) (xS : isS h 36 S) {res : Int32 × tX × tK × tT × tT × tO × tP × tS} (H : fX9_lay n X L K T D O P S = some res) : Ev (d + 7) mX9_lay (h, 0, [(0, .ref 0)], []) (fun r h1 => r = some (.int res.1) ∧ isX h1 res.2.1 ∧ isK h1 res.2.2.1 ∧ isT h1 7 res.2.2.2.1 ∧ isT h1 11 res.2.2.2.2.1 ∧ isO h1 res.2.2.2.2.2.1 ∧ isP h1 res.2.2.2.2.2.2.1 ∧ isS h1 36 res.2.2.2.2.2.2.2 ∧ fr [(0, 1), (3, 5), (7, 11), (11, 15), (15, 23), (23, 28), (36, 40)] h h1) := by
  unfold fX9_lay at H
  refine Ev.go 1 (s' := (h, 1, [(0, .ref 0)], [.ref 0])) rfl ?_
  refine Ev.get rfl (by decide) xX rfl ?_
  refine Ev.go 1 (s' := (h, 5, [(0, .ref 0)], [.ref 0, .ref 3])) rfl ?_
  refine Ev.get rfl (by decide) xX rfl ?_
  refine Ev.go 1 (s' := (h, 9, [(0, .ref 0)], [.ref 0, .ref 1, .ref 3])) rfl ?_
  refine Ev.get rfl (by decide) xX rfl ?_
  obtain ⟨y2, e1, H⟩ := Option.bind_eq_some_iff.mp H
  refine Ev.call rfl rfl rfl (p_argsV (by decide) xK.1 (Nat.le_of_ble_eq_true rfl)) rfl (Nat.le_of_ble_eq_true rfl) ((spX8_read xK xL xD (by omega)  e1).mono (fun r h3 q4 => ?_))
  obtain ⟨rfl, q4_K, q4_T, q4_f⟩ := q4
  have i5 : isX h3 X := isX.fr q4_f (fr2 (by omega) (by omega)) xX
  have i6 : isL h3 L := isL.fr q4_f (fr2 (by omega) (by omega)) xL
  have i7 : isT h3 7 T := isT.fr q4_f (fr2 (by omega) (by omega)) xT
  have i8 : isO h3 O := isO.fr q4_f (fr2 (by omega) (by omega)) xO
  have i9 : isP h3 P := isP.fr q4_f (fr2 (by omega) (by omega)) xP
  have i10 : isS h3 36 S := isS.fr q4_f (fr2 (by omega) (by omega)) xS
  refine Ev.go 2 (s' := (h3, 17, [(0, .ref 0), (1, .int y2.1)], [.int y2.1])) rfl ?_
  refine Ev.if1 rfl (fun c11 => ?_) (fun c11 => ?_)
  · have c11 : 0 ≤ y2.1 := c11
    rw [if_pos c11] at H
    refine Ev.go 1 (s' := (h3, 33, [(0, .ref 0), (1, .int y2.1)], [.int ((-2))])) rfl ?_
    have H := Option.some.inj H
    subst H
    exact Ev.ret rfl rfl (p_retZ rfl) ⟨rfl, i5, q4_K, i7, q4_T, i8, i9, i10, (fun k hk => by rw [q4_f k (by have := hk; simp at this ⊢; omega)])⟩
  · have c11 : ¬ (0 ≤ y2.1) := c11
    rw [if_neg c11] at H
    refine Ev.go 1 (s' := (h3, 21, [(0, .ref 0), (1, .int y2.1)], [.ref 0])) rfl ?_
    refine Ev.get rfl (by decide) i5 rfl ?_
    refine Ev.go 1 (s' := (h3, 25, [(0, .ref 0), (1, .int y2.1)], [.int 0, .ref 11])) rfl ?_
    refine Ev.callE rfl rfl rfl (p_argsV (by decide) q4_T.1 (Nat.le_of_ble_eq_true rfl)) rfl (Nat.le_of_ble_eq_true rfl) (spX7_isThere q4_T 0) ?_
    refine Ev.if1 rfl (fun c12 => ?_) (fun c12 => ?_)
    · have c12 : ¬ (fX7_isThere y2.2.2 0) = 0 := c12
      rw [if_pos c12] at H
      refine Ev.go 1 (s' := (h3, 35, [(0, .ref 0), (1, .int y2.1)], [.ref 0])) rfl ?_
      refine Ev.get rfl (by decide) i5 rfl ?_
      refine Ev.go 1 (s' := (h3, 39, [(0, .ref 0), (1, .int y2.1)], [.ref 0, .ref 7])) rfl ?_
      refine Ev.get rfl (by decide) i5 rfl ?_
      obtain ⟨y14, e13, H⟩ := Option.bind_eq_some_iff.mp H
      refine Ev.call rfl rfl rfl (p_argsV (by decide) i7.1 (Nat.le_of_ble_eq_true rfl)) rfl (Nat.le_of_ble_eq_true rfl) ((spX7_copyFrom i7 q4_T (by omega)  e13).mono (fun r h15 q16 => ?_))
      obtain ⟨rfl, q16_T, q16_f⟩ := q16
      have i17 : isX h15 X := isX.fr q16_f (fr1 (by omega)) i5
      have i18 : isL h15 L := isL.fr q16_f (fr1 (by omega)) i6
      have i19 : isK h15 y2.2.1 := isK.fr q16_f (fr1 (by omega)) q4_K
      have i20 : isT h15 11 y2.2.2 := isT.fr q16_f (fr1 (by omega)) q4_T
      have i21 : isO h15 O := isO.fr q16_f (fr1 (by omega)) i8
      have i22 : isP h15 P := isP.fr q16_f (fr1 (by omega)) i9
      have i23 : isS h15 36 S := isS.fr q16_f (fr1 (by omega)) i10
      refine Ev.go 1 (s' := (h15, 46, [(0, .ref 0), (1, .int y2.1)], [.ref 0])) rfl ?_
      refine Ev.get rfl (by decide) i17 rfl ?_
      obtain ⟨y25, e24, H⟩ := Option.bind_eq_some_iff.mp H
      refine Ev.call rfl rfl rfl (p_argsV (by decide) i23.1 (Nat.le_of_ble_eq_true rfl)) rfl (Nat.le_of_ble_eq_true rfl) ((spX5_clear i23  e24).mono (fun r h26 q27 => ?_))
      obtain ⟨rfl, q27_S, q27_f⟩ := q27
      have i28 : isX h26 X := isX.fr q27_f (fr1 (by omega)) i17
      have i29 : isL h26 L := isL.fr q27_f (fr1 (by omega)) i18
      have i30 : isK h26 y2.2.1 := isK.fr q27_f (fr1 (by omega)) i19
      have i31 : isT h26 7 y14 := isT.fr q27_f (fr1 (by omega)) q16_T
      have i32 : isT h26 11 y2.2.2 := isT.fr q27_f (fr1 (by omega)) i20
      have i33 : isO h26 O := isO.fr q27_f (fr1 (by omega)) i21
      have i34 : isP h26 P := isP.fr q27_f (fr1 (by omega)) i22
      refine Ev.go 1 (s' := (h26, 53, [(0, .ref 0), (1, .int y2.1)], [.ref 0])) rfl ?_
      refine Ev.get rfl (by decide) i28 rfl ?_
      obtain ⟨y36, e35, H⟩ := Option.bind_eq_some_iff.mp H
      refine Ev.call rfl rfl rfl (p_argsV (by decide) i34.1 (Nat.le_of_ble_eq_true rfl)) rfl (Nat.le_of_ble_eq_true rfl) ((spX4_clear i34  e35).mono (fun r h37 q38 => ?_))
      obtain ⟨rfl, q38_P, q38_f⟩ := q38
      have i39 : isX h37 X := isX.fr q38_f (fr1 (by omega)) i28
      have i40 : isL h37 L := isL.fr q38_f (fr1 (by omega)) i29
      have i41 : isK h37 y2.2.1 := isK.fr q38_f (fr1 (by omega)) i30
      have i42 : isT h37 7 y14 := isT.fr q38_f (fr1 (by omega)) i31
      have i43 : isT h37 11 y2.2.2 := isT.fr q38_f (fr1 (by omega)) i32
      have i44 : isO h37 O := isO.fr q38_f (fr1 (by omega)) i33
      have i45 : isS h37 36 y25 := isS.fr q38_f (fr1 (by omega)) q27_S
      refine Ev.go 2 (s' := (h37, 61, [(0, .ref 0), (1, .int y2.1)], [.int 0, .ref 0])) rfl ?_
      refine Ev.put rfl rfl (by decide) i39 (Nat.le_of_ble_eq_true rfl) rfl rfl (fs' := [.ref 1, .ref 3, .ref 5, .ref 7, .ref 11, .ref 15, .ref 23, .ref 28, .ref 32, .int 0, .ref 36, .ref 40, .ref 44, .int X.2]) rfl ?_
      refine Ev.go 1 (s' := ((pu h37 0 (eO 8 [.ref 1, .ref 3, .ref 5, .ref 7, .ref 11, .ref 15, .ref 23, .ref 28, .ref 32, .int 0, .ref 36, .ref 40, .ref 44, .int X.2])), 65, [(0, .ref 0), (1, .int y2.1)], [.ref 0])) rfl ?_
      obtain ⟨y47, e46, H⟩ := Option.bind_eq_some_iff.mp H
      refine Ev.call rfl rfl rfl (p_argsV (by decide) pu_s (Nat.le_of_ble_eq_true rfl)) rfl (Nat.le_of_ble_eq_true rfl) ((spX9_settle (h := (pu h37 0 (eO 8 [.ref 1, .ref 3, .ref 5, .ref 7, .ref 11, .ref 15, .ref 23, .ref 28, .ref 32, .int 0, .ref 36, .ref 40, .ref 44, .int X.2]))) (X := (0, X.2)) (T := y14) (O := O) pu_s ⟨(pu_n (by decide) i42.1), (pu_n (by decide) i42.2.1), (pu_n (by decide) i42.2.2.1), (pu_n (by decide) i42.2.2.2.1), (by decide)⟩ ⟨(pu_n (by decide) i44.1), (pu_n (by decide) i44.2.1), (pu_n (by decide) i44.2.2.1), (pu_n (by decide) i44.2.2.2.1), (pu_n (by decide) i44.2.2.2.2.1), (pu_n (by decide) i44.2.2.2.2.2.1), (pu_n (by decide) i44.2.2.2.2.2.2.1), (pu_n (by decide) i44.2.2.2.2.2.2.2)⟩  e46).mono (fun r h48 q49 => ?_))
      obtain ⟨rfl, q49_X, q49_O, q49_f⟩ := q49
      have i50 : isL h48 L := isL.fr q49_f (fr2 (by omega) (by omega)) ⟨(pu_n (by decide) i40.1), (pu_n (by decide) i40.2)⟩
      have i51 : isK h48 y2.2.1 := isK.fr q49_f (fr2 (by omega) (by omega)) ⟨(pu_n (by decide) i41.1), (pu_n (by decide) i41.2)⟩
      have i52 : isT h48 7 y14 := isT.fr q49_f (fr2 (by omega) (by omega)) ⟨(pu_n (by decide) i42.1), (pu_n (by decide) i42.2.1), (pu_n (by decide) i42.2.2.1), (pu_n (by decide) i42.2.2.2.1), (by decide)⟩
      have i53 : isT h48 11 y2.2.2 := isT.fr q49_f (fr2 (by omega) (by omega)) ⟨(pu_n (by decide) i43.1), (pu_n (by decide) i43.2.1), (pu_n (by decide) i43.2.2.1), (pu_n (by decide) i43.2.2.2.1), (by decide)⟩
      have i54 : isP h48 y36 := isP.fr q49_f (fr2 (by omega) (by omega)) ⟨(pu_n (by decide) q38_P.1), (pu_n (by decide) q38_P.2.1), (pu_n (by decide) q38_P.2.2.1), (pu_n (by decide) q38_P.2.2.2.1), (pu_n (by decide) q38_P.2.2.2.2)⟩
      have i55 : isS h48 36 y25 := isS.fr q49_f (fr2 (by omega) (by omega)) ⟨(pu_n (by decide) i45.1), (pu_n (by decide) i45.2.1), (pu_n (by decide) i45.2.2.1), (pu_n (by decide) i45.2.2.2.1), (by decide)⟩
      refine Ev.go 1 (s' := (h48, 69, [(0, .ref 0), (1, .int y2.1)], [.ref 0])) rfl ?_
      refine Ev.get rfl (by decide) q49_X rfl ?_
      refine Ev.callE rfl rfl rfl (p_argsV (by decide) q49_O.1 (Nat.le_of_ble_eq_true rfl)) rfl (Nat.le_of_ble_eq_true rfl) (spX3_size q49_O ) ?_
      have H := Option.some.inj H
      subst H
      exact Ev.ret rfl rfl (p_retZ rfl) ⟨rfl, q49_X, i51, i52, i53, q49_O, i54, i55, (fun k hk => by rw [q49_f k (by have := hk; simp at this ⊢; omega)]; rw [pu_x (show k ≠ 0 from fun e => by have := hk; simp at this; omega)]; rw [q38_f k (by have := hk; simp at this ⊢; omega)]; rw [q27_f k (by have := hk; simp at this ⊢; omega)]; rw [q16_f k (by have := hk; simp at this ⊢; omega)]; rw [q4_f k (by have := hk; simp at this ⊢; omega)])⟩
    · have c12 : ¬ (¬ (fX7_isThere y2.2.2 0) = 0) := c12
      rw [if_neg c12] at H
      refine Ev.go 1 (s' := (h3, 33, [(0, .ref 0), (1, .int y2.1)], [.int ((-2))])) rfl ?_
      have H := Option.some.inj H
      subst H
      exact Ev.ret rfl rfl (p_retZ rfl) ⟨rfl, i5, q4_K, i7, q4_T, i8, i9, i10, (fun k hk => by rw [q4_f k (by have := hk; simp at this ⊢; omega)])⟩
def fX9_node (X : tX) (v : Int32) (what : Int32) (T : tT) (O : tO) : Option (Int32) := (if ¬ (fX7_isThere T v) = 0 then ((fX3_rankOf O v).bind fun y3 => (if what = 0 then some (fX7_tagOf T v) else (if what = 1 then (if ¬ v = 0 then some (fX7_parentOf T v) else some (-4)) else (if what = 2 then ((fX3_kidsAt O y3).bind fun y9 => some y9) else (if what = 3 then ((fX3_levelAt O y3).bind fun y12 => some y12) else (if what = 4 then some y3 else (if what = 5 then ((fX3_belowAt O y3).bind fun y16 => some y16) else some (-1)))))))) else some (-1))
theorem spX9_node {d : Nat} {h : pH} {X : tX} {T : tT} {O : tO} (xX : isX h X) (xT : isT h 7 T) (xO : isO h O) (v : Int32) (what : Int32) {res : Int32} (H : fX9_node X v what T O = some res) : Ev (d + 2) mX9_node (h, 0, [(0, .ref 0), (1, .int v), (2, .int what)], []) (fun r h1 => r = some (.int res) ∧ h1 = h) := by
  unfold fX9_node at H
  refine Ev.go 1 (s' := (h, 1, [(0, .ref 0), (1, .int v), (2, .int what)], [.ref 0])) rfl ?_
  refine Ev.get rfl (by decide) xX rfl ?_
  refine Ev.go 1 (s' := (h, 5, [(0, .ref 0), (1, .int v), (2, .int what)], [.int v, .ref 7])) rfl ?_
  refine Ev.callE rfl rfl rfl (p_argsV (by decide) xT.1 (Nat.le_of_ble_eq_true rfl)) rfl (Nat.le_of_ble_eq_true rfl) (spX7_isThere xT v) ?_
  refine Ev.if1 rfl (fun c1 => ?_) (fun c1 => ?_)
  · have c1 : ¬ (fX7_isThere T v) = 0 := c1
    rw [if_pos c1] at H
    refine Ev.go 1 (s' := (h, 14, [(0, .ref 0), (1, .int v), (2, .int what)], [.ref 0])) rfl ?_
    refine Ev.get rfl (by decide) xX rfl ?_
    refine Ev.go 1 (s' := (h, 18, [(0, .ref 0), (1, .int v), (2, .int what)], [.int v, .ref 15])) rfl ?_
    obtain ⟨y3, e2, H⟩ := Option.bind_eq_some_iff.mp H
    refine Ev.callE rfl rfl rfl (p_argsV (by decide) xO.1 (Nat.le_of_ble_eq_true rfl)) rfl (Nat.le_of_ble_eq_true rfl) (spX3_rankOf xO v e2) ?_
    refine Ev.go 2 (s' := (h, 23, [(0, .ref 0), (1, .int v), (2, .int what), (3, .int y3)], [.int what])) rfl ?_
    rcases Classical.em (what = 0) with c4 | c4
    · rw [if_pos c4] at H
      refine Ev.one (s' := (h, 60, [(0, .ref 0), (1, .int v), (2, .int what), (3, .int y3)], [])) rfl rfl (by rw [c4]; rfl) ?_
      refine Ev.go 1 (s' := (h, 61, [(0, .ref 0), (1, .int v), (2, .int what), (3, .int y3)], [.ref 0])) rfl ?_
      refine Ev.get rfl (by decide) xX rfl ?_
      refine Ev.go 1 (s' := (h, 65, [(0, .ref 0), (1, .int v), (2, .int what), (3, .int y3)], [.int v, .ref 7])) rfl ?_
      refine Ev.callE rfl rfl rfl (p_argsV (by decide) xT.1 (Nat.le_of_ble_eq_true rfl)) rfl (Nat.le_of_ble_eq_true rfl) (spX7_tagOf xT v) ?_
      have H := Option.some.inj H
      subst H
      exact Ev.ret rfl rfl (p_retZ rfl) ⟨rfl, rfl⟩
    · rw [if_neg c4] at H
      rcases Classical.em (what = 1) with c5 | c5
      · rw [if_pos c5] at H
        refine Ev.one (s' := (h, 69, [(0, .ref 0), (1, .int v), (2, .int what), (3, .int y3)], [])) rfl rfl (by rw [c5]; rfl) ?_
        refine Ev.go 1 (s' := (h, 70, [(0, .ref 0), (1, .int v), (2, .int what), (3, .int y3)], [.int v])) rfl ?_
        refine Ev.if1 rfl (fun c6 => ?_) (fun c6 => ?_)
        · have c6 : ¬ v = 0 := c6
          rw [if_pos c6] at H
          refine Ev.go 1 (s' := (h, 79, [(0, .ref 0), (1, .int v), (2, .int what), (3, .int y3)], [.ref 0])) rfl ?_
          refine Ev.get rfl (by decide) xX rfl ?_
          refine Ev.go 1 (s' := (h, 83, [(0, .ref 0), (1, .int v), (2, .int what), (3, .int y3)], [.int v, .ref 7])) rfl ?_
          refine Ev.callE rfl rfl rfl (p_argsV (by decide) xT.1 (Nat.le_of_ble_eq_true rfl)) rfl (Nat.le_of_ble_eq_true rfl) (spX7_parentOf xT v) ?_
          have H := Option.some.inj H
          subst H
          exact Ev.ret rfl rfl (p_retZ rfl) ⟨rfl, rfl⟩
        · have c6 : ¬ (¬ v = 0) := c6
          rw [if_neg c6] at H
          refine Ev.go 2 (s' := (h, 86, [(0, .ref 0), (1, .int v), (2, .int what), (3, .int y3)], [.int ((-4))])) rfl ?_
          have H := Option.some.inj H
          subst H
          exact Ev.ret rfl rfl (p_retZ rfl) ⟨rfl, rfl⟩
      · rw [if_neg c5] at H
        rcases Classical.em (what = 2) with c7 | c7
        · rw [if_pos c7] at H
          refine Ev.one (s' := (h, 87, [(0, .ref 0), (1, .int v), (2, .int what), (3, .int y3)], [])) rfl rfl (by rw [c7]; rfl) ?_
          refine Ev.go 1 (s' := (h, 88, [(0, .ref 0), (1, .int v), (2, .int what), (3, .int y3)], [.ref 0])) rfl ?_
          refine Ev.get rfl (by decide) xX rfl ?_
          refine Ev.go 1 (s' := (h, 92, [(0, .ref 0), (1, .int v), (2, .int what), (3, .int y3)], [.int y3, .ref 15])) rfl ?_
          obtain ⟨y9, e8, H⟩ := Option.bind_eq_some_iff.mp H
          refine Ev.callE rfl rfl rfl (p_argsV (by decide) xO.1 (Nat.le_of_ble_eq_true rfl)) rfl (Nat.le_of_ble_eq_true rfl) (spX3_kidsAt xO y3 e8) ?_
          have H := Option.some.inj H
          subst H
          exact Ev.ret rfl rfl (p_retZ rfl) ⟨rfl, rfl⟩
        · rw [if_neg c7] at H
          rcases Classical.em (what = 3) with c10 | c10
          · rw [if_pos c10] at H
            refine Ev.one (s' := (h, 96, [(0, .ref 0), (1, .int v), (2, .int what), (3, .int y3)], [])) rfl rfl (by rw [c10]; rfl) ?_
            refine Ev.go 1 (s' := (h, 97, [(0, .ref 0), (1, .int v), (2, .int what), (3, .int y3)], [.ref 0])) rfl ?_
            refine Ev.get rfl (by decide) xX rfl ?_
            refine Ev.go 1 (s' := (h, 101, [(0, .ref 0), (1, .int v), (2, .int what), (3, .int y3)], [.int y3, .ref 15])) rfl ?_
            obtain ⟨y12, e11, H⟩ := Option.bind_eq_some_iff.mp H
            refine Ev.callE rfl rfl rfl (p_argsV (by decide) xO.1 (Nat.le_of_ble_eq_true rfl)) rfl (Nat.le_of_ble_eq_true rfl) (spX3_levelAt xO y3 e11) ?_
            have H := Option.some.inj H
            subst H
            exact Ev.ret rfl rfl (p_retZ rfl) ⟨rfl, rfl⟩
          · rw [if_neg c10] at H
            rcases Classical.em (what = 4) with c13 | c13
            · rw [if_pos c13] at H
              refine Ev.one (s' := (h, 105, [(0, .ref 0), (1, .int v), (2, .int what), (3, .int y3)], [])) rfl rfl (by rw [c13]; rfl) ?_
              refine Ev.go 1 (s' := (h, 106, [(0, .ref 0), (1, .int v), (2, .int what), (3, .int y3)], [.int y3])) rfl ?_
              have H := Option.some.inj H
              subst H
              exact Ev.ret rfl rfl (p_retZ rfl) ⟨rfl, rfl⟩
            · rw [if_neg c13] at H
              rcases Classical.em (what = 5) with c14 | c14
              · rw [if_pos c14] at H
                refine Ev.one (s' := (h, 107, [(0, .ref 0), (1, .int v), (2, .int what), (3, .int y3)], [])) rfl rfl (by rw [c14]; rfl) ?_
                refine Ev.go 1 (s' := (h, 108, [(0, .ref 0), (1, .int v), (2, .int what), (3, .int y3)], [.ref 0])) rfl ?_
                refine Ev.get rfl (by decide) xX rfl ?_
                refine Ev.go 1 (s' := (h, 112, [(0, .ref 0), (1, .int v), (2, .int what), (3, .int y3)], [.int y3, .ref 15])) rfl ?_
                obtain ⟨y16, e15, H⟩ := Option.bind_eq_some_iff.mp H
                refine Ev.callE rfl rfl rfl (p_argsV (by decide) xO.1 (Nat.le_of_ble_eq_true rfl)) rfl (Nat.le_of_ble_eq_true rfl) (spX3_belowAt xO y3 e15) ?_
                have H := Option.some.inj H
                subst H
                exact Ev.ret rfl rfl (p_retZ rfl) ⟨rfl, rfl⟩
              · rw [if_neg c14] at H
                refine Ev.one (s' := (h, 116, [(0, .ref 0), (1, .int v), (2, .int what), (3, .int y3)], [])) rfl rfl (p_swt (p_sw_0_5 c4 c5 c7 c10 c13 c14)) ?_
                refine Ev.go 1 (s' := (h, 117, [(0, .ref 0), (1, .int v), (2, .int what), (3, .int y3)], [.int ((-1))])) rfl ?_
                have H := Option.some.inj H
                subst H
                exact Ev.ret rfl rfl (p_retZ rfl) ⟨rfl, rfl⟩
  · have c1 : ¬ (¬ (fX7_isThere T v) = 0) := c1
    rw [if_neg c1] at H
    refine Ev.go 1 (s' := (h, 12, [(0, .ref 0), (1, .int v), (2, .int what)], [.int ((-1))])) rfl ?_
    have H := Option.some.inj H
    subst H
    exact Ev.ret rfl rfl (p_retZ rfl) ⟨rfl, rfl⟩
def fX9_child (n : Nat) (X : tX) (v : Int32) (i : Int32) (T : tT) : Option (Int32) := (if (fX7_isThere T v) = 0 then some (-1) else (if 0 ≤ i then ((fX7_childAt n T v i).bind fun y4 => (if 0 ≤ y4 then some y4 else some (-4))) else some (-1)))
theorem spX9_child {d n : Nat} {h : pH} {X : tX} {T : tT} (xX : isX h X) (xT : isT h 7 T) (v : Int32) (i : Int32) {res : Int32} (H : fX9_child n X v i T = some res) : Ev (d + 2) mX9_child (h, 0, [(0, .ref 0), (1, .int v), (2, .int i)], []) (fun r h1 => r = some (.int res) ∧ h1 = h) := by
  unfold fX9_child at H
  refine Ev.go 1 (s' := (h, 1, [(0, .ref 0), (1, .int v), (2, .int i)], [.ref 0])) rfl ?_
  refine Ev.get rfl (by decide) xX rfl ?_
  refine Ev.go 1 (s' := (h, 5, [(0, .ref 0), (1, .int v), (2, .int i)], [.int v, .ref 7])) rfl ?_
  refine Ev.callE rfl rfl rfl (p_argsV (by decide) xT.1 (Nat.le_of_ble_eq_true rfl)) rfl (Nat.le_of_ble_eq_true rfl) (spX7_isThere xT v) ?_
  refine Ev.if1 rfl (fun c1 => ?_) (fun c1 => ?_)
  · have c1 : (fX7_isThere T v) = 0 := c1
    rw [if_pos c1] at H
    refine Ev.go 1 (s' := (h, 16, [(0, .ref 0), (1, .int v), (2, .int i)], [.int ((-1))])) rfl ?_
    have H := Option.some.inj H
    subst H
    exact Ev.ret rfl rfl (p_retZ rfl) ⟨rfl, rfl⟩
  · have c1 : ¬ ((fX7_isThere T v) = 0) := c1
    rw [if_neg c1] at H
    refine Ev.go 1 (s' := (h, 12, [(0, .ref 0), (1, .int v), (2, .int i)], [.int i])) rfl ?_
    refine Ev.if1 rfl (fun c2 => ?_) (fun c2 => ?_)
    · have c2 : 0 ≤ i := c2
      rw [if_pos c2] at H
      refine Ev.go 1 (s' := (h, 18, [(0, .ref 0), (1, .int v), (2, .int i)], [.ref 0])) rfl ?_
      refine Ev.get rfl (by decide) xX rfl ?_
      refine Ev.go 2 (s' := (h, 23, [(0, .ref 0), (1, .int v), (2, .int i)], [.int i, .int v, .ref 7])) rfl ?_
      obtain ⟨y4, e3, H⟩ := Option.bind_eq_some_iff.mp H
      refine Ev.callE rfl rfl rfl (p_argsV (by decide) xT.1 (Nat.le_of_ble_eq_true rfl)) rfl (Nat.le_of_ble_eq_true rfl) (spX7_childAt xT v i e3) ?_
      refine Ev.go 2 (s' := (h, 28, [(0, .ref 0), (1, .int v), (2, .int i), (3, .int y4)], [.int y4])) rfl ?_
      refine Ev.if1 rfl (fun c5 => ?_) (fun c5 => ?_)
      · have c5 : 0 ≤ y4 := c5
        rw [if_pos c5] at H
        refine Ev.go 1 (s' := (h, 37, [(0, .ref 0), (1, .int v), (2, .int i), (3, .int y4)], [.int y4])) rfl ?_
        have H := Option.some.inj H
        subst H
        exact Ev.ret rfl rfl (p_retZ rfl) ⟨rfl, rfl⟩
      · have c5 : ¬ (0 ≤ y4) := c5
        rw [if_neg c5] at H
        refine Ev.go 2 (s' := (h, 37, [(0, .ref 0), (1, .int v), (2, .int i), (3, .int y4)], [.int ((-4))])) rfl ?_
        have H := Option.some.inj H
        subst H
        exact Ev.ret rfl rfl (p_retZ rfl) ⟨rfl, rfl⟩
    · have c2 : ¬ (0 ≤ i) := c2
      rw [if_neg c2] at H
      refine Ev.go 1 (s' := (h, 16, [(0, .ref 0), (1, .int v), (2, .int i)], [.int ((-1))])) rfl ?_
      have H := Option.some.inj H
      subst H
      exact Ev.ret rfl rfl (p_retZ rfl) ⟨rfl, rfl⟩
def fX9_key (n : Nat) (X : tX) (v : Int32) (i : Int32) (what : Int32) (T : tT) (O : tO) : Option (Int32) := (if (fX7_isThere T v) = 0 then some (-1) else (if i < 0 then some (-1) else (if ¬ (fX9_isKeyPart what) = 0 then ((fX3_rankOf O v).bind fun y5 => ((fX3_levelAt O y5).bind fun y7 => (if i < y7 then ((fX9_climb n X v ((y7 - 1) - i) T).bind fun y10 => ((fX9_keyPart n (fX7_spotOf T y10) what).bind fun y12 => some y12)) else some (-4)))) else some (-1))))
theorem spX9_key {d n : Nat} {h : pH} {X : tX} {T : tT} {O : tO} (xX : isX h X) (xT : isT h 7 T) (xO : isO h O) (v : Int32) (i : Int32) (what : Int32) {res : Int32} (H : fX9_key n X v i what T O = some res) : Ev (d + 3) mX9_key (h, 0, [(0, .ref 0), (1, .int v), (2, .int i), (3, .int what)], []) (fun r h1 => r = some (.int res) ∧ h1 = h) := by
  unfold fX9_key at H
  refine Ev.go 1 (s' := (h, 1, [(0, .ref 0), (1, .int v), (2, .int i), (3, .int what)], [.ref 0])) rfl ?_
  refine Ev.get rfl (by decide) xX rfl ?_
  refine Ev.go 1 (s' := (h, 5, [(0, .ref 0), (1, .int v), (2, .int i), (3, .int what)], [.int v, .ref 7])) rfl ?_
  refine Ev.callE rfl rfl rfl (p_argsV (by decide) xT.1 (Nat.le_of_ble_eq_true rfl)) rfl (Nat.le_of_ble_eq_true rfl) (spX7_isThere xT v) ?_
  refine Ev.if1 rfl (fun c1 => ?_) (fun c1 => ?_)
  · have c1 : (fX7_isThere T v) = 0 := c1
    rw [if_pos c1] at H
    refine Ev.go 1 (s' := (h, 23, [(0, .ref 0), (1, .int v), (2, .int i), (3, .int what)], [.int ((-1))])) rfl ?_
    have H := Option.some.inj H
    subst H
    exact Ev.ret rfl rfl (p_retZ rfl) ⟨rfl, rfl⟩
  · have c1 : ¬ ((fX7_isThere T v) = 0) := c1
    rw [if_neg c1] at H
    refine Ev.go 1 (s' := (h, 12, [(0, .ref 0), (1, .int v), (2, .int i), (3, .int what)], [.int i])) rfl ?_
    refine Ev.if1 rfl (fun c2 => ?_) (fun c2 => ?_)
    · have c2 : i < 0 := c2
      rw [if_pos c2] at H
      refine Ev.go 1 (s' := (h, 23, [(0, .ref 0), (1, .int v), (2, .int i), (3, .int what)], [.int ((-1))])) rfl ?_
      have H := Option.some.inj H
      subst H
      exact Ev.ret rfl rfl (p_retZ rfl) ⟨rfl, rfl⟩
    · have c2 : ¬ (i < 0) := c2
      rw [if_neg c2] at H
      refine Ev.go 1 (s' := (h, 16, [(0, .ref 0), (1, .int v), (2, .int i), (3, .int what)], [.int what])) rfl ?_
      refine Ev.callE rfl rfl rfl rfl rfl (Nat.le_of_ble_eq_true rfl) (spX9_isKeyPart  what) ?_
      refine Ev.if1 rfl (fun c3 => ?_) (fun c3 => ?_)
      · have c3 : ¬ (fX9_isKeyPart what) = 0 := c3
        rw [if_pos c3] at H
        refine Ev.go 1 (s' := (h, 25, [(0, .ref 0), (1, .int v), (2, .int i), (3, .int what)], [.ref 0])) rfl ?_
        refine Ev.get rfl (by decide) xX rfl ?_
        refine Ev.go 1 (s' := (h, 29, [(0, .ref 0), (1, .int v), (2, .int i), (3, .int what)], [.ref 0, .ref 15])) rfl ?_
        refine Ev.get rfl (by decide) xX rfl ?_
        refine Ev.go 1 (s' := (h, 33, [(0, .ref 0), (1, .int v), (2, .int i), (3, .int what)], [.int v, .ref 15, .ref 15])) rfl ?_
        obtain ⟨y5, e4, H⟩ := Option.bind_eq_some_iff.mp H
        refine Ev.callE rfl rfl rfl (p_argsV (by decide) xO.1 (Nat.le_of_ble_eq_true rfl)) rfl (Nat.le_of_ble_eq_true rfl) (spX3_rankOf xO v e4) ?_
        obtain ⟨y7, e6, H⟩ := Option.bind_eq_some_iff.mp H
        refine Ev.callE rfl rfl rfl (p_argsV (by decide) xO.1 (Nat.le_of_ble_eq_true rfl)) rfl (Nat.le_of_ble_eq_true rfl) (spX3_levelAt xO y5 e6) ?_
        refine Ev.go 3 (s' := (h, 44, [(0, .ref 0), (1, .int v), (2, .int i), (3, .int what), (4, .int y7)], [.int y7, .int i])) rfl ?_
        refine Ev.if2 rfl (fun c8 => ?_) (fun c8 => ?_)
        · have c8 : i < y7 := c8
          rw [if_pos c8] at H
          refine Ev.go 1 (s' := (h, 51, [(0, .ref 0), (1, .int v), (2, .int i), (3, .int what), (4, .int y7)], [.ref 0])) rfl ?_
          refine Ev.get rfl (by decide) xX rfl ?_
          refine Ev.go 7 (s' := (h, 62, [(0, .ref 0), (1, .int v), (2, .int i), (3, .int what), (4, .int y7)], [.int ((y7 - 1) - i), .int v, .ref 0, .ref 7])) rfl ?_
          obtain ⟨y10, e9, H⟩ := Option.bind_eq_some_iff.mp H
          refine Ev.callE rfl rfl rfl (p_argsV (by decide) xX (Nat.le_of_ble_eq_true rfl)) rfl (Nat.le_of_ble_eq_true rfl) (spX9_climb xX xT v ((y7 - 1) - i) e9) ?_
          refine Ev.callE rfl rfl rfl (p_argsV (by decide) xT.1 (Nat.le_of_ble_eq_true rfl)) rfl (Nat.le_of_ble_eq_true rfl) (spX7_spotOf xT y10) ?_
          refine Ev.go 1 (s' := (h, 69, [(0, .ref 0), (1, .int v), (2, .int i), (3, .int what), (4, .int y7)], [.int what, .int (fX7_spotOf T y10)])) rfl ?_
          obtain ⟨y12, e11, H⟩ := Option.bind_eq_some_iff.mp H
          refine Ev.callE rfl rfl rfl rfl rfl (Nat.le_of_ble_eq_true rfl) (spX9_keyPart  (fX7_spotOf T y10) what e11) ?_
          have H := Option.some.inj H
          subst H
          exact Ev.ret rfl rfl (p_retZ rfl) ⟨rfl, rfl⟩
        · have c8 : ¬ (i < y7) := c8
          rw [if_neg c8] at H
          refine Ev.go 1 (s' := (h, 49, [(0, .ref 0), (1, .int v), (2, .int i), (3, .int what), (4, .int y7)], [.int ((-4))])) rfl ?_
          have H := Option.some.inj H
          subst H
          exact Ev.ret rfl rfl (p_retZ rfl) ⟨rfl, rfl⟩
      · have c3 : ¬ (¬ (fX9_isKeyPart what) = 0) := c3
        rw [if_neg c3] at H
        refine Ev.go 1 (s' := (h, 23, [(0, .ref 0), (1, .int v), (2, .int i), (3, .int what)], [.int ((-1))])) rfl ?_
        have H := Option.some.inj H
        subst H
        exact Ev.ret rfl rfl (p_retZ rfl) ⟨rfl, rfl⟩
def fX9_at (X : tX) (k : Int32) (O : tO) : Option (Int32) := (if 0 ≤ k then (if (fX3_size O) ≤ k then some (-4) else ((fX3_nodeAt O k).bind fun y4 => some y4)) else some (-1))
theorem spX9_at {d : Nat} {h : pH} {X : tX} {O : tO} (xX : isX h X) (xO : isO h O) (k : Int32) {res : Int32} (H : fX9_at X k O = some res) : Ev (d + 2) mX9_at (h, 0, [(0, .ref 0), (1, .int k)], []) (fun r h1 => r = some (.int res) ∧ h1 = h) := by
  unfold fX9_at at H
  refine Ev.go 1 (s' := (h, 1, [(0, .ref 0), (1, .int k)], [.int k])) rfl ?_
  refine Ev.if1 rfl (fun c1 => ?_) (fun c1 => ?_)
  · have c1 : 0 ≤ k := c1
    rw [if_pos c1] at H
    refine Ev.go 2 (s' := (h, 8, [(0, .ref 0), (1, .int k)], [.ref 0, .int k])) rfl ?_
    refine Ev.get rfl (by decide) xX rfl ?_
    refine Ev.callE rfl rfl rfl (p_argsV (by decide) xO.1 (Nat.le_of_ble_eq_true rfl)) rfl (Nat.le_of_ble_eq_true rfl) (spX3_size xO ) ?_
    refine Ev.if2 rfl (fun c2 => ?_) (fun c2 => ?_)
    · have c2 : (fX3_size O) ≤ k := c2
      rw [if_pos c2] at H
      refine Ev.go 1 (s' := (h, 30, [(0, .ref 0), (1, .int k)], [.int ((-4))])) rfl ?_
      have H := Option.some.inj H
      subst H
      exact Ev.ret rfl rfl (p_retZ rfl) ⟨rfl, rfl⟩
    · have c2 : ¬ ((fX3_size O) ≤ k) := c2
      rw [if_neg c2] at H
      refine Ev.go 1 (s' := (h, 18, [(0, .ref 0), (1, .int k)], [.ref 0])) rfl ?_
      refine Ev.get rfl (by decide) xX rfl ?_
      refine Ev.go 1 (s' := (h, 22, [(0, .ref 0), (1, .int k)], [.int k, .ref 15])) rfl ?_
      obtain ⟨y4, e3, H⟩ := Option.bind_eq_some_iff.mp H
      refine Ev.callE rfl rfl rfl (p_argsV (by decide) xO.1 (Nat.le_of_ble_eq_true rfl)) rfl (Nat.le_of_ble_eq_true rfl) (spX3_nodeAt xO k e3) ?_
      refine Ev.go 1 (s' := (h, 30, [(0, .ref 0), (1, .int k)], [.int y4])) rfl ?_
      have H := Option.some.inj H
      subst H
      exact Ev.ret rfl rfl (p_retZ rfl) ⟨rfl, rfl⟩
  · have c1 : ¬ (0 ≤ k) := c1
    rw [if_neg c1] at H
    refine Ev.go 1 (s' := (h, 5, [(0, .ref 0), (1, .int k)], [.int ((-1))])) rfl ?_
    have H := Option.some.inj H
    subst H
    exact Ev.ret rfl rfl (p_retZ rfl) ⟨rfl, rfl⟩
def fX9_grow (n : Nat) (X : tX) (p : Int32) (place : Int32) (tag : Int32) (T : tT) (O : tO) (P : tP) : Option (Int32 × tX × tT × tO × tP) := ((fX9_isPlace n X p place T).bind fun y2 => (if y2 = 0 then some ((-1), X, T, O, P) else (if ¬ (fX9_isTag tag) = 0 then (if (fX7_isFull T) = 0 then ((fX7_spotFor n T p place).bind fun y7 => (if ¬ y7 = 0 then ((fX4_record P T (-1)).bind fun y10 => ((fX7_add T p y7 tag).bind fun y17 => ((fX9_settle n X y17.2 O).bind fun y24 => some (y17.1, y24.1, y17.2, y24.2, y10)))) else some ((-2), X, T, O, P))) else some ((-3), X, T, O, P)) else some ((-1), X, T, O, P))))
theorem spX9_grow {d n : Nat} {h : pH} {X : tX} {T : tT} {O : tO} {P : tP} (xX : isX h X) (xT : isT h 7 T) (xO : isO h O) (xP : isP h P) (p : Int32) (place : Int32) (tag : Int32) {res : Int32 × tX × tT × tO × tP} (H : fX9_grow n X p place tag T O P = some res) : Ev (d + 6) mX9_grow (h, 0, [(0, .ref 0), (1, .int p), (2, .int place), (3, .int tag)], []) (fun r h1 => r = some (.int res.1) ∧ isX h1 res.2.1 ∧ isT h1 7 res.2.2.1 ∧ isO h1 res.2.2.2.1 ∧ isP h1 res.2.2.2.2 ∧ fr [(0, 1), (7, 11), (15, 23), (23, 28)] h h1) := by
  unfold fX9_grow at H
  refine Ev.go 3 (s' := (h, 3, [(0, .ref 0), (1, .int p), (2, .int place), (3, .int tag)], [.int place, .int p, .ref 0])) rfl ?_
  obtain ⟨y2, e1, H⟩ := Option.bind_eq_some_iff.mp H
  refine Ev.callE rfl rfl rfl (p_argsV (by decide) xX (Nat.le_of_ble_eq_true rfl)) rfl (Nat.le_of_ble_eq_true rfl) (spX9_isPlace xX xT p place e1) ?_
  refine Ev.if1 rfl (fun c3 => ?_) (fun c3 => ?_)
  · have c3 : y2 = 0 := c3
    rw [if_pos c3] at H
    refine Ev.go 1 (s' := (h, 17, [(0, .ref 0), (1, .int p), (2, .int place), (3, .int tag)], [.int ((-1))])) rfl ?_
    have H := Option.some.inj H
    subst H
    exact Ev.ret rfl rfl (p_retZ rfl) ⟨rfl, xX, xT, xO, xP, (fun k _ => rfl)⟩
  · have c3 : ¬ (y2 = 0) := c3
    rw [if_neg c3] at H
    refine Ev.go 1 (s' := (h, 10, [(0, .ref 0), (1, .int p), (2, .int place), (3, .int tag)], [.int tag])) rfl ?_
    refine Ev.callE rfl rfl rfl rfl rfl (Nat.le_of_ble_eq_true rfl) (spX9_isTag  tag) ?_
    refine Ev.if1 rfl (fun c4 => ?_) (fun c4 => ?_)
    · have c4 : ¬ (fX9_isTag tag) = 0 := c4
      rw [if_pos c4] at H
      refine Ev.go 1 (s' := (h, 19, [(0, .ref 0), (1, .int p), (2, .int place), (3, .int tag)], [.ref 0])) rfl ?_
      refine Ev.get rfl (by decide) xX rfl ?_
      refine Ev.callE rfl rfl rfl (p_argsV (by decide) xT.1 (Nat.le_of_ble_eq_true rfl)) rfl (Nat.le_of_ble_eq_true rfl) (spX7_isFull xT ) ?_
      refine Ev.if1 rfl (fun c5 => ?_) (fun c5 => ?_)
      · have c5 : (fX7_isFull T) = 0 := c5
        rw [if_pos c5] at H
        refine Ev.go 1 (s' := (h, 32, [(0, .ref 0), (1, .int p), (2, .int place), (3, .int tag)], [.ref 0])) rfl ?_
        refine Ev.get rfl (by decide) xX rfl ?_
        refine Ev.go 2 (s' := (h, 37, [(0, .ref 0), (1, .int p), (2, .int place), (3, .int tag)], [.int place, .int p, .ref 7])) rfl ?_
        obtain ⟨y7, e6, H⟩ := Option.bind_eq_some_iff.mp H
        refine Ev.callE rfl rfl rfl (p_argsV (by decide) xT.1 (Nat.le_of_ble_eq_true rfl)) rfl (Nat.le_of_ble_eq_true rfl) (spX7_spotFor xT p place e6) ?_
        refine Ev.go 2 (s' := (h, 44, [(0, .ref 0), (1, .int p), (2, .int place), (3, .int tag), (4, .int y7)], [.int y7])) rfl ?_
        refine Ev.if1 rfl (fun c8 => ?_) (fun c8 => ?_)
        · have c8 : ¬ y7 = 0 := c8
          rw [if_pos c8] at H
          refine Ev.go 1 (s' := (h, 51, [(0, .ref 0), (1, .int p), (2, .int place), (3, .int tag), (4, .int y7)], [.ref 0])) rfl ?_
          refine Ev.get rfl (by decide) xX rfl ?_
          refine Ev.go 1 (s' := (h, 55, [(0, .ref 0), (1, .int p), (2, .int place), (3, .int tag), (4, .int y7)], [.ref 0, .ref 23])) rfl ?_
          refine Ev.get rfl (by decide) xX rfl ?_
          refine Ev.go 1 (s' := (h, 59, [(0, .ref 0), (1, .int p), (2, .int place), (3, .int tag), (4, .int y7)], [.int ((-1)), .ref 7, .ref 23])) rfl ?_
          obtain ⟨y10, e9, H⟩ := Option.bind_eq_some_iff.mp H
          refine Ev.call rfl rfl rfl (p_argsV (by decide) xP.1 (Nat.le_of_ble_eq_true rfl)) rfl (Nat.le_of_ble_eq_true rfl) ((spX4_record xP xT (-1) e9).mono (fun r h11 q12 => ?_))
          obtain ⟨rfl, q12_P, q12_f⟩ := q12
          have i13 : isX h11 X := isX.fr q12_f (fr1 (by omega)) xX
          have i14 : isT h11 7 T := isT.fr q12_f (fr1 (by omega)) xT
          have i15 : isO h11 O := isO.fr q12_f (fr1 (by omega)) xO
          refine Ev.go 1 (s' := (h11, 63, [(0, .ref 0), (1, .int p), (2, .int place), (3, .int tag), (4, .int y7)], [.ref 0])) rfl ?_
          refine Ev.get rfl (by decide) i13 rfl ?_
          refine Ev.go 3 (s' := (h11, 70, [(0, .ref 0), (1, .int p), (2, .int place), (3, .int tag), (4, .int y7)], [.int tag, .int y7, .int p, .ref 7])) rfl ?_
          obtain ⟨y17, e16, H⟩ := Option.bind_eq_some_iff.mp H
          refine Ev.call rfl rfl rfl (p_argsV (by decide) i14.1 (Nat.le_of_ble_eq_true rfl)) rfl (Nat.le_of_ble_eq_true rfl) ((spX7_add i14 p y7 tag e16).mono (fun r h18 q19 => ?_))
          obtain ⟨rfl, q19_T, q19_f⟩ := q19
          have i20 : isX h18 X := isX.fr q19_f (fr1 (by omega)) i13
          have i21 : isO h18 O := isO.fr q19_f (fr1 (by omega)) i15
          have i22 : isP h18 y10 := isP.fr q19_f (fr1 (by omega)) q12_P
          refine Ev.go 2 (s' := (h18, 76, [(0, .ref 0), (1, .int p), (2, .int place), (3, .int tag), (4, .int y7), (5, .int y17.1)], [.ref 0])) rfl ?_
          obtain ⟨y24, e23, H⟩ := Option.bind_eq_some_iff.mp H
          refine Ev.call rfl rfl rfl (p_argsV (by decide) i20 (Nat.le_of_ble_eq_true rfl)) rfl (Nat.le_of_ble_eq_true rfl) ((spX9_settle i20 q19_T i21  e23).mono (fun r h25 q26 => ?_))
          obtain ⟨rfl, q26_X, q26_O, q26_f⟩ := q26
          have i27 : isT h25 7 y17.2 := isT.fr q26_f (fr2 (by omega) (by omega)) q19_T
          have i28 : isP h25 y10 := isP.fr q26_f (fr2 (by omega) (by omega)) i22
          refine Ev.go 1 (s' := (h25, 81, [(0, .ref 0), (1, .int p), (2, .int place), (3, .int tag), (4, .int y7), (5, .int y17.1)], [.int y17.1])) rfl ?_
          have H := Option.some.inj H
          subst H
          exact Ev.ret rfl rfl (p_retZ rfl) ⟨rfl, q26_X, i27, q26_O, i28, (fun k hk => by rw [q26_f k (by have := hk; simp at this ⊢; omega)]; rw [q19_f k (by have := hk; simp at this ⊢; omega)]; rw [q12_f k (by have := hk; simp at this ⊢; omega)])⟩
        · have c8 : ¬ (¬ y7 = 0) := c8
          rw [if_neg c8] at H
          refine Ev.go 1 (s' := (h, 49, [(0, .ref 0), (1, .int p), (2, .int place), (3, .int tag), (4, .int y7)], [.int ((-2))])) rfl ?_
          have H := Option.some.inj H
          subst H
          exact Ev.ret rfl rfl (p_retZ rfl) ⟨rfl, xX, xT, xO, xP, (fun k _ => rfl)⟩
      · have c5 : ¬ ((fX7_isFull T) = 0) := c5
        rw [if_neg c5] at H
        refine Ev.go 1 (s' := (h, 30, [(0, .ref 0), (1, .int p), (2, .int place), (3, .int tag)], [.int ((-3))])) rfl ?_
        have H := Option.some.inj H
        subst H
        exact Ev.ret rfl rfl (p_retZ rfl) ⟨rfl, xX, xT, xO, xP, (fun k _ => rfl)⟩
    · have c4 : ¬ (¬ (fX9_isTag tag) = 0) := c4
      rw [if_neg c4] at H
      refine Ev.go 1 (s' := (h, 17, [(0, .ref 0), (1, .int p), (2, .int place), (3, .int tag)], [.int ((-1))])) rfl ?_
      have H := Option.some.inj H
      subst H
      exact Ev.ret rfl rfl (p_retZ rfl) ⟨rfl, xX, xT, xO, xP, (fun k _ => rfl)⟩
def fX9_cut (n : Nat) (X : tX) (v : Int32) (T : tT) (O : tO) (P : tP) : Option (Int32 × tX × tT × tO × tP) := (if ¬ (fX7_isThere T v) = 0 then (if ¬ v = 0 then ((fX4_record P T (-1)).bind fun y4 => ((fX3_rankOf O v).bind fun y11 => ((fX3_bitsFrom n O y11).bind fun y13 => ((fX7_remove T y13).bind fun y15 => ((fX9_settle n X y15 O).bind fun y22 => some (fJ6_bitCount_0f7a4 y13, y22.1, y15, y22.2, y4)))))) else some ((-2), X, T, O, P)) else some ((-1), X, T, O, P))
theorem spX9_cut {d n : Nat} {h : pH} {X : tX} {T : tT} {O : tO} {P : tP} (xX : isX h X) (xT : isT h 7 T) (xO : isO h O) (xP : isP h P) (v : Int32) {res : Int32 × tX × tT × tO × tP} (H : fX9_cut n X v T O P = some res) : Ev (d + 6) mX9_cut (h, 0, [(0, .ref 0), (1, .int v)], []) (fun r h1 => r = some (.int res.1) ∧ isX h1 res.2.1 ∧ isT h1 7 res.2.2.1 ∧ isO h1 res.2.2.2.1 ∧ isP h1 res.2.2.2.2 ∧ fr [(0, 1), (7, 11), (15, 23), (23, 28)] h h1) := by
  unfold fX9_cut at H
  refine Ev.go 1 (s' := (h, 1, [(0, .ref 0), (1, .int v)], [.ref 0])) rfl ?_
  refine Ev.get rfl (by decide) xX rfl ?_
  refine Ev.go 1 (s' := (h, 5, [(0, .ref 0), (1, .int v)], [.int v, .ref 7])) rfl ?_
  refine Ev.callE rfl rfl rfl (p_argsV (by decide) xT.1 (Nat.le_of_ble_eq_true rfl)) rfl (Nat.le_of_ble_eq_true rfl) (spX7_isThere xT v) ?_
  refine Ev.if1 rfl (fun c1 => ?_) (fun c1 => ?_)
  · have c1 : ¬ (fX7_isThere T v) = 0 := c1
    rw [if_pos c1] at H
    refine Ev.go 1 (s' := (h, 14, [(0, .ref 0), (1, .int v)], [.int v])) rfl ?_
    refine Ev.if1 rfl (fun c2 => ?_) (fun c2 => ?_)
    · have c2 : ¬ v = 0 := c2
      rw [if_pos c2] at H
      refine Ev.go 1 (s' := (h, 21, [(0, .ref 0), (1, .int v)], [.ref 0])) rfl ?_
      refine Ev.get rfl (by decide) xX rfl ?_
      refine Ev.go 1 (s' := (h, 25, [(0, .ref 0), (1, .int v)], [.ref 0, .ref 23])) rfl ?_
      refine Ev.get rfl (by decide) xX rfl ?_
      refine Ev.go 1 (s' := (h, 29, [(0, .ref 0), (1, .int v)], [.int ((-1)), .ref 7, .ref 23])) rfl ?_
      obtain ⟨y4, e3, H⟩ := Option.bind_eq_some_iff.mp H
      refine Ev.call rfl rfl rfl (p_argsV (by decide) xP.1 (Nat.le_of_ble_eq_true rfl)) rfl (Nat.le_of_ble_eq_true rfl) ((spX4_record xP xT (-1) e3).mono (fun r h5 q6 => ?_))
      obtain ⟨rfl, q6_P, q6_f⟩ := q6
      have i7 : isX h5 X := isX.fr q6_f (fr1 (by omega)) xX
      have i8 : isT h5 7 T := isT.fr q6_f (fr1 (by omega)) xT
      have i9 : isO h5 O := isO.fr q6_f (fr1 (by omega)) xO
      refine Ev.go 1 (s' := (h5, 33, [(0, .ref 0), (1, .int v)], [.ref 0])) rfl ?_
      refine Ev.get rfl (by decide) i7 rfl ?_
      refine Ev.go 1 (s' := (h5, 37, [(0, .ref 0), (1, .int v)], [.ref 0, .ref 15])) rfl ?_
      refine Ev.get rfl (by decide) i7 rfl ?_
      refine Ev.go 1 (s' := (h5, 41, [(0, .ref 0), (1, .int v)], [.int v, .ref 15, .ref 15])) rfl ?_
      obtain ⟨y11, e10, H⟩ := Option.bind_eq_some_iff.mp H
      refine Ev.callE rfl rfl rfl (p_argsV (by decide) i9.1 (Nat.le_of_ble_eq_true rfl)) rfl (Nat.le_of_ble_eq_true rfl) (spX3_rankOf i9 v e10) ?_
      obtain ⟨y13, e12, H⟩ := Option.bind_eq_some_iff.mp H
      refine Ev.callE rfl rfl rfl (p_argsV (by decide) i9.1 (Nat.le_of_ble_eq_true rfl)) rfl (Nat.le_of_ble_eq_true rfl) (spX3_bitsFrom i9 y11 e12) ?_
      refine Ev.go 2 (s' := (h5, 49, [(0, .ref 0), (1, .int v), (2, .int y13)], [.ref 0])) rfl ?_
      refine Ev.get rfl (by decide) i7 rfl ?_
      refine Ev.go 1 (s' := (h5, 53, [(0, .ref 0), (1, .int v), (2, .int y13)], [.int y13, .ref 7])) rfl ?_
      obtain ⟨y15, e14, H⟩ := Option.bind_eq_some_iff.mp H
      refine Ev.call rfl rfl rfl (p_argsV (by decide) i8.1 (Nat.le_of_ble_eq_true rfl)) rfl (Nat.le_of_ble_eq_true rfl) ((spX7_remove i8 y13 e14).mono (fun r h16 q17 => ?_))
      obtain ⟨rfl, q17_T, q17_f⟩ := q17
      have i18 : isX h16 X := isX.fr q17_f (fr1 (by omega)) i7
      have i19 : isO h16 O := isO.fr q17_f (fr1 (by omega)) i9
      have i20 : isP h16 y4 := isP.fr q17_f (fr1 (by omega)) q6_P
      refine Ev.go 1 (s' := (h16, 57, [(0, .ref 0), (1, .int v), (2, .int y13)], [.ref 0])) rfl ?_
      obtain ⟨y22, e21, H⟩ := Option.bind_eq_some_iff.mp H
      refine Ev.call rfl rfl rfl (p_argsV (by decide) i18 (Nat.le_of_ble_eq_true rfl)) rfl (Nat.le_of_ble_eq_true rfl) ((spX9_settle i18 q17_T i19  e21).mono (fun r h23 q24 => ?_))
      obtain ⟨rfl, q24_X, q24_O, q24_f⟩ := q24
      have i25 : isT h23 7 y15 := isT.fr q24_f (fr2 (by omega) (by omega)) q17_T
      have i26 : isP h23 y4 := isP.fr q24_f (fr2 (by omega) (by omega)) i20
      refine Ev.go 1 (s' := (h23, 61, [(0, .ref 0), (1, .int v), (2, .int y13)], [.int y13])) rfl ?_
      refine Ev.callE rfl rfl rfl rfl rfl (Nat.le_of_ble_eq_true rfl) (spJ6_bitCount_0f7a4  y13) ?_
      have H := Option.some.inj H
      subst H
      exact Ev.ret rfl rfl (p_retZ rfl) ⟨rfl, q24_X, i25, q24_O, i26, (fun k hk => by rw [q24_f k (by have := hk; simp at this ⊢; omega)]; rw [q17_f k (by have := hk; simp at this ⊢; omega)]; rw [q6_f k (by have := hk; simp at this ⊢; omega)])⟩
    · have c2 : ¬ (¬ v = 0) := c2
      rw [if_neg c2] at H
      refine Ev.go 1 (s' := (h, 19, [(0, .ref 0), (1, .int v)], [.int ((-2))])) rfl ?_
      have H := Option.some.inj H
      subst H
      exact Ev.ret rfl rfl (p_retZ rfl) ⟨rfl, xX, xT, xO, xP, (fun k _ => rfl)⟩
  · have c1 : ¬ (¬ (fX7_isThere T v) = 0) := c1
    rw [if_neg c1] at H
    refine Ev.go 1 (s' := (h, 12, [(0, .ref 0), (1, .int v)], [.int ((-1))])) rfl ?_
    have H := Option.some.inj H
    subst H
    exact Ev.ret rfl rfl (p_retZ rfl) ⟨rfl, xX, xT, xO, xP, (fun k _ => rfl)⟩
def fX9_tag (n : Nat) (X : tX) (v : Int32) (tag : Int32) (T : tT) (O : tO) (P : tP) : Option (Int32 × tX × tT × tO × tP) := (if (fX7_isThere T v) = 0 then some ((-1), X, T, O, P) else (if ¬ (fX9_isTag tag) = 0 then (if ¬ (fX7_tagOf T v) = tag then ((fX4_record P T v).bind fun y5 => ((fX7_setTag T v tag).bind fun y12 => ((fX9_settle n X y12 O).bind fun y19 => some (fX7_tagOf T v, y19.1, y12, y19.2, y5)))) else some ((-2), X, T, O, P)) else some ((-1), X, T, O, P)))
theorem spX9_tag {d n : Nat} {h : pH} {X : tX} {T : tT} {O : tO} {P : tP} (xX : isX h X) (xT : isT h 7 T) (xO : isO h O) (xP : isP h P) (v : Int32) (tag : Int32) {res : Int32 × tX × tT × tO × tP} (H : fX9_tag n X v tag T O P = some res) : Ev (d + 6) mX9_tag (h, 0, [(0, .ref 0), (1, .int v), (2, .int tag)], []) (fun r h1 => r = some (.int res.1) ∧ isX h1 res.2.1 ∧ isT h1 7 res.2.2.1 ∧ isO h1 res.2.2.2.1 ∧ isP h1 res.2.2.2.2 ∧ fr [(0, 1), (7, 11), (15, 23), (23, 28)] h h1) := by
  unfold fX9_tag at H
  refine Ev.go 1 (s' := (h, 1, [(0, .ref 0), (1, .int v), (2, .int tag)], [.ref 0])) rfl ?_
  refine Ev.get rfl (by decide) xX rfl ?_
  refine Ev.go 1 (s' := (h, 5, [(0, .ref 0), (1, .int v), (2, .int tag)], [.int v, .ref 7])) rfl ?_
  refine Ev.callE rfl rfl rfl (p_argsV (by decide) xT.1 (Nat.le_of_ble_eq_true rfl)) rfl (Nat.le_of_ble_eq_true rfl) (spX7_isThere xT v) ?_
  refine Ev.if1 rfl (fun c1 => ?_) (fun c1 => ?_)
  · have c1 : (fX7_isThere T v) = 0 := c1
    rw [if_pos c1] at H
    refine Ev.go 1 (s' := (h, 19, [(0, .ref 0), (1, .int v), (2, .int tag)], [.int ((-1))])) rfl ?_
    have H := Option.some.inj H
    subst H
    exact Ev.ret rfl rfl (p_retZ rfl) ⟨rfl, xX, xT, xO, xP, (fun k _ => rfl)⟩
  · have c1 : ¬ ((fX7_isThere T v) = 0) := c1
    rw [if_neg c1] at H
    refine Ev.go 1 (s' := (h, 12, [(0, .ref 0), (1, .int v), (2, .int tag)], [.int tag])) rfl ?_
    refine Ev.callE rfl rfl rfl rfl rfl (Nat.le_of_ble_eq_true rfl) (spX9_isTag  tag) ?_
    refine Ev.if1 rfl (fun c2 => ?_) (fun c2 => ?_)
    · have c2 : ¬ (fX9_isTag tag) = 0 := c2
      rw [if_pos c2] at H
      refine Ev.go 1 (s' := (h, 21, [(0, .ref 0), (1, .int v), (2, .int tag)], [.ref 0])) rfl ?_
      refine Ev.get rfl (by decide) xX rfl ?_
      refine Ev.go 1 (s' := (h, 25, [(0, .ref 0), (1, .int v), (2, .int tag)], [.int v, .ref 7])) rfl ?_
      refine Ev.callE rfl rfl rfl (p_argsV (by decide) xT.1 (Nat.le_of_ble_eq_true rfl)) rfl (Nat.le_of_ble_eq_true rfl) (spX7_tagOf xT v) ?_
      refine Ev.go 3 (s' := (h, 31, [(0, .ref 0), (1, .int v), (2, .int tag), (3, .int (fX7_tagOf T v))], [.int tag, .int (fX7_tagOf T v)])) rfl ?_
      refine Ev.if2 rfl (fun c3 => ?_) (fun c3 => ?_)
      · have c3 : ¬ (fX7_tagOf T v) = tag := c3
        rw [if_pos c3] at H
        refine Ev.go 1 (s' := (h, 38, [(0, .ref 0), (1, .int v), (2, .int tag), (3, .int (fX7_tagOf T v))], [.ref 0])) rfl ?_
        refine Ev.get rfl (by decide) xX rfl ?_
        refine Ev.go 1 (s' := (h, 42, [(0, .ref 0), (1, .int v), (2, .int tag), (3, .int (fX7_tagOf T v))], [.ref 0, .ref 23])) rfl ?_
        refine Ev.get rfl (by decide) xX rfl ?_
        refine Ev.go 1 (s' := (h, 46, [(0, .ref 0), (1, .int v), (2, .int tag), (3, .int (fX7_tagOf T v))], [.int v, .ref 7, .ref 23])) rfl ?_
        obtain ⟨y5, e4, H⟩ := Option.bind_eq_some_iff.mp H
        refine Ev.call rfl rfl rfl (p_argsV (by decide) xP.1 (Nat.le_of_ble_eq_true rfl)) rfl (Nat.le_of_ble_eq_true rfl) ((spX4_record xP xT v e4).mono (fun r h6 q7 => ?_))
        obtain ⟨rfl, q7_P, q7_f⟩ := q7
        have i8 : isX h6 X := isX.fr q7_f (fr1 (by omega)) xX
        have i9 : isT h6 7 T := isT.fr q7_f (fr1 (by omega)) xT
        have i10 : isO h6 O := isO.fr q7_f (fr1 (by omega)) xO
        refine Ev.go 1 (s' := (h6, 50, [(0, .ref 0), (1, .int v), (2, .int tag), (3, .int (fX7_tagOf T v))], [.ref 0])) rfl ?_
        refine Ev.get rfl (by decide) i8 rfl ?_
        refine Ev.go 2 (s' := (h6, 55, [(0, .ref 0), (1, .int v), (2, .int tag), (3, .int (fX7_tagOf T v))], [.int tag, .int v, .ref 7])) rfl ?_
        obtain ⟨y12, e11, H⟩ := Option.bind_eq_some_iff.mp H
        refine Ev.call rfl rfl rfl (p_argsV (by decide) i9.1 (Nat.le_of_ble_eq_true rfl)) rfl (Nat.le_of_ble_eq_true rfl) ((spX7_setTag i9 v tag e11).mono (fun r h13 q14 => ?_))
        obtain ⟨rfl, q14_T, q14_f⟩ := q14
        have i15 : isX h13 X := isX.fr q14_f (fr1 (by omega)) i8
        have i16 : isO h13 O := isO.fr q14_f (fr1 (by omega)) i10
        have i17 : isP h13 y5 := isP.fr q14_f (fr1 (by omega)) q7_P
        refine Ev.go 1 (s' := (h13, 59, [(0, .ref 0), (1, .int v), (2, .int tag), (3, .int (fX7_tagOf T v))], [.ref 0])) rfl ?_
        obtain ⟨y19, e18, H⟩ := Option.bind_eq_some_iff.mp H
        refine Ev.call rfl rfl rfl (p_argsV (by decide) i15 (Nat.le_of_ble_eq_true rfl)) rfl (Nat.le_of_ble_eq_true rfl) ((spX9_settle i15 q14_T i16  e18).mono (fun r h20 q21 => ?_))
        obtain ⟨rfl, q21_X, q21_O, q21_f⟩ := q21
        have i22 : isT h20 7 y12 := isT.fr q21_f (fr2 (by omega) (by omega)) q14_T
        have i23 : isP h20 y5 := isP.fr q21_f (fr2 (by omega) (by omega)) i17
        refine Ev.go 1 (s' := (h20, 63, [(0, .ref 0), (1, .int v), (2, .int tag), (3, .int (fX7_tagOf T v))], [.int (fX7_tagOf T v)])) rfl ?_
        have H := Option.some.inj H
        subst H
        exact Ev.ret rfl rfl (p_retZ rfl) ⟨rfl, q21_X, i22, q21_O, i23, (fun k hk => by rw [q21_f k (by have := hk; simp at this ⊢; omega)]; rw [q14_f k (by have := hk; simp at this ⊢; omega)]; rw [q7_f k (by have := hk; simp at this ⊢; omega)])⟩
      · have c3 : ¬ (¬ (fX7_tagOf T v) = tag) := c3
        rw [if_neg c3] at H
        refine Ev.go 1 (s' := (h, 36, [(0, .ref 0), (1, .int v), (2, .int tag), (3, .int (fX7_tagOf T v))], [.int ((-2))])) rfl ?_
        have H := Option.some.inj H
        subst H
        exact Ev.ret rfl rfl (p_retZ rfl) ⟨rfl, xX, xT, xO, xP, (fun k _ => rfl)⟩
    · have c2 : ¬ (¬ (fX9_isTag tag) = 0) := c2
      rw [if_neg c2] at H
      refine Ev.go 1 (s' := (h, 19, [(0, .ref 0), (1, .int v), (2, .int tag)], [.int ((-1))])) rfl ?_
      have H := Option.some.inj H
      subst H
      exact Ev.ret rfl rfl (p_retZ rfl) ⟨rfl, xX, xT, xO, xP, (fun k _ => rfl)⟩
def fX9_undo (n : Nat) (X : tX) (T : tT) (O : tO) (P : tP) : Option (Int32 × tX × tT × tO × tP) := (if ¬ (fX4_size P) = 0 then ((fX4_restore P T).bind fun y3 => ((fX9_settle n X y3.2 O).bind fun y9 => some (fX4_size y3.1, y9.1, y3.2, y9.2, y3.1))) else some ((-2), X, T, O, P))
theorem spX9_undo {d n : Nat} {h : pH} {X : tX} {T : tT} {O : tO} {P : tP} (xX : isX h X) (xT : isT h 7 T) (xO : isO h O) (xP : isP h P) {res : Int32 × tX × tT × tO × tP} (H : fX9_undo n X T O P = some res) : Ev (d + 6) mX9_undo (h, 0, [(0, .ref 0)], []) (fun r h1 => r = some (.int res.1) ∧ isX h1 res.2.1 ∧ isT h1 7 res.2.2.1 ∧ isO h1 res.2.2.2.1 ∧ isP h1 res.2.2.2.2 ∧ fr [(0, 1), (7, 11), (15, 23), (23, 28)] h h1) := by
  unfold fX9_undo at H
  refine Ev.go 1 (s' := (h, 1, [(0, .ref 0)], [.ref 0])) rfl ?_
  refine Ev.get rfl (by decide) xX rfl ?_
  refine Ev.callE rfl rfl rfl (p_argsV (by decide) xP.1 (Nat.le_of_ble_eq_true rfl)) rfl (Nat.le_of_ble_eq_true rfl) (spX4_size xP ) ?_
  refine Ev.if1 rfl (fun c1 => ?_) (fun c1 => ?_)
  · have c1 : ¬ (fX4_size P) = 0 := c1
    rw [if_pos c1] at H
    refine Ev.go 1 (s' := (h, 14, [(0, .ref 0)], [.ref 0])) rfl ?_
    refine Ev.get rfl (by decide) xX rfl ?_
    refine Ev.go 1 (s' := (h, 18, [(0, .ref 0)], [.ref 0, .ref 23])) rfl ?_
    refine Ev.get rfl (by decide) xX rfl ?_
    obtain ⟨y3, e2, H⟩ := Option.bind_eq_some_iff.mp H
    refine Ev.call rfl rfl rfl (p_argsV (by decide) xP.1 (Nat.le_of_ble_eq_true rfl)) rfl (Nat.le_of_ble_eq_true rfl) ((spX4_restore xP xT  e2).mono (fun r h4 q5 => ?_))
    obtain ⟨rfl, q5_P, q5_T, q5_f⟩ := q5
    have i6 : isX h4 X := isX.fr q5_f (fr2 (by omega) (by omega)) xX
    have i7 : isO h4 O := isO.fr q5_f (fr2 (by omega) (by omega)) xO
    refine Ev.go 1 (s' := (h4, 25, [(0, .ref 0)], [.ref 0])) rfl ?_
    obtain ⟨y9, e8, H⟩ := Option.bind_eq_some_iff.mp H
    refine Ev.call rfl rfl rfl (p_argsV (by decide) i6 (Nat.le_of_ble_eq_true rfl)) rfl (Nat.le_of_ble_eq_true rfl) ((spX9_settle i6 q5_T i7  e8).mono (fun r h10 q11 => ?_))
    obtain ⟨rfl, q11_X, q11_O, q11_f⟩ := q11
    have i12 : isT h10 7 y3.2 := isT.fr q11_f (fr2 (by omega) (by omega)) q5_T
    have i13 : isP h10 y3.1 := isP.fr q11_f (fr2 (by omega) (by omega)) q5_P
    refine Ev.go 1 (s' := (h10, 29, [(0, .ref 0)], [.ref 0])) rfl ?_
    refine Ev.get rfl (by decide) q11_X rfl ?_
    refine Ev.callE rfl rfl rfl (p_argsV (by decide) i13.1 (Nat.le_of_ble_eq_true rfl)) rfl (Nat.le_of_ble_eq_true rfl) (spX4_size i13 ) ?_
    have H := Option.some.inj H
    subst H
    exact Ev.ret rfl rfl (p_retZ rfl) ⟨rfl, q11_X, i12, q11_O, i13, (fun k hk => by rw [q11_f k (by have := hk; simp at this ⊢; omega)]; rw [q5_f k (by have := hk; simp at this ⊢; omega)])⟩
  · have c1 : ¬ (¬ (fX4_size P) = 0) := c1
    rw [if_neg c1] at H
    refine Ev.go 1 (s' := (h, 12, [(0, .ref 0)], [.int ((-2))])) rfl ?_
    have H := Option.some.inj H
    subst H
    exact Ev.ret rfl rfl (p_retZ rfl) ⟨rfl, xX, xT, xO, xP, (fun k _ => rfl)⟩
def fX9_between (n : Nat) (X : tX) (p : Int32) (place : Int32) (what : Int32) (T : tT) : Option (Int32) := ((fX9_isPlace n X p place T).bind fun y2 => (if y2 = 0 then some (-1) else (if ¬ (fX9_isKeyPart what) = 0 then ((fX7_spotFor n T p place).bind fun y6 => (if ¬ y6 = 0 then ((fX9_keyPart n y6 what).bind fun y9 => some y9) else some (-4))) else some (-1))))
theorem spX9_between {d n : Nat} {h : pH} {X : tX} {T : tT} (xX : isX h X) (xT : isT h 7 T) (p : Int32) (place : Int32) (what : Int32) {res : Int32} (H : fX9_between n X p place what T = some res) : Ev (d + 4) mX9_between (h, 0, [(0, .ref 0), (1, .int p), (2, .int place), (3, .int what)], []) (fun r h1 => r = some (.int res) ∧ h1 = h) := by
  unfold fX9_between at H
  refine Ev.go 3 (s' := (h, 3, [(0, .ref 0), (1, .int p), (2, .int place), (3, .int what)], [.int place, .int p, .ref 0])) rfl ?_
  obtain ⟨y2, e1, H⟩ := Option.bind_eq_some_iff.mp H
  refine Ev.callE rfl rfl rfl (p_argsV (by decide) xX (Nat.le_of_ble_eq_true rfl)) rfl (Nat.le_of_ble_eq_true rfl) (spX9_isPlace xX xT p place e1) ?_
  refine Ev.if1 rfl (fun c3 => ?_) (fun c3 => ?_)
  · have c3 : y2 = 0 := c3
    rw [if_pos c3] at H
    refine Ev.go 1 (s' := (h, 17, [(0, .ref 0), (1, .int p), (2, .int place), (3, .int what)], [.int ((-1))])) rfl ?_
    have H := Option.some.inj H
    subst H
    exact Ev.ret rfl rfl (p_retZ rfl) ⟨rfl, rfl⟩
  · have c3 : ¬ (y2 = 0) := c3
    rw [if_neg c3] at H
    refine Ev.go 1 (s' := (h, 10, [(0, .ref 0), (1, .int p), (2, .int place), (3, .int what)], [.int what])) rfl ?_
    refine Ev.callE rfl rfl rfl rfl rfl (Nat.le_of_ble_eq_true rfl) (spX9_isKeyPart  what) ?_
    refine Ev.if1 rfl (fun c4 => ?_) (fun c4 => ?_)
    · have c4 : ¬ (fX9_isKeyPart what) = 0 := c4
      rw [if_pos c4] at H
      refine Ev.go 1 (s' := (h, 19, [(0, .ref 0), (1, .int p), (2, .int place), (3, .int what)], [.ref 0])) rfl ?_
      refine Ev.get rfl (by decide) xX rfl ?_
      refine Ev.go 2 (s' := (h, 24, [(0, .ref 0), (1, .int p), (2, .int place), (3, .int what)], [.int place, .int p, .ref 7])) rfl ?_
      obtain ⟨y6, e5, H⟩ := Option.bind_eq_some_iff.mp H
      refine Ev.callE rfl rfl rfl (p_argsV (by decide) xT.1 (Nat.le_of_ble_eq_true rfl)) rfl (Nat.le_of_ble_eq_true rfl) (spX7_spotFor xT p place e5) ?_
      refine Ev.go 2 (s' := (h, 31, [(0, .ref 0), (1, .int p), (2, .int place), (3, .int what), (4, .int y6)], [.int y6])) rfl ?_
      refine Ev.if1 rfl (fun c7 => ?_) (fun c7 => ?_)
      · have c7 : ¬ y6 = 0 := c7
        rw [if_pos c7] at H
        refine Ev.go 2 (s' := (h, 42, [(0, .ref 0), (1, .int p), (2, .int place), (3, .int what), (4, .int y6)], [.int what, .int y6])) rfl ?_
        obtain ⟨y9, e8, H⟩ := Option.bind_eq_some_iff.mp H
        refine Ev.callE rfl rfl rfl rfl rfl (Nat.le_of_ble_eq_true rfl) (spX9_keyPart  y6 what e8) ?_
        have H := Option.some.inj H
        subst H
        exact Ev.ret rfl rfl (p_retZ rfl) ⟨rfl, rfl⟩
      · have c7 : ¬ (¬ y6 = 0) := c7
        rw [if_neg c7] at H
        refine Ev.go 2 (s' := (h, 45, [(0, .ref 0), (1, .int p), (2, .int place), (3, .int what), (4, .int y6)], [.int ((-4))])) rfl ?_
        have H := Option.some.inj H
        subst H
        exact Ev.ret rfl rfl (p_retZ rfl) ⟨rfl, rfl⟩
    · have c4 : ¬ (¬ (fX9_isKeyPart what) = 0) := c4
      rw [if_neg c4] at H
      refine Ev.go 1 (s' := (h, 17, [(0, .ref 0), (1, .int p), (2, .int place), (3, .int what)], [.int ((-1))])) rfl ?_
      have H := Option.some.inj H
      subst H
      exact Ev.ret rfl rfl (p_retZ rfl) ⟨rfl, rfl⟩
def fX9_ahead (X : tX) (v : Int32) (w : Int32) (T : tT) (O : tO) : Option (Int32) := (if (fX7_isThere T v) = 0 then some (-1) else (if ¬ (fX7_isThere T w) = 0 then ((fX3_rankOf O v).bind fun y4 => ((fX3_rankOf O w).bind fun y6 => (if y6 ≤ y4 then some 0 else some 1))) else some (-1)))
theorem spX9_ahead {d : Nat} {h : pH} {X : tX} {T : tT} {O : tO} (xX : isX h X) (xT : isT h 7 T) (xO : isO h O) (v : Int32) (w : Int32) {res : Int32} (H : fX9_ahead X v w T O = some res) : Ev (d + 2) mX9_ahead (h, 0, [(0, .ref 0), (1, .int v), (2, .int w)], []) (fun r h1 => r = some (.int res) ∧ h1 = h) := by
  unfold fX9_ahead at H
  refine Ev.go 1 (s' := (h, 1, [(0, .ref 0), (1, .int v), (2, .int w)], [.ref 0])) rfl ?_
  refine Ev.get rfl (by decide) xX rfl ?_
  refine Ev.go 1 (s' := (h, 5, [(0, .ref 0), (1, .int v), (2, .int w)], [.int v, .ref 7])) rfl ?_
  refine Ev.callE rfl rfl rfl (p_argsV (by decide) xT.1 (Nat.le_of_ble_eq_true rfl)) rfl (Nat.le_of_ble_eq_true rfl) (spX7_isThere xT v) ?_
  refine Ev.if1 rfl (fun c1 => ?_) (fun c1 => ?_)
  · have c1 : (fX7_isThere T v) = 0 := c1
    rw [if_pos c1] at H
    refine Ev.go 1 (s' := (h, 23, [(0, .ref 0), (1, .int v), (2, .int w)], [.int ((-1))])) rfl ?_
    have H := Option.some.inj H
    subst H
    exact Ev.ret rfl rfl (p_retZ rfl) ⟨rfl, rfl⟩
  · have c1 : ¬ ((fX7_isThere T v) = 0) := c1
    rw [if_neg c1] at H
    refine Ev.go 1 (s' := (h, 12, [(0, .ref 0), (1, .int v), (2, .int w)], [.ref 0])) rfl ?_
    refine Ev.get rfl (by decide) xX rfl ?_
    refine Ev.go 1 (s' := (h, 16, [(0, .ref 0), (1, .int v), (2, .int w)], [.int w, .ref 7])) rfl ?_
    refine Ev.callE rfl rfl rfl (p_argsV (by decide) xT.1 (Nat.le_of_ble_eq_true rfl)) rfl (Nat.le_of_ble_eq_true rfl) (spX7_isThere xT w) ?_
    refine Ev.if1 rfl (fun c2 => ?_) (fun c2 => ?_)
    · have c2 : ¬ (fX7_isThere T w) = 0 := c2
      rw [if_pos c2] at H
      refine Ev.go 1 (s' := (h, 25, [(0, .ref 0), (1, .int v), (2, .int w)], [.ref 0])) rfl ?_
      refine Ev.get rfl (by decide) xX rfl ?_
      refine Ev.go 1 (s' := (h, 29, [(0, .ref 0), (1, .int v), (2, .int w)], [.int v, .ref 15])) rfl ?_
      obtain ⟨y4, e3, H⟩ := Option.bind_eq_some_iff.mp H
      refine Ev.callE rfl rfl rfl (p_argsV (by decide) xO.1 (Nat.le_of_ble_eq_true rfl)) rfl (Nat.le_of_ble_eq_true rfl) (spX3_rankOf xO v e3) ?_
      refine Ev.go 1 (s' := (h, 33, [(0, .ref 0), (1, .int v), (2, .int w)], [.ref 0, .int y4])) rfl ?_
      refine Ev.get rfl (by decide) xX rfl ?_
      refine Ev.go 1 (s' := (h, 37, [(0, .ref 0), (1, .int v), (2, .int w)], [.int w, .ref 15, .int y4])) rfl ?_
      obtain ⟨y6, e5, H⟩ := Option.bind_eq_some_iff.mp H
      refine Ev.callE rfl rfl rfl (p_argsV (by decide) xO.1 (Nat.le_of_ble_eq_true rfl)) rfl (Nat.le_of_ble_eq_true rfl) (spX3_rankOf xO w e5) ?_
      refine Ev.if2 rfl (fun c7 => ?_) (fun c7 => ?_)
      · have c7 : y6 ≤ y4 := c7
        rw [if_pos c7] at H
        refine Ev.go 1 (s' := (h, 48, [(0, .ref 0), (1, .int v), (2, .int w)], [.int 0])) rfl ?_
        have H := Option.some.inj H
        subst H
        exact Ev.ret rfl rfl (p_retZ rfl) ⟨rfl, rfl⟩
      · have c7 : ¬ (y6 ≤ y4) := c7
        rw [if_neg c7] at H
        refine Ev.go 2 (s' := (h, 48, [(0, .ref 0), (1, .int v), (2, .int w)], [.int 1])) rfl ?_
        have H := Option.some.inj H
        subst H
        exact Ev.ret rfl rfl (p_retZ rfl) ⟨rfl, rfl⟩
    · have c2 : ¬ (¬ (fX7_isThere T w) = 0) := c2
      rw [if_neg c2] at H
      refine Ev.go 1 (s' := (h, 23, [(0, .ref 0), (1, .int v), (2, .int w)], [.int ((-1))])) rfl ?_
      have H := Option.some.inj H
      subst H
      exact Ev.ret rfl rfl (p_retZ rfl) ⟨rfl, rfl⟩
def fX9_above (X : tX) (v : Int32) (w : Int32) (T : tT) (O : tO) : Option (Int32) := (if (fX7_isThere T v) = 0 then some (-1) else (if ¬ (fX7_isThere T w) = 0 then (if v = w then some 0 else ((fX3_rankOf O v).bind fun y5 => ((fX3_rankOf O w).bind fun y7 => ((fX3_spans O y5 y7).bind fun y9 => (if y9 = 0 then some 0 else some 1))))) else some (-1)))
theorem spX9_above {d : Nat} {h : pH} {X : tX} {T : tT} {O : tO} (xX : isX h X) (xT : isT h 7 T) (xO : isO h O) (v : Int32) (w : Int32) {res : Int32} (H : fX9_above X v w T O = some res) : Ev (d + 3) mX9_above (h, 0, [(0, .ref 0), (1, .int v), (2, .int w)], []) (fun r h1 => r = some (.int res) ∧ h1 = h) := by
  unfold fX9_above at H
  refine Ev.go 1 (s' := (h, 1, [(0, .ref 0), (1, .int v), (2, .int w)], [.ref 0])) rfl ?_
  refine Ev.get rfl (by decide) xX rfl ?_
  refine Ev.go 1 (s' := (h, 5, [(0, .ref 0), (1, .int v), (2, .int w)], [.int v, .ref 7])) rfl ?_
  refine Ev.callE rfl rfl rfl (p_argsV (by decide) xT.1 (Nat.le_of_ble_eq_true rfl)) rfl (Nat.le_of_ble_eq_true rfl) (spX7_isThere xT v) ?_
  refine Ev.if1 rfl (fun c1 => ?_) (fun c1 => ?_)
  · have c1 : (fX7_isThere T v) = 0 := c1
    rw [if_pos c1] at H
    refine Ev.go 1 (s' := (h, 23, [(0, .ref 0), (1, .int v), (2, .int w)], [.int ((-1))])) rfl ?_
    have H := Option.some.inj H
    subst H
    exact Ev.ret rfl rfl (p_retZ rfl) ⟨rfl, rfl⟩
  · have c1 : ¬ ((fX7_isThere T v) = 0) := c1
    rw [if_neg c1] at H
    refine Ev.go 1 (s' := (h, 12, [(0, .ref 0), (1, .int v), (2, .int w)], [.ref 0])) rfl ?_
    refine Ev.get rfl (by decide) xX rfl ?_
    refine Ev.go 1 (s' := (h, 16, [(0, .ref 0), (1, .int v), (2, .int w)], [.int w, .ref 7])) rfl ?_
    refine Ev.callE rfl rfl rfl (p_argsV (by decide) xT.1 (Nat.le_of_ble_eq_true rfl)) rfl (Nat.le_of_ble_eq_true rfl) (spX7_isThere xT w) ?_
    refine Ev.if1 rfl (fun c2 => ?_) (fun c2 => ?_)
    · have c2 : ¬ (fX7_isThere T w) = 0 := c2
      rw [if_pos c2] at H
      refine Ev.go 2 (s' := (h, 26, [(0, .ref 0), (1, .int v), (2, .int w)], [.int w, .int v])) rfl ?_
      refine Ev.if2 rfl (fun c3 => ?_) (fun c3 => ?_)
      · have c3 : v = w := c3
        rw [if_pos c3] at H
        refine Ev.go 1 (s' := (h, 60, [(0, .ref 0), (1, .int v), (2, .int w)], [.int 0])) rfl ?_
        have H := Option.some.inj H
        subst H
        exact Ev.ret rfl rfl (p_retZ rfl) ⟨rfl, rfl⟩
      · have c3 : ¬ (v = w) := c3
        rw [if_neg c3] at H
        refine Ev.go 1 (s' := (h, 30, [(0, .ref 0), (1, .int v), (2, .int w)], [.ref 0])) rfl ?_
        refine Ev.get rfl (by decide) xX rfl ?_
        refine Ev.go 1 (s' := (h, 34, [(0, .ref 0), (1, .int v), (2, .int w)], [.ref 0, .ref 15])) rfl ?_
        refine Ev.get rfl (by decide) xX rfl ?_
        refine Ev.go 1 (s' := (h, 38, [(0, .ref 0), (1, .int v), (2, .int w)], [.int v, .ref 15, .ref 15])) rfl ?_
        obtain ⟨y5, e4, H⟩ := Option.bind_eq_some_iff.mp H
        refine Ev.callE rfl rfl rfl (p_argsV (by decide) xO.1 (Nat.le_of_ble_eq_true rfl)) rfl (Nat.le_of_ble_eq_true rfl) (spX3_rankOf xO v e4) ?_
        refine Ev.go 1 (s' := (h, 42, [(0, .ref 0), (1, .int v), (2, .int w)], [.ref 0, .int y5, .ref 15])) rfl ?_
        refine Ev.get rfl (by decide) xX rfl ?_
        refine Ev.go 1 (s' := (h, 46, [(0, .ref 0), (1, .int v), (2, .int w)], [.int w, .ref 15, .int y5, .ref 15])) rfl ?_
        obtain ⟨y7, e6, H⟩ := Option.bind_eq_some_iff.mp H
        refine Ev.callE rfl rfl rfl (p_argsV (by decide) xO.1 (Nat.le_of_ble_eq_true rfl)) rfl (Nat.le_of_ble_eq_true rfl) (spX3_rankOf xO w e6) ?_
        obtain ⟨y9, e8, H⟩ := Option.bind_eq_some_iff.mp H
        refine Ev.callE rfl rfl rfl (p_argsV (by decide) xO.1 (Nat.le_of_ble_eq_true rfl)) rfl (Nat.le_of_ble_eq_true rfl) (spX3_spans xO y5 y7 e8) ?_
        refine Ev.if1 rfl (fun c10 => ?_) (fun c10 => ?_)
        · have c10 : y9 = 0 := c10
          rw [if_pos c10] at H
          refine Ev.go 1 (s' := (h, 60, [(0, .ref 0), (1, .int v), (2, .int w)], [.int 0])) rfl ?_
          have H := Option.some.inj H
          subst H
          exact Ev.ret rfl rfl (p_retZ rfl) ⟨rfl, rfl⟩
        · have c10 : ¬ (y9 = 0) := c10
          rw [if_neg c10] at H
          refine Ev.go 2 (s' := (h, 60, [(0, .ref 0), (1, .int v), (2, .int w)], [.int 1])) rfl ?_
          have H := Option.some.inj H
          subst H
          exact Ev.ret rfl rfl (p_retZ rfl) ⟨rfl, rfl⟩
    · have c2 : ¬ (¬ (fX7_isThere T w) = 0) := c2
      rw [if_neg c2] at H
      refine Ev.go 1 (s' := (h, 23, [(0, .ref 0), (1, .int v), (2, .int w)], [.int ((-1))])) rfl ?_
      have H := Option.some.inj H
      subst H
      exact Ev.ret rfl rfl (p_retZ rfl) ⟨rfl, rfl⟩
def lX9_meet_39 (n : Nat) (X : tX) (T : tT) (O : tO) : Nat → Int32 → Int32 → Int32 → Option (Int32)
  | 0, _, _, _ => none
  | m + 1, x3, x4, x5 => (if 24 ≤ x5 then some x4 else (if x4 ≤ 0 then some x4 else ((fX3_rankOf O x4).bind fun y8 => ((fX3_spans O y8 x3).bind fun y10 => (if ¬ y10 = 0 then some x4 else lX9_meet_39 n X T O m x3 (fX7_parentOf T x4) (x5 + 1))))))
theorem llX9_meet_39 {d n : Nat} {X : tX} {T : tT} {O : tO} : ∀ (m : Nat) (h : pH) (x3 : Int32) (x4 : Int32) (x5 : Int32) (res : Int32), lX9_meet_39 n X T O m x3 x4 x5 = some res → isX h X → isT h 7 T → isO h O → Ev (d + 3) mX9_meet (h, 39, [(0, .ref 0), (3, .int x3), (4, .int x4), (5, .int x5)], []) (fun r h1 => r = some (.int res) ∧ h1 = h)
  | 0, h, x3, x4, x5, res, H, _, _, _ => by cases H
  | m + 1, h, x3, x4, x5, res, H, xX, xT, xO => by
    have H : (if 24 ≤ x5 then some x4 else (if x4 ≤ 0 then some x4 else ((fX3_rankOf O x4).bind fun y8 => ((fX3_spans O y8 x3).bind fun y10 => (if ¬ y10 = 0 then some x4 else lX9_meet_39 n X T O m x3 (fX7_parentOf T x4) (x5 + 1)))))) = some res := H
    refine Ev.go 2 (s' := (h, 43, [(0, .ref 0), (3, .int x3), (4, .int x4), (5, .int x5)], [.int 24, .int x5])) rfl ?_
    refine Ev.if2 rfl (fun c5 => ?_) (fun c5 => ?_)
    · have c5 : 24 ≤ x5 := c5
      rw [if_pos c5] at H
      refine Ev.go 1 (s' := (h, 90, [(0, .ref 0), (3, .int x3), (4, .int x4), (5, .int x5)], [.int x4])) rfl ?_
      have H := Option.some.inj H
      subst H
      exact Ev.ret rfl rfl (p_retZ rfl) ⟨rfl, rfl⟩
    · have c5 : ¬ (24 ≤ x5) := c5
      rw [if_neg c5] at H
      refine Ev.go 1 (s' := (h, 48, [(0, .ref 0), (3, .int x3), (4, .int x4), (5, .int x5)], [.int x4])) rfl ?_
      refine Ev.if1 rfl (fun c6 => ?_) (fun c6 => ?_)
      · have c6 : x4 ≤ 0 := c6
        rw [if_pos c6] at H
        refine Ev.go 1 (s' := (h, 90, [(0, .ref 0), (3, .int x3), (4, .int x4), (5, .int x5)], [.int x4])) rfl ?_
        have H := Option.some.inj H
        subst H
        exact Ev.ret rfl rfl (p_retZ rfl) ⟨rfl, rfl⟩
      · have c6 : ¬ (x4 ≤ 0) := c6
        rw [if_neg c6] at H
        refine Ev.go 1 (s' := (h, 52, [(0, .ref 0), (3, .int x3), (4, .int x4), (5, .int x5)], [.ref 0])) rfl ?_
        refine Ev.get rfl (by decide) xX rfl ?_
        refine Ev.go 1 (s' := (h, 56, [(0, .ref 0), (3, .int x3), (4, .int x4), (5, .int x5)], [.ref 0, .ref 15])) rfl ?_
        refine Ev.get rfl (by decide) xX rfl ?_
        refine Ev.go 1 (s' := (h, 61, [(0, .ref 0), (3, .int x3), (4, .int x4), (5, .int x5)], [.int x4, .ref 15, .ref 15])) rfl ?_
        obtain ⟨y8, e7, H⟩ := Option.bind_eq_some_iff.mp H
        refine Ev.callE rfl rfl rfl (p_argsV (by decide) xO.1 (Nat.le_of_ble_eq_true rfl)) rfl (Nat.le_of_ble_eq_true rfl) (spX3_rankOf xO x4 e7) ?_
        refine Ev.go 1 (s' := (h, 65, [(0, .ref 0), (3, .int x3), (4, .int x4), (5, .int x5)], [.int x3, .int y8, .ref 15])) rfl ?_
        obtain ⟨y10, e9, H⟩ := Option.bind_eq_some_iff.mp H
        refine Ev.callE rfl rfl rfl (p_argsV (by decide) xO.1 (Nat.le_of_ble_eq_true rfl)) rfl (Nat.le_of_ble_eq_true rfl) (spX3_spans xO y8 x3 e9) ?_
        refine Ev.if1 rfl (fun c11 => ?_) (fun c11 => ?_)
        · have c11 : ¬ y10 = 0 := c11
          rw [if_pos c11] at H
          refine Ev.go 1 (s' := (h, 90, [(0, .ref 0), (3, .int x3), (4, .int x4), (5, .int x5)], [.int x4])) rfl ?_
          have H := Option.some.inj H
          subst H
          exact Ev.ret rfl rfl (p_retZ rfl) ⟨rfl, rfl⟩
        · have c11 : ¬ (¬ y10 = 0) := c11
          rw [if_neg c11] at H
          refine Ev.go 1 (s' := (h, 72, [(0, .ref 0), (3, .int x3), (4, .int x4), (5, .int x5)], [.ref 0])) rfl ?_
          refine Ev.get rfl (by decide) xX rfl ?_
          refine Ev.go 1 (s' := (h, 77, [(0, .ref 0), (3, .int x3), (4, .int x4), (5, .int x5)], [.int x4, .ref 7])) rfl ?_
          refine Ev.callE rfl rfl rfl (p_argsV (by decide) xT.1 (Nat.le_of_ble_eq_true rfl)) rfl (Nat.le_of_ble_eq_true rfl) (spX7_parentOf xT x4) ?_
          refine Ev.go 3 (s' := (h, 39, [(0, .ref 0), (3, .int x3), (4, .int (fX7_parentOf T x4)), (5, .int (x5 + 1))], [])) rfl ?_
          refine Ev.live rfl (lv' := [(0, .ref 0), (3, .int x3), (4, .int (fX7_parentOf T x4)), (5, .int (x5 + 1))]) rfl ?_
          exact llX9_meet_39 m h x3 (fX7_parentOf T x4) (x5 + 1) _ H xX xT xO
def fX9_meet (n : Nat) (X : tX) (v : Int32) (w : Int32) (T : tT) (O : tO) : Option (Int32) := (if (fX7_isThere T v) = 0 then some (-1) else (if ¬ (fX7_isThere T w) = 0 then ((fX3_rankOf O w).bind fun y4 => lX9_meet_39 n X T O n y4 v 0) else some (-1)))
theorem spX9_meet {d n : Nat} {h : pH} {X : tX} {T : tT} {O : tO} (xX : isX h X) (xT : isT h 7 T) (xO : isO h O) (v : Int32) (w : Int32) {res : Int32} (H : fX9_meet n X v w T O = some res) : Ev (d + 3) mX9_meet (h, 0, [(0, .ref 0), (1, .int v), (2, .int w)], []) (fun r h1 => r = some (.int res) ∧ h1 = h) := by
  unfold fX9_meet at H
  refine Ev.go 1 (s' := (h, 1, [(0, .ref 0), (1, .int v), (2, .int w)], [.ref 0])) rfl ?_
  refine Ev.get rfl (by decide) xX rfl ?_
  refine Ev.go 1 (s' := (h, 5, [(0, .ref 0), (1, .int v), (2, .int w)], [.int v, .ref 7])) rfl ?_
  refine Ev.callE rfl rfl rfl (p_argsV (by decide) xT.1 (Nat.le_of_ble_eq_true rfl)) rfl (Nat.le_of_ble_eq_true rfl) (spX7_isThere xT v) ?_
  refine Ev.if1 rfl (fun c1 => ?_) (fun c1 => ?_)
  · have c1 : (fX7_isThere T v) = 0 := c1
    rw [if_pos c1] at H
    refine Ev.go 1 (s' := (h, 23, [(0, .ref 0), (1, .int v), (2, .int w)], [.int ((-1))])) rfl ?_
    have H := Option.some.inj H
    subst H
    exact Ev.ret rfl rfl (p_retZ rfl) ⟨rfl, rfl⟩
  · have c1 : ¬ ((fX7_isThere T v) = 0) := c1
    rw [if_neg c1] at H
    refine Ev.go 1 (s' := (h, 12, [(0, .ref 0), (1, .int v), (2, .int w)], [.ref 0])) rfl ?_
    refine Ev.get rfl (by decide) xX rfl ?_
    refine Ev.go 1 (s' := (h, 16, [(0, .ref 0), (1, .int v), (2, .int w)], [.int w, .ref 7])) rfl ?_
    refine Ev.callE rfl rfl rfl (p_argsV (by decide) xT.1 (Nat.le_of_ble_eq_true rfl)) rfl (Nat.le_of_ble_eq_true rfl) (spX7_isThere xT w) ?_
    refine Ev.if1 rfl (fun c2 => ?_) (fun c2 => ?_)
    · have c2 : ¬ (fX7_isThere T w) = 0 := c2
      rw [if_pos c2] at H
      refine Ev.go 1 (s' := (h, 25, [(0, .ref 0), (1, .int v), (2, .int w)], [.ref 0])) rfl ?_
      refine Ev.get rfl (by decide) xX rfl ?_
      refine Ev.go 1 (s' := (h, 29, [(0, .ref 0), (1, .int v), (2, .int w)], [.int w, .ref 15])) rfl ?_
      obtain ⟨y4, e3, H⟩ := Option.bind_eq_some_iff.mp H
      refine Ev.callE rfl rfl rfl (p_argsV (by decide) xO.1 (Nat.le_of_ble_eq_true rfl)) rfl (Nat.le_of_ble_eq_true rfl) (spX3_rankOf xO w e3) ?_
      refine Ev.go 5 (s' := (h, 39, [(0, .ref 0), (1, .int v), (2, .int w), (3, .int y4), (4, .int v), (5, .int 0)], [])) rfl ?_
      refine Ev.live rfl (lv' := [(0, .ref 0), (3, .int y4), (4, .int v), (5, .int 0)]) rfl ?_
      exact llX9_meet_39 n h y4 v 0 _ H xX xT xO
    · have c2 : ¬ (¬ (fX7_isThere T w) = 0) := c2
      rw [if_neg c2] at H
      refine Ev.go 1 (s' := (h, 23, [(0, .ref 0), (1, .int v), (2, .int w)], [.int ((-1))])) rfl ?_
      have H := Option.some.inj H
      subst H
      exact Ev.ret rfl rfl (p_retZ rfl) ⟨rfl, rfl⟩
def fX9_pattern (n : Nat) (X : tX) (L : tL) (U : tU) (S : tS) (E : tS) : Option (Int32 × tX × tU × tS × tS) := ((fX6_read n U L E).bind fun y2 => (if y2.1 < 0 then ((fX5_copyFrom S y2.2.2).bind fun y10 => some (fX5_size y10, (X.1, 0), y2.2.1, y10, y2.2.2)) else some ((-10) - y2.1, X, y2.2.1, S, y2.2.2)))
theorem spX9_pattern {d n : Nat} {h : pH} {X : tX} {L : tL} {U : tU} {S : tS} {E : tS} (xX : isX h X) (xL : isL h L) (xU : isU h U) (xS : isS h 36 S) (xE : isS h 40 E) {res : Int32 × tX × tU × tS × tS} (H : fX9_pattern n X L U S E = some res) : Ev (d + 4) mX9_pattern (h, 0, [(0, .ref 0)], []) (fun r h1 => r = some (.int res.1) ∧ isX h1 res.2.1 ∧ isU h1 res.2.2.1 ∧ isS h1 36 res.2.2.2.1 ∧ isS h1 40 res.2.2.2.2 ∧ fr [(0, 1), (5, 7), (36, 40), (40, 44)] h h1) := by
  unfold fX9_pattern at H
  refine Ev.go 1 (s' := (h, 1, [(0, .ref 0)], [.ref 0])) rfl ?_
  refine Ev.get rfl (by decide) xX rfl ?_
  refine Ev.go 1 (s' := (h, 5, [(0, .ref 0)], [.ref 0, .ref 5])) rfl ?_
  refine Ev.get rfl (by decide) xX rfl ?_
  refine Ev.go 1 (s' := (h, 9, [(0, .ref 0)], [.ref 0, .ref 1, .ref 5])) rfl ?_
  refine Ev.get rfl (by decide) xX rfl ?_
  obtain ⟨y2, e1, H⟩ := Option.bind_eq_some_iff.mp H
  refine Ev.call rfl rfl rfl (p_argsV (by decide) xU.1 (Nat.le_of_ble_eq_true rfl)) rfl (Nat.le_of_ble_eq_true rfl) ((spX6_read xU xL xE (by omega)  e1).mono (fun r h3 q4 => ?_))
  obtain ⟨rfl, q4_U, q4_S, q4_f⟩ := q4
  have i5 : isX h3 X := isX.fr q4_f (fr2 (by omega) (by omega)) xX
  have i6 : isL h3 L := isL.fr q4_f (fr2 (by omega) (by omega)) xL
  have i7 : isS h3 36 S := isS.fr q4_f (fr2 (by omega) (by omega)) xS
  refine Ev.go 2 (s' := (h3, 17, [(0, .ref 0), (1, .int y2.1)], [.int y2.1])) rfl ?_
  refine Ev.if1 rfl (fun c8 => ?_) (fun c8 => ?_)
  · have c8 : y2.1 < 0 := c8
    rw [if_pos c8] at H
    refine Ev.go 1 (s' := (h3, 26, [(0, .ref 0), (1, .int y2.1)], [.ref 0])) rfl ?_
    refine Ev.get rfl (by decide) i5 rfl ?_
    refine Ev.go 1 (s' := (h3, 30, [(0, .ref 0), (1, .int y2.1)], [.ref 0, .ref 36])) rfl ?_
    refine Ev.get rfl (by decide) i5 rfl ?_
    obtain ⟨y10, e9, H⟩ := Option.bind_eq_some_iff.mp H
    refine Ev.call rfl rfl rfl (p_argsV (by decide) i7.1 (Nat.le_of_ble_eq_true rfl)) rfl (Nat.le_of_ble_eq_true rfl) ((spX5_copyFrom i7 q4_S (by omega)  e9).mono (fun r h11 q12 => ?_))
    obtain ⟨rfl, q12_S, q12_f⟩ := q12
    have i13 : isX h11 X := isX.fr q12_f (fr1 (by omega)) i5
    have i14 : isL h11 L := isL.fr q12_f (fr1 (by omega)) i6
    have i15 : isU h11 y2.2.1 := isU.fr q12_f (fr1 (by omega)) q4_U
    have i16 : isS h11 40 y2.2.2 := isS.fr q12_f (fr1 (by omega)) q4_S
    refine Ev.go 2 (s' := (h11, 38, [(0, .ref 0), (1, .int y2.1)], [.int 0, .ref 0])) rfl ?_
    refine Ev.put rfl rfl (by decide) i13 (Nat.le_of_ble_eq_true rfl) rfl rfl (fs' := [.ref 1, .ref 3, .ref 5, .ref 7, .ref 11, .ref 15, .ref 23, .ref 28, .ref 32, .int X.1, .ref 36, .ref 40, .ref 44, .int 0]) rfl ?_
    refine Ev.go 1 (s' := ((pu h11 0 (eO 8 [.ref 1, .ref 3, .ref 5, .ref 7, .ref 11, .ref 15, .ref 23, .ref 28, .ref 32, .int X.1, .ref 36, .ref 40, .ref 44, .int 0])), 42, [(0, .ref 0), (1, .int y2.1)], [.ref 0])) rfl ?_
    refine Ev.get rfl (by decide) pu_s rfl ?_
    refine Ev.callE rfl rfl rfl (p_argsV (by decide) (pu_n (by decide) q12_S.1) (Nat.le_of_ble_eq_true rfl)) rfl (Nat.le_of_ble_eq_true rfl) (spX5_size (h := (pu h11 0 (eO 8 [.ref 1, .ref 3, .ref 5, .ref 7, .ref 11, .ref 15, .ref 23, .ref 28, .ref 32, .int X.1, .ref 36, .ref 40, .ref 44, .int 0]))) (S := y10) ⟨(pu_n (by decide) q12_S.1), (pu_n (by decide) q12_S.2.1), (pu_n (by decide) q12_S.2.2.1), (pu_n (by decide) q12_S.2.2.2.1), (by decide)⟩ ) ?_
    have H := Option.some.inj H
    subst H
    exact Ev.ret rfl rfl (p_retZ rfl) ⟨rfl, pu_s, ⟨(pu_n (by decide) i15.1), (pu_n (by decide) i15.2)⟩, ⟨(pu_n (by decide) q12_S.1), (pu_n (by decide) q12_S.2.1), (pu_n (by decide) q12_S.2.2.1), (pu_n (by decide) q12_S.2.2.2.1), (by decide)⟩, ⟨(pu_n (by decide) i16.1), (pu_n (by decide) i16.2.1), (pu_n (by decide) i16.2.2.1), (pu_n (by decide) i16.2.2.2.1), (by decide)⟩, (fun k hk => by rw [pu_x (show k ≠ 0 from fun e => by have := hk; simp at this; omega)]; rw [q12_f k (by have := hk; simp at this ⊢; omega)]; rw [q4_f k (by have := hk; simp at this ⊢; omega)])⟩
  · have c8 : ¬ (y2.1 < 0) := c8
    rw [if_neg c8] at H
    refine Ev.go 3 (s' := (h3, 24, [(0, .ref 0), (1, .int y2.1)], [.int ((-10) - y2.1)])) rfl ?_
    have H := Option.some.inj H
    subst H
    exact Ev.ret rfl rfl (p_retZ rfl) ⟨rfl, i5, q4_U, i7, q4_S, (fun k hk => by rw [q4_f k (by have := hk; simp at this ⊢; omega)])⟩
def fX9_step (X : tX) (q : Int32) (what : Int32) (S : tS) : Option (Int32) := (if ¬ (fX5_has S q) = 0 then (if what = 0 then ((fX5_tagOf S q).bind fun y4 => some y4) else (if what = 1 then (if ¬ q = 0 then ((fX5_hangOf S q).bind fun y8 => some y8) else some (-4)) else (if what = 2 then (if ¬ q = 0 then ((fX5_axisOf S q).bind fun y12 => some y12) else some (-4)) else some (-1)))) else some (-1))
theorem spX9_step {d : Nat} {h : pH} {X : tX} {S : tS} (xX : isX h X) (xS : isS h 36 S) (q : Int32) (what : Int32) {res : Int32} (H : fX9_step X q what S = some res) : Ev (d + 2) mX9_step (h, 0, [(0, .ref 0), (1, .int q), (2, .int what)], []) (fun r h1 => r = some (.int res) ∧ h1 = h) := by
  unfold fX9_step at H
  refine Ev.go 1 (s' := (h, 1, [(0, .ref 0), (1, .int q), (2, .int what)], [.ref 0])) rfl ?_
  refine Ev.get rfl (by decide) xX rfl ?_
  refine Ev.go 1 (s' := (h, 5, [(0, .ref 0), (1, .int q), (2, .int what)], [.int q, .ref 36])) rfl ?_
  refine Ev.callE rfl rfl rfl (p_argsV (by decide) xS.1 (Nat.le_of_ble_eq_true rfl)) rfl (Nat.le_of_ble_eq_true rfl) (spX5_has xS q) ?_
  refine Ev.if1 rfl (fun c1 => ?_) (fun c1 => ?_)
  · have c1 : ¬ (fX5_has S q) = 0 := c1
    rw [if_pos c1] at H
    refine Ev.go 1 (s' := (h, 14, [(0, .ref 0), (1, .int q), (2, .int what)], [.int what])) rfl ?_
    rcases Classical.em (what = 0) with c2 | c2
    · rw [if_pos c2] at H
      refine Ev.one (s' := (h, 40, [(0, .ref 0), (1, .int q), (2, .int what)], [])) rfl rfl (by rw [c2]; rfl) ?_
      refine Ev.go 1 (s' := (h, 41, [(0, .ref 0), (1, .int q), (2, .int what)], [.ref 0])) rfl ?_
      refine Ev.get rfl (by decide) xX rfl ?_
      refine Ev.go 1 (s' := (h, 45, [(0, .ref 0), (1, .int q), (2, .int what)], [.int q, .ref 36])) rfl ?_
      obtain ⟨y4, e3, H⟩ := Option.bind_eq_some_iff.mp H
      refine Ev.callE rfl rfl rfl (p_argsV (by decide) xS.1 (Nat.le_of_ble_eq_true rfl)) rfl (Nat.le_of_ble_eq_true rfl) (spX5_tagOf xS q e3) ?_
      have H := Option.some.inj H
      subst H
      exact Ev.ret rfl rfl (p_retZ rfl) ⟨rfl, rfl⟩
    · rw [if_neg c2] at H
      rcases Classical.em (what = 1) with c5 | c5
      · rw [if_pos c5] at H
        refine Ev.one (s' := (h, 49, [(0, .ref 0), (1, .int q), (2, .int what)], [])) rfl rfl (by rw [c5]; rfl) ?_
        refine Ev.go 1 (s' := (h, 50, [(0, .ref 0), (1, .int q), (2, .int what)], [.int q])) rfl ?_
        refine Ev.if1 rfl (fun c6 => ?_) (fun c6 => ?_)
        · have c6 : ¬ q = 0 := c6
          rw [if_pos c6] at H
          refine Ev.go 1 (s' := (h, 59, [(0, .ref 0), (1, .int q), (2, .int what)], [.ref 0])) rfl ?_
          refine Ev.get rfl (by decide) xX rfl ?_
          refine Ev.go 1 (s' := (h, 63, [(0, .ref 0), (1, .int q), (2, .int what)], [.int q, .ref 36])) rfl ?_
          obtain ⟨y8, e7, H⟩ := Option.bind_eq_some_iff.mp H
          refine Ev.callE rfl rfl rfl (p_argsV (by decide) xS.1 (Nat.le_of_ble_eq_true rfl)) rfl (Nat.le_of_ble_eq_true rfl) (spX5_hangOf xS q e7) ?_
          have H := Option.some.inj H
          subst H
          exact Ev.ret rfl rfl (p_retZ rfl) ⟨rfl, rfl⟩
        · have c6 : ¬ (¬ q = 0) := c6
          rw [if_neg c6] at H
          refine Ev.go 2 (s' := (h, 66, [(0, .ref 0), (1, .int q), (2, .int what)], [.int ((-4))])) rfl ?_
          have H := Option.some.inj H
          subst H
          exact Ev.ret rfl rfl (p_retZ rfl) ⟨rfl, rfl⟩
      · rw [if_neg c5] at H
        rcases Classical.em (what = 2) with c9 | c9
        · rw [if_pos c9] at H
          refine Ev.one (s' := (h, 67, [(0, .ref 0), (1, .int q), (2, .int what)], [])) rfl rfl (by rw [c9]; rfl) ?_
          refine Ev.go 1 (s' := (h, 68, [(0, .ref 0), (1, .int q), (2, .int what)], [.int q])) rfl ?_
          refine Ev.if1 rfl (fun c10 => ?_) (fun c10 => ?_)
          · have c10 : ¬ q = 0 := c10
            rw [if_pos c10] at H
            refine Ev.go 1 (s' := (h, 77, [(0, .ref 0), (1, .int q), (2, .int what)], [.ref 0])) rfl ?_
            refine Ev.get rfl (by decide) xX rfl ?_
            refine Ev.go 1 (s' := (h, 81, [(0, .ref 0), (1, .int q), (2, .int what)], [.int q, .ref 36])) rfl ?_
            obtain ⟨y12, e11, H⟩ := Option.bind_eq_some_iff.mp H
            refine Ev.callE rfl rfl rfl (p_argsV (by decide) xS.1 (Nat.le_of_ble_eq_true rfl)) rfl (Nat.le_of_ble_eq_true rfl) (spX5_axisOf xS q e11) ?_
            have H := Option.some.inj H
            subst H
            exact Ev.ret rfl rfl (p_retZ rfl) ⟨rfl, rfl⟩
          · have c10 : ¬ (¬ q = 0) := c10
            rw [if_neg c10] at H
            refine Ev.go 2 (s' := (h, 84, [(0, .ref 0), (1, .int q), (2, .int what)], [.int ((-4))])) rfl ?_
            have H := Option.some.inj H
            subst H
            exact Ev.ret rfl rfl (p_retZ rfl) ⟨rfl, rfl⟩
        · rw [if_neg c9] at H
          refine Ev.one (s' := (h, 85, [(0, .ref 0), (1, .int q), (2, .int what)], [])) rfl rfl (p_swt (p_sw_0_2 c2 c5 c9)) ?_
          refine Ev.go 1 (s' := (h, 86, [(0, .ref 0), (1, .int q), (2, .int what)], [.int ((-1))])) rfl ?_
          have H := Option.some.inj H
          subst H
          exact Ev.ret rfl rfl (p_retZ rfl) ⟨rfl, rfl⟩
  · have c1 : ¬ (¬ (fX5_has S q) = 0) := c1
    rw [if_neg c1] at H
    refine Ev.go 1 (s' := (h, 12, [(0, .ref 0), (1, .int q), (2, .int what)], [.int ((-1))])) rfl ?_
    have H := Option.some.inj H
    subst H
    exact Ev.ret rfl rfl (p_retZ rfl) ⟨rfl, rfl⟩
def fX9_matches (n : Nat) (X : tX) (T : tT) (O : tO) (S : tS) (G : tG) : Option (Int64 × tX × tG) := (if ¬ (fX5_size S) = 0 then ((fX9_matchAll n X T O S G).bind fun y3 => ((fX2_total n y3.2 O).bind fun y10 => some (y10, y3.1, y3.2))) else some ((-2), X, G))
theorem spX9_matches {d n : Nat} {h : pH} {X : tX} {T : tT} {O : tO} {S : tS} {G : tG} (xX : isX h X) (xT : isT h 7 T) (xO : isO h O) (xS : isS h 36 S) (xG : isG h G) {res : Int64 × tX × tG} (H : fX9_matches n X T O S G = some res) : Ev (d + 6) mX9_matches (h, 0, [(0, .ref 0)], []) (fun r h1 => r = some (.long res.1) ∧ isX h1 res.2.1 ∧ isG h1 res.2.2 ∧ fr [(0, 1), (44, 73)] h h1) := by
  unfold fX9_matches at H
  refine Ev.go 1 (s' := (h, 1, [(0, .ref 0)], [.ref 0])) rfl ?_
  refine Ev.get rfl (by decide) xX rfl ?_
  refine Ev.callE rfl rfl rfl (p_argsV (by decide) xS.1 (Nat.le_of_ble_eq_true rfl)) rfl (Nat.le_of_ble_eq_true rfl) (spX5_size xS ) ?_
  refine Ev.if1 rfl (fun c1 => ?_) (fun c1 => ?_)
  · have c1 : ¬ (fX5_size S) = 0 := c1
    rw [if_pos c1] at H
    refine Ev.go 1 (s' := (h, 15, [(0, .ref 0)], [.ref 0])) rfl ?_
    obtain ⟨y3, e2, H⟩ := Option.bind_eq_some_iff.mp H
    refine Ev.call rfl rfl rfl (p_argsV (by decide) xX (Nat.le_of_ble_eq_true rfl)) rfl (Nat.le_of_ble_eq_true rfl) ((spX9_matchAll xX xT xO xS xG  e2).mono (fun r h4 q5 => ?_))
    obtain ⟨rfl, q5_X, q5_G, q5_f⟩ := q5
    have i6 : isT h4 7 T := isT.fr q5_f (fr2 (by omega) (by omega)) xT
    have i7 : isO h4 O := isO.fr q5_f (fr2 (by omega) (by omega)) xO
    have i8 : isS h4 36 S := isS.fr q5_f (fr2 (by omega) (by omega)) xS
    refine Ev.go 1 (s' := (h4, 19, [(0, .ref 0)], [.ref 0])) rfl ?_
    refine Ev.get rfl (by decide) q5_X rfl ?_
    obtain ⟨y10, e9, H⟩ := Option.bind_eq_some_iff.mp H
    refine Ev.callE rfl rfl rfl (p_argsV (by decide) q5_G.1 (Nat.le_of_ble_eq_true rfl)) rfl (Nat.le_of_ble_eq_true rfl) (spX2_total q5_G i7  e9) ?_
    have H := Option.some.inj H
    subst H
    exact Ev.ret rfl rfl rfl ⟨rfl, q5_X, q5_G, (fun k hk => by rw [q5_f k (by have := hk; simp at this ⊢; omega)])⟩
  · have c1 : ¬ (¬ (fX5_size S) = 0) := c1
    rw [if_neg c1] at H
    refine Ev.go 1 (s' := (h, 13, [(0, .ref 0)], [.long ((-2))])) rfl ?_
    have H := Option.some.inj H
    subst H
    exact Ev.ret rfl rfl rfl ⟨rfl, xX, xG, (fun k _ => rfl)⟩
def fX9_puts (n : Nat) (X : tX) (q : Int32) (v : Int32) (T : tT) (O : tO) (S : tS) (G : tG) : Option (Int64 × tX × tG) := (if (fX5_has S q) = 0 then some ((-1), X, G) else (if ¬ (fX7_isThere T v) = 0 then ((fX9_matchAll n X T O S G).bind fun y4 => ((fX3_rankOf O v).bind fun y11 => ((fX2_ways y4.2 q y11).bind fun y13 => some (y13, y4.1, y4.2)))) else some ((-1), X, G)))
theorem spX9_puts {d n : Nat} {h : pH} {X : tX} {T : tT} {O : tO} {S : tS} {G : tG} (xX : isX h X) (xT : isT h 7 T) (xO : isO h O) (xS : isS h 36 S) (xG : isG h G) (q : Int32) (v : Int32) {res : Int64 × tX × tG} (H : fX9_puts n X q v T O S G = some res) : Ev (d + 6) mX9_puts (h, 0, [(0, .ref 0), (1, .int q), (2, .int v)], []) (fun r h1 => r = some (.long res.1) ∧ isX h1 res.2.1 ∧ isG h1 res.2.2 ∧ fr [(0, 1), (44, 73)] h h1) := by
  unfold fX9_puts at H
  refine Ev.go 1 (s' := (h, 1, [(0, .ref 0), (1, .int q), (2, .int v)], [.ref 0])) rfl ?_
  refine Ev.get rfl (by decide) xX rfl ?_
  refine Ev.go 1 (s' := (h, 5, [(0, .ref 0), (1, .int q), (2, .int v)], [.int q, .ref 36])) rfl ?_
  refine Ev.callE rfl rfl rfl (p_argsV (by decide) xS.1 (Nat.le_of_ble_eq_true rfl)) rfl (Nat.le_of_ble_eq_true rfl) (spX5_has xS q) ?_
  refine Ev.if1 rfl (fun c1 => ?_) (fun c1 => ?_)
  · have c1 : (fX5_has S q) = 0 := c1
    rw [if_pos c1] at H
    refine Ev.go 1 (s' := (h, 25, [(0, .ref 0), (1, .int q), (2, .int v)], [.long ((-1))])) rfl ?_
    have H := Option.some.inj H
    subst H
    exact Ev.ret rfl rfl rfl ⟨rfl, xX, xG, (fun k _ => rfl)⟩
  · have c1 : ¬ ((fX5_has S q) = 0) := c1
    rw [if_neg c1] at H
    refine Ev.go 1 (s' := (h, 12, [(0, .ref 0), (1, .int q), (2, .int v)], [.ref 0])) rfl ?_
    refine Ev.get rfl (by decide) xX rfl ?_
    refine Ev.go 1 (s' := (h, 16, [(0, .ref 0), (1, .int q), (2, .int v)], [.int v, .ref 7])) rfl ?_
    refine Ev.callE rfl rfl rfl (p_argsV (by decide) xT.1 (Nat.le_of_ble_eq_true rfl)) rfl (Nat.le_of_ble_eq_true rfl) (spX7_isThere xT v) ?_
    refine Ev.if1 rfl (fun c2 => ?_) (fun c2 => ?_)
    · have c2 : ¬ (fX7_isThere T v) = 0 := c2
      rw [if_pos c2] at H
      refine Ev.go 1 (s' := (h, 27, [(0, .ref 0), (1, .int q), (2, .int v)], [.ref 0])) rfl ?_
      obtain ⟨y4, e3, H⟩ := Option.bind_eq_some_iff.mp H
      refine Ev.call rfl rfl rfl (p_argsV (by decide) xX (Nat.le_of_ble_eq_true rfl)) rfl (Nat.le_of_ble_eq_true rfl) ((spX9_matchAll xX xT xO xS xG  e3).mono (fun r h5 q6 => ?_))
      obtain ⟨rfl, q6_X, q6_G, q6_f⟩ := q6
      have i7 : isT h5 7 T := isT.fr q6_f (fr2 (by omega) (by omega)) xT
      have i8 : isO h5 O := isO.fr q6_f (fr2 (by omega) (by omega)) xO
      have i9 : isS h5 36 S := isS.fr q6_f (fr2 (by omega) (by omega)) xS
      refine Ev.go 1 (s' := (h5, 31, [(0, .ref 0), (1, .int q), (2, .int v)], [.ref 0])) rfl ?_
      refine Ev.get rfl (by decide) q6_X rfl ?_
      refine Ev.go 2 (s' := (h5, 36, [(0, .ref 0), (1, .int q), (2, .int v)], [.ref 0, .int q, .ref 44])) rfl ?_
      refine Ev.get rfl (by decide) q6_X rfl ?_
      refine Ev.go 1 (s' := (h5, 40, [(0, .ref 0), (1, .int q), (2, .int v)], [.int v, .ref 15, .int q, .ref 44])) rfl ?_
      obtain ⟨y11, e10, H⟩ := Option.bind_eq_some_iff.mp H
      refine Ev.callE rfl rfl rfl (p_argsV (by decide) i8.1 (Nat.le_of_ble_eq_true rfl)) rfl (Nat.le_of_ble_eq_true rfl) (spX3_rankOf i8 v e10) ?_
      obtain ⟨y13, e12, H⟩ := Option.bind_eq_some_iff.mp H
      refine Ev.callE rfl rfl rfl (p_argsV (by decide) q6_G.1 (Nat.le_of_ble_eq_true rfl)) rfl (Nat.le_of_ble_eq_true rfl) (spX2_ways q6_G q y11 e12) ?_
      have H := Option.some.inj H
      subst H
      exact Ev.ret rfl rfl rfl ⟨rfl, q6_X, q6_G, (fun k hk => by rw [q6_f k (by have := hk; simp at this ⊢; omega)])⟩
    · have c2 : ¬ (¬ (fX7_isThere T v) = 0) := c2
      rw [if_neg c2] at H
      refine Ev.go 1 (s' := (h, 25, [(0, .ref 0), (1, .int q), (2, .int v)], [.long ((-1))])) rfl ?_
      have H := Option.some.inj H
      subst H
      exact Ev.ret rfl rfl rfl ⟨rfl, xX, xG, (fun k _ => rfl)⟩
def lX9_useful_21 (n : Nat) (T : tT) (O : tO) (S : tS) : Nat → Int32 → Int32 → Int32 → tX → tG → Option (Int32 × tX × tG)
  | 0, _, _, _, _, _ => none
  | m + 1, x1, x2, x3, X, G => (if (fX3_size O) ≤ x3 then some (x2, X, G) else ((fX2_ways G x1 x3).bind fun y11 => (if (lg_cmp y11 0) ≤ 0 then lX9_useful_21 n T O S m x1 x2 (x3 + 1) X G else ((fX3_nodeAt O x3).bind fun y14 => lX9_useful_21 n T O S m x1 (x2 ||| (1 <<< (y14 &&& 31))) (x3 + 1) X G))))
theorem llX9_useful_21 {d n : Nat} {T : tT} {O : tO} {S : tS} : ∀ (m : Nat) (h : pH) (x1 : Int32) (x2 : Int32) (x3 : Int32) (X : tX) (G : tG) (res : Int32 × tX × tG), lX9_useful_21 n T O S m x1 x2 x3 X G = some res → isT h 7 T → isO h O → isS h 36 S → isX h X → isG h G → Ev (d + 6) mX9_useful (h, 21, [(0, .ref 0), (1, .int x1), (2, .int x2), (3, .int x3)], []) (fun r h1 => r = some (.int res.1) ∧ isX h1 res.2.1 ∧ isG h1 res.2.2 ∧ fr [(0, 1), (44, 73)] h h1)
  | 0, h, x1, x2, x3, X, G, res, H, _, _, _, _, _ => by cases H
  | m + 1, h, x1, x2, x3, X, G, res, H, xT, xO, xS, xX, xG => by
    have H : (if (fX3_size O) ≤ x3 then some (x2, X, G) else ((fX2_ways G x1 x3).bind fun y11 => (if (lg_cmp y11 0) ≤ 0 then lX9_useful_21 n T O S m x1 x2 (x3 + 1) X G else ((fX3_nodeAt O x3).bind fun y14 => lX9_useful_21 n T O S m x1 (x2 ||| (1 <<< (y14 &&& 31))) (x3 + 1) X G)))) = some res := H
    refine Ev.go 2 (s' := (h, 23, [(0, .ref 0), (1, .int x1), (2, .int x2), (3, .int x3)], [.ref 0, .int x3])) rfl ?_
    refine Ev.get rfl (by decide) xX rfl ?_
    refine Ev.callE rfl rfl rfl (p_argsV (by decide) xO.1 (Nat.le_of_ble_eq_true rfl)) rfl (Nat.le_of_ble_eq_true rfl) (spX3_size xO ) ?_
    refine Ev.if2 rfl (fun c9 => ?_) (fun c9 => ?_)
    · have c9 : (fX3_size O) ≤ x3 := c9
      rw [if_pos c9] at H
      refine Ev.go 1 (s' := (h, 66, [(0, .ref 0), (1, .int x1), (2, .int x2), (3, .int x3)], [.int x2])) rfl ?_
      have H := Option.some.inj H
      subst H
      exact Ev.ret rfl rfl (p_retZ rfl) ⟨rfl, xX, xG, (fun k _ => rfl)⟩
    · have c9 : ¬ ((fX3_size O) ≤ x3) := c9
      rw [if_neg c9] at H
      refine Ev.go 1 (s' := (h, 33, [(0, .ref 0), (1, .int x1), (2, .int x2), (3, .int x3)], [.ref 0])) rfl ?_
      refine Ev.get rfl (by decide) xX rfl ?_
      refine Ev.go 2 (s' := (h, 38, [(0, .ref 0), (1, .int x1), (2, .int x2), (3, .int x3)], [.int x3, .int x1, .ref 44])) rfl ?_
      obtain ⟨y11, e10, H⟩ := Option.bind_eq_some_iff.mp H
      refine Ev.callE rfl rfl rfl (p_argsV (by decide) xG.1 (Nat.le_of_ble_eq_true rfl)) rfl (Nat.le_of_ble_eq_true rfl) (spX2_ways xG x1 x3 e10) ?_
      refine Ev.go 2 (s' := (h, 43, [(0, .ref 0), (1, .int x1), (2, .int x2), (3, .int x3)], [.int (lg_cmp y11 0)])) rfl ?_
      refine Ev.if1 rfl (fun c12 => ?_) (fun c12 => ?_)
      · have c12 : (lg_cmp y11 0) ≤ 0 := c12
        rw [if_pos c12] at H
        refine Ev.go 2 (s' := (h, 21, [(0, .ref 0), (1, .int x1), (2, .int x2), (3, .int (x3 + 1))], [])) rfl ?_
        refine Ev.live rfl (lv' := [(0, .ref 0), (1, .int x1), (2, .int x2), (3, .int (x3 + 1))]) rfl ?_
        exact llX9_useful_21 m h x1 x2 (x3 + 1) X G _ H xT xO xS xX xG
      · have c12 : ¬ ((lg_cmp y11 0) ≤ 0) := c12
        rw [if_neg c12] at H
        refine Ev.go 3 (s' := (h, 49, [(0, .ref 0), (1, .int x1), (2, .int x2), (3, .int x3)], [.ref 0, .int 1, .int x2])) rfl ?_
        refine Ev.get rfl (by decide) xX rfl ?_
        refine Ev.go 1 (s' := (h, 53, [(0, .ref 0), (1, .int x1), (2, .int x2), (3, .int x3)], [.int x3, .ref 15, .int 1, .int x2])) rfl ?_
        obtain ⟨y14, e13, H⟩ := Option.bind_eq_some_iff.mp H
        refine Ev.callE rfl rfl rfl (p_argsV (by decide) xO.1 (Nat.le_of_ble_eq_true rfl)) rfl (Nat.le_of_ble_eq_true rfl) (spX3_nodeAt xO x3 e13) ?_
        refine Ev.go 5 (s' := (h, 21, [(0, .ref 0), (1, .int x1), (2, .int (x2 ||| (1 <<< (y14 &&& 31)))), (3, .int (x3 + 1))], [])) rfl ?_
        refine Ev.live rfl (lv' := [(0, .ref 0), (1, .int x1), (2, .int (x2 ||| (1 <<< (y14 &&& 31)))), (3, .int (x3 + 1))]) rfl ?_
        exact llX9_useful_21 m h x1 (x2 ||| (1 <<< (y14 &&& 31))) (x3 + 1) X G _ H xT xO xS xX xG
def fX9_useful (n : Nat) (X : tX) (q : Int32) (T : tT) (O : tO) (S : tS) (G : tG) : Option (Int32 × tX × tG) := (if ¬ (fX5_has S q) = 0 then ((fX9_matchAll n X T O S G).bind fun y3 => lX9_useful_21 n T O S n q 0 0 y3.1 y3.2) else some ((-1), X, G))
theorem spX9_useful {d n : Nat} {h : pH} {X : tX} {T : tT} {O : tO} {S : tS} {G : tG} (xX : isX h X) (xT : isT h 7 T) (xO : isO h O) (xS : isS h 36 S) (xG : isG h G) (q : Int32) {res : Int32 × tX × tG} (H : fX9_useful n X q T O S G = some res) : Ev (d + 6) mX9_useful (h, 0, [(0, .ref 0), (1, .int q)], []) (fun r h1 => r = some (.int res.1) ∧ isX h1 res.2.1 ∧ isG h1 res.2.2 ∧ fr [(0, 1), (44, 73)] h h1) := by
  unfold fX9_useful at H
  refine Ev.go 1 (s' := (h, 1, [(0, .ref 0), (1, .int q)], [.ref 0])) rfl ?_
  refine Ev.get rfl (by decide) xX rfl ?_
  refine Ev.go 1 (s' := (h, 5, [(0, .ref 0), (1, .int q)], [.int q, .ref 36])) rfl ?_
  refine Ev.callE rfl rfl rfl (p_argsV (by decide) xS.1 (Nat.le_of_ble_eq_true rfl)) rfl (Nat.le_of_ble_eq_true rfl) (spX5_has xS q) ?_
  refine Ev.if1 rfl (fun c1 => ?_) (fun c1 => ?_)
  · have c1 : ¬ (fX5_has S q) = 0 := c1
    rw [if_pos c1] at H
    refine Ev.go 1 (s' := (h, 14, [(0, .ref 0), (1, .int q)], [.ref 0])) rfl ?_
    obtain ⟨y3, e2, H⟩ := Option.bind_eq_some_iff.mp H
    refine Ev.call rfl rfl rfl (p_argsV (by decide) xX (Nat.le_of_ble_eq_true rfl)) rfl (Nat.le_of_ble_eq_true rfl) ((spX9_matchAll xX xT xO xS xG  e2).mono (fun r h4 q5 => ?_))
    obtain ⟨rfl, q5_X, q5_G, q5_f⟩ := q5
    have i6 : isT h4 7 T := isT.fr q5_f (fr2 (by omega) (by omega)) xT
    have i7 : isO h4 O := isO.fr q5_f (fr2 (by omega) (by omega)) xO
    have i8 : isS h4 36 S := isS.fr q5_f (fr2 (by omega) (by omega)) xS
    refine Ev.go 4 (s' := (h4, 21, [(0, .ref 0), (1, .int q), (2, .int 0), (3, .int 0)], [])) rfl ?_
    refine Ev.live rfl (lv' := [(0, .ref 0), (1, .int q), (2, .int 0), (3, .int 0)]) rfl ?_
    refine (llX9_useful_21 n h4 q 0 0 y3.1 y3.2 _ H i6 i7 i8 q5_X q5_G).mono (fun r h9 q9 => ?_)
    obtain ⟨q9r, q9_0, q9_1, q9f⟩ := q9
    exact ⟨q9r, q9_0, q9_1, fun k hk => (q9f k hk).trans (by rw [q5_f k (by have := hk; simp at this ⊢; omega)])⟩
  · have c1 : ¬ (¬ (fX5_has S q) = 0) := c1
    rw [if_neg c1] at H
    refine Ev.go 1 (s' := (h, 12, [(0, .ref 0), (1, .int q)], [.int ((-1))])) rfl ?_
    have H := Option.some.inj H
    subst H
    exact Ev.ret rfl rfl (p_retZ rfl) ⟨rfl, xX, xG, (fun k _ => rfl)⟩
def lX9_end_28 (n : Nat) (T : tT) (O : tO) (S : tS) : Nat → Int32 → Int32 → Int32 → tX → tG → Option (Int32 × tX × tG)
  | 0, _, _, _, _, _ => none
  | m + 1, x1, x2, x3, X, G => (if (fX3_size O) ≤ x3 then (if ¬ x1 = (-1) then some ((-4), X, G) else some (x2, X, G)) else ((fX2_ways G (fX5_lastOutermost S) x3).bind fun y13 => (if (lg_cmp y13 0) ≤ 0 then lX9_end_28 n T O S m x1 x2 (x3 + 1) X G else (if ¬ x2 = x1 then lX9_end_28 n T O S m x1 (x2 + 1) (x3 + 1) X G else ((fX3_nodeAt O x3).bind fun y17 => some (y17, X, G))))))
theorem llX9_end_28 {d n : Nat} {T : tT} {O : tO} {S : tS} : ∀ (m : Nat) (h : pH) (x1 : Int32) (x2 : Int32) (x3 : Int32) (X : tX) (G : tG) (res : Int32 × tX × tG), lX9_end_28 n T O S m x1 x2 x3 X G = some res → isT h 7 T → isO h O → isS h 36 S → isX h X → isG h G → Ev (d + 6) mX9_end (h, 28, [(0, .ref 0), (1, .int x1), (2, .int x2), (3, .int x3)], []) (fun r h1 => r = some (.int res.1) ∧ isX h1 res.2.1 ∧ isG h1 res.2.2 ∧ fr [(0, 1), (44, 73)] h h1)
  | 0, h, x1, x2, x3, X, G, res, H, _, _, _, _, _ => by cases H
  | m + 1, h, x1, x2, x3, X, G, res, H, xT, xO, xS, xX, xG => by
    have H : (if (fX3_size O) ≤ x3 then (if ¬ x1 = (-1) then some ((-4), X, G) else some (x2, X, G)) else ((fX2_ways G (fX5_lastOutermost S) x3).bind fun y13 => (if (lg_cmp y13 0) ≤ 0 then lX9_end_28 n T O S m x1 x2 (x3 + 1) X G else (if ¬ x2 = x1 then lX9_end_28 n T O S m x1 (x2 + 1) (x3 + 1) X G else ((fX3_nodeAt O x3).bind fun y17 => some (y17, X, G)))))) = some res := H
    refine Ev.go 2 (s' := (h, 30, [(0, .ref 0), (1, .int x1), (2, .int x2), (3, .int x3)], [.ref 0, .int x3])) rfl ?_
    refine Ev.get rfl (by decide) xX rfl ?_
    refine Ev.callE rfl rfl rfl (p_argsV (by decide) xO.1 (Nat.le_of_ble_eq_true rfl)) rfl (Nat.le_of_ble_eq_true rfl) (spX3_size xO ) ?_
    refine Ev.if2 rfl (fun c10 => ?_) (fun c10 => ?_)
    · have c10 : (fX3_size O) ≤ x3 := c10
      rw [if_pos c10] at H
      refine Ev.go 2 (s' := (h, 84, [(0, .ref 0), (1, .int x1), (2, .int x2), (3, .int x3)], [.int ((-1)), .int x1])) rfl ?_
      refine Ev.if2 rfl (fun c11 => ?_) (fun c11 => ?_)
      · have c11 : ¬ x1 = (-1) := c11
        rw [if_pos c11] at H
        refine Ev.go 1 (s' := (h, 93, [(0, .ref 0), (1, .int x1), (2, .int x2), (3, .int x3)], [.int ((-4))])) rfl ?_
        have H := Option.some.inj H
        subst H
        exact Ev.ret rfl rfl (p_retZ rfl) ⟨rfl, xX, xG, (fun k _ => rfl)⟩
      · have c11 : ¬ (¬ x1 = (-1)) := c11
        rw [if_neg c11] at H
        refine Ev.go 2 (s' := (h, 93, [(0, .ref 0), (1, .int x1), (2, .int x2), (3, .int x3)], [.int x2])) rfl ?_
        have H := Option.some.inj H
        subst H
        exact Ev.ret rfl rfl (p_retZ rfl) ⟨rfl, xX, xG, (fun k _ => rfl)⟩
    · have c10 : ¬ ((fX3_size O) ≤ x3) := c10
      rw [if_neg c10] at H
      refine Ev.go 1 (s' := (h, 40, [(0, .ref 0), (1, .int x1), (2, .int x2), (3, .int x3)], [.ref 0])) rfl ?_
      refine Ev.get rfl (by decide) xX rfl ?_
      refine Ev.go 1 (s' := (h, 44, [(0, .ref 0), (1, .int x1), (2, .int x2), (3, .int x3)], [.ref 0, .ref 44])) rfl ?_
      refine Ev.get rfl (by decide) xX rfl ?_
      refine Ev.callE rfl rfl rfl (p_argsV (by decide) xS.1 (Nat.le_of_ble_eq_true rfl)) rfl (Nat.le_of_ble_eq_true rfl) (spX5_lastOutermost xS ) ?_
      refine Ev.go 1 (s' := (h, 51, [(0, .ref 0), (1, .int x1), (2, .int x2), (3, .int x3)], [.int x3, .int (fX5_lastOutermost S), .ref 44])) rfl ?_
      obtain ⟨y13, e12, H⟩ := Option.bind_eq_some_iff.mp H
      refine Ev.callE rfl rfl rfl (p_argsV (by decide) xG.1 (Nat.le_of_ble_eq_true rfl)) rfl (Nat.le_of_ble_eq_true rfl) (spX2_ways xG (fX5_lastOutermost S) x3 e12) ?_
      refine Ev.go 2 (s' := (h, 56, [(0, .ref 0), (1, .int x1), (2, .int x2), (3, .int x3)], [.int (lg_cmp y13 0)])) rfl ?_
      refine Ev.if1 rfl (fun c14 => ?_) (fun c14 => ?_)
      · have c14 : (lg_cmp y13 0) ≤ 0 := c14
        rw [if_pos c14] at H
        refine Ev.go 2 (s' := (h, 28, [(0, .ref 0), (1, .int x1), (2, .int x2), (3, .int (x3 + 1))], [])) rfl ?_
        refine Ev.live rfl (lv' := [(0, .ref 0), (1, .int x1), (2, .int x2), (3, .int (x3 + 1))]) rfl ?_
        exact llX9_end_28 m h x1 x2 (x3 + 1) X G _ H xT xO xS xX xG
      · have c14 : ¬ ((lg_cmp y13 0) ≤ 0) := c14
        rw [if_neg c14] at H
        refine Ev.go 2 (s' := (h, 61, [(0, .ref 0), (1, .int x1), (2, .int x2), (3, .int x3)], [.int x1, .int x2])) rfl ?_
        refine Ev.if2 rfl (fun c15 => ?_) (fun c15 => ?_)
        · have c15 : ¬ x2 = x1 := c15
          rw [if_pos c15] at H
          refine Ev.go 3 (s' := (h, 28, [(0, .ref 0), (1, .int x1), (2, .int (x2 + 1)), (3, .int (x3 + 1))], [])) rfl ?_
          refine Ev.live rfl (lv' := [(0, .ref 0), (1, .int x1), (2, .int (x2 + 1)), (3, .int (x3 + 1))]) rfl ?_
          exact llX9_end_28 m h x1 (x2 + 1) (x3 + 1) X G _ H xT xO xS xX xG
        · have c15 : ¬ (¬ x2 = x1) := c15
          rw [if_neg c15] at H
          refine Ev.go 1 (s' := (h, 65, [(0, .ref 0), (1, .int x1), (2, .int x2), (3, .int x3)], [.ref 0])) rfl ?_
          refine Ev.get rfl (by decide) xX rfl ?_
          refine Ev.go 1 (s' := (h, 69, [(0, .ref 0), (1, .int x1), (2, .int x2), (3, .int x3)], [.int x3, .ref 15])) rfl ?_
          obtain ⟨y17, e16, H⟩ := Option.bind_eq_some_iff.mp H
          refine Ev.callE rfl rfl rfl (p_argsV (by decide) xO.1 (Nat.le_of_ble_eq_true rfl)) rfl (Nat.le_of_ble_eq_true rfl) (spX3_nodeAt xO x3 e16) ?_
          have H := Option.some.inj H
          subst H
          exact Ev.ret rfl rfl (p_retZ rfl) ⟨rfl, xX, xG, (fun k _ => rfl)⟩
def fX9_end (n : Nat) (X : tX) (k : Int32) (T : tT) (O : tO) (S : tS) (G : tG) : Option (Int32 × tX × tG) := (if (-1) ≤ k then (if ¬ (fX5_size S) = 0 then ((fX9_matchAll n X T O S G).bind fun y4 => lX9_end_28 n T O S n k 0 0 y4.1 y4.2) else some ((-2), X, G)) else some ((-1), X, G))
theorem spX9_end {d n : Nat} {h : pH} {X : tX} {T : tT} {O : tO} {S : tS} {G : tG} (xX : isX h X) (xT : isT h 7 T) (xO : isO h O) (xS : isS h 36 S) (xG : isG h G) (k : Int32) {res : Int32 × tX × tG} (H : fX9_end n X k T O S G = some res) : Ev (d + 6) mX9_end (h, 0, [(0, .ref 0), (1, .int k)], []) (fun r h1 => r = some (.int res.1) ∧ isX h1 res.2.1 ∧ isG h1 res.2.2 ∧ fr [(0, 1), (44, 73)] h h1) := by
  unfold fX9_end at H
  refine Ev.go 2 (s' := (h, 2, [(0, .ref 0), (1, .int k)], [.int ((-1)), .int k])) rfl ?_
  refine Ev.if2 rfl (fun c1 => ?_) (fun c1 => ?_)
  · have c1 : (-1) ≤ k := c1
    rw [if_pos c1] at H
    refine Ev.go 1 (s' := (h, 8, [(0, .ref 0), (1, .int k)], [.ref 0])) rfl ?_
    refine Ev.get rfl (by decide) xX rfl ?_
    refine Ev.callE rfl rfl rfl (p_argsV (by decide) xS.1 (Nat.le_of_ble_eq_true rfl)) rfl (Nat.le_of_ble_eq_true rfl) (spX5_size xS ) ?_
    refine Ev.if1 rfl (fun c2 => ?_) (fun c2 => ?_)
    · have c2 : ¬ (fX5_size S) = 0 := c2
      rw [if_pos c2] at H
      refine Ev.go 1 (s' := (h, 21, [(0, .ref 0), (1, .int k)], [.ref 0])) rfl ?_
      obtain ⟨y4, e3, H⟩ := Option.bind_eq_some_iff.mp H
      refine Ev.call rfl rfl rfl (p_argsV (by decide) xX (Nat.le_of_ble_eq_true rfl)) rfl (Nat.le_of_ble_eq_true rfl) ((spX9_matchAll xX xT xO xS xG  e3).mono (fun r h5 q6 => ?_))
      obtain ⟨rfl, q6_X, q6_G, q6_f⟩ := q6
      have i7 : isT h5 7 T := isT.fr q6_f (fr2 (by omega) (by omega)) xT
      have i8 : isO h5 O := isO.fr q6_f (fr2 (by omega) (by omega)) xO
      have i9 : isS h5 36 S := isS.fr q6_f (fr2 (by omega) (by omega)) xS
      refine Ev.go 4 (s' := (h5, 28, [(0, .ref 0), (1, .int k), (2, .int 0), (3, .int 0)], [])) rfl ?_
      refine Ev.live rfl (lv' := [(0, .ref 0), (1, .int k), (2, .int 0), (3, .int 0)]) rfl ?_
      refine (llX9_end_28 n h5 k 0 0 y4.1 y4.2 _ H i7 i8 i9 q6_X q6_G).mono (fun r h9 q9 => ?_)
      obtain ⟨q9r, q9_0, q9_1, q9f⟩ := q9
      exact ⟨q9r, q9_0, q9_1, fun k hk => (q9f k hk).trans (by rw [q6_f k (by have := hk; simp at this ⊢; omega)])⟩
    · have c2 : ¬ (¬ (fX5_size S) = 0) := c2
      rw [if_neg c2] at H
      refine Ev.go 1 (s' := (h, 19, [(0, .ref 0), (1, .int k)], [.int ((-2))])) rfl ?_
      have H := Option.some.inj H
      subst H
      exact Ev.ret rfl rfl (p_retZ rfl) ⟨rfl, xX, xG, (fun k _ => rfl)⟩
  · have c1 : ¬ ((-1) ≤ k) := c1
    rw [if_neg c1] at H
    refine Ev.go 1 (s' := (h, 6, [(0, .ref 0), (1, .int k)], [.int ((-1))])) rfl ?_
    have H := Option.some.inj H
    subst H
    exact Ev.ret rfl rfl (p_retZ rfl) ⟨rfl, xX, xG, (fun k _ => rfl)⟩
def fX9_keep (X : tX) (T : tT) (A : tT) (B : tT) : Option (Int32 × tX × tT × tT) := (if X.1 < 2 then (if X.1 = 0 then ((fX7_copyFrom A T).bind fun y4 => some (X.1 + 1, (X.1 + 1, X.2), y4, B)) else ((fX7_copyFrom B T).bind fun y11 => some (X.1 + 1, (X.1 + 1, X.2), A, y11))) else some ((-3), X, A, B))
theorem spX9_keep {d : Nat} {h : pH} {X : tX} {T : tT} {A : tT} {B : tT} (xX : isX h X) (xT : isT h 7 T) (xA : isT h 28 A) (xB : isT h 32 B) {res : Int32 × tX × tT × tT} (H : fX9_keep X T A B = some res) : Ev (d + 2) mX9_keep (h, 0, [(0, .ref 0)], []) (fun r h1 => r = some (.int res.1) ∧ isX h1 res.2.1 ∧ isT h1 28 res.2.2.1 ∧ isT h1 32 res.2.2.2 ∧ fr [(0, 1), (28, 32), (32, 36)] h h1) := by
  unfold fX9_keep at H
  refine Ev.go 1 (s' := (h, 1, [(0, .ref 0)], [.ref 0])) rfl ?_
  refine Ev.get rfl (by decide) xX rfl ?_
  refine Ev.go 1 (s' := (h, 5, [(0, .ref 0)], [.int 2, .int X.1])) rfl ?_
  refine Ev.if2 rfl (fun c1 => ?_) (fun c1 => ?_)
  · have c1 : X.1 < 2 := c1
    rw [if_pos c1] at H
    refine Ev.go 2 (s' := (h, 13, [(0, .ref 0)], [.ref 0, .ref 0])) rfl ?_
    refine Ev.get rfl (by decide) xX rfl ?_
    rcases Classical.em (X.1 = 0) with c2 | c2
    · rw [if_pos c2] at H
      refine Ev.callE rfl rfl rfl (p_argsV (by decide) xX (Nat.le_of_ble_eq_true rfl)) rfl (Nat.le_of_ble_eq_true rfl) (spX9_keptTree0 (X := X) (xX) c2) ?_
      refine Ev.go 1 (s' := (h, 20, [(0, .ref 0)], [.ref 0, .ref 28])) rfl ?_
      refine Ev.get rfl (by decide) xX rfl ?_
      obtain ⟨y4, e3, H⟩ := Option.bind_eq_some_iff.mp H
      refine Ev.call rfl rfl rfl (p_argsV (by decide) xA.1 (Nat.le_of_ble_eq_true rfl)) rfl (Nat.le_of_ble_eq_true rfl) ((spX7_copyFrom xA xT (by omega)  e3).mono (fun r h5 q6 => ?_))
      obtain ⟨rfl, q6_T, q6_f⟩ := q6
      have i7 : isX h5 X := isX.fr q6_f (fr1 (by omega)) xX
      have i8 : isT h5 7 T := isT.fr q6_f (fr1 (by omega)) xT
      have i9 : isT h5 32 B := isT.fr q6_f (fr1 (by omega)) xB
      refine Ev.go 2 (s' := (h5, 28, [(0, .ref 0)], [.ref 0, .ref 0])) rfl ?_
      refine Ev.get rfl (by decide) i7 rfl ?_
      refine Ev.go 2 (s' := (h5, 33, [(0, .ref 0)], [.int (X.1 + 1), .ref 0])) rfl ?_
      refine Ev.put rfl rfl (by decide) i7 (Nat.le_of_ble_eq_true rfl) rfl rfl (fs' := [.ref 1, .ref 3, .ref 5, .ref 7, .ref 11, .ref 15, .ref 23, .ref 28, .ref 32, .int (X.1 + 1), .ref 36, .ref 40, .ref 44, .int X.2]) rfl ?_
      refine Ev.go 1 (s' := ((pu h5 0 (eO 8 [.ref 1, .ref 3, .ref 5, .ref 7, .ref 11, .ref 15, .ref 23, .ref 28, .ref 32, .int (X.1 + 1), .ref 36, .ref 40, .ref 44, .int X.2])), 37, [(0, .ref 0)], [.ref 0])) rfl ?_
      refine Ev.get rfl (by decide) pu_s rfl ?_
      have H := Option.some.inj H
      subst H
      exact Ev.ret rfl rfl (p_retZ rfl) ⟨rfl, pu_s, ⟨(pu_n (by decide) q6_T.1), (pu_n (by decide) q6_T.2.1), (pu_n (by decide) q6_T.2.2.1), (pu_n (by decide) q6_T.2.2.2.1), (by decide)⟩, ⟨(pu_n (by decide) i9.1), (pu_n (by decide) i9.2.1), (pu_n (by decide) i9.2.2.1), (pu_n (by decide) i9.2.2.2.1), (by decide)⟩, (fun k hk => by rw [pu_x (show k ≠ 0 from fun e => by have := hk; simp at this; omega)]; rw [q6_f k (by have := hk; simp at this ⊢; omega)])⟩
    · rw [if_neg c2] at H
      refine Ev.callE rfl rfl rfl (p_argsV (by decide) xX (Nat.le_of_ble_eq_true rfl)) rfl (Nat.le_of_ble_eq_true rfl) (spX9_keptTree1 (X := X) (xX) c2) ?_
      refine Ev.go 1 (s' := (h, 20, [(0, .ref 0)], [.ref 0, .ref 32])) rfl ?_
      refine Ev.get rfl (by decide) xX rfl ?_
      obtain ⟨y11, e10, H⟩ := Option.bind_eq_some_iff.mp H
      refine Ev.call rfl rfl rfl (p_argsV (by decide) xB.1 (Nat.le_of_ble_eq_true rfl)) rfl (Nat.le_of_ble_eq_true rfl) ((spX7_copyFrom xB xT (by omega)  e10).mono (fun r h12 q13 => ?_))
      obtain ⟨rfl, q13_T, q13_f⟩ := q13
      have i14 : isX h12 X := isX.fr q13_f (fr1 (by omega)) xX
      have i15 : isT h12 7 T := isT.fr q13_f (fr1 (by omega)) xT
      have i16 : isT h12 28 A := isT.fr q13_f (fr1 (by omega)) xA
      refine Ev.go 2 (s' := (h12, 28, [(0, .ref 0)], [.ref 0, .ref 0])) rfl ?_
      refine Ev.get rfl (by decide) i14 rfl ?_
      refine Ev.go 2 (s' := (h12, 33, [(0, .ref 0)], [.int (X.1 + 1), .ref 0])) rfl ?_
      refine Ev.put rfl rfl (by decide) i14 (Nat.le_of_ble_eq_true rfl) rfl rfl (fs' := [.ref 1, .ref 3, .ref 5, .ref 7, .ref 11, .ref 15, .ref 23, .ref 28, .ref 32, .int (X.1 + 1), .ref 36, .ref 40, .ref 44, .int X.2]) rfl ?_
      refine Ev.go 1 (s' := ((pu h12 0 (eO 8 [.ref 1, .ref 3, .ref 5, .ref 7, .ref 11, .ref 15, .ref 23, .ref 28, .ref 32, .int (X.1 + 1), .ref 36, .ref 40, .ref 44, .int X.2])), 37, [(0, .ref 0)], [.ref 0])) rfl ?_
      refine Ev.get rfl (by decide) pu_s rfl ?_
      have H := Option.some.inj H
      subst H
      exact Ev.ret rfl rfl (p_retZ rfl) ⟨rfl, pu_s, ⟨(pu_n (by decide) i16.1), (pu_n (by decide) i16.2.1), (pu_n (by decide) i16.2.2.1), (pu_n (by decide) i16.2.2.2.1), (by decide)⟩, ⟨(pu_n (by decide) q13_T.1), (pu_n (by decide) q13_T.2.1), (pu_n (by decide) q13_T.2.2.1), (pu_n (by decide) q13_T.2.2.2.1), (by decide)⟩, (fun k hk => by rw [pu_x (show k ≠ 0 from fun e => by have := hk; simp at this; omega)]; rw [q13_f k (by have := hk; simp at this ⊢; omega)])⟩
  · have c1 : ¬ (X.1 < 2) := c1
    rw [if_neg c1] at H
    refine Ev.go 1 (s' := (h, 10, [(0, .ref 0)], [.int ((-3))])) rfl ?_
    have H := Option.some.inj H
    subst H
    exact Ev.ret rfl rfl (p_retZ rfl) ⟨rfl, xX, xA, xB, (fun k _ => rfl)⟩
def fX9_back (n : Nat) (X : tX) (T : tT) (O : tO) (P : tP) (A : tT) (B : tT) : Option (Int32 × tX × tT × tO × tP) := (if 0 < X.1 then (if (X.1 - 1) = 0 then ((fX7_copyFrom T A).bind fun y4 => ((fX4_clear P).bind fun y13 => ((fX9_settle n (X.1 - 1, X.2) y4 O).bind fun y22 => some (y22.1.1, y22.1, y4, y22.2, y13)))) else ((fX7_copyFrom T B).bind fun y30 => ((fX4_clear P).bind fun y39 => ((fX9_settle n (X.1 - 1, X.2) y30 O).bind fun y48 => some (y48.1.1, y48.1, y30, y48.2, y39))))) else some ((-2), X, T, O, P))
theorem spX9_back {d n : Nat} {h : pH} {X : tX} {T : tT} {O : tO} {P : tP} {A : tT} {B : tT} (xX : isX h X) (xT : isT h 7 T) (xO : isO h O) (xP : isP h P) (xA : isT h 28 A) (xB : isT h 32 B) {res : Int32 × tX × tT × tO × tP} (H : fX9_back n X T O P A B = some res) : Ev (d + 6) mX9_back (h, 0, [(0, .ref 0)], []) (fun r h1 => r = some (.int res.1) ∧ isX h1 res.2.1 ∧ isT h1 7 res.2.2.1 ∧ isO h1 res.2.2.2.1 ∧ isP h1 res.2.2.2.2 ∧ fr [(0, 1), (7, 11), (15, 23), (23, 28)] h h1) := by
  unfold fX9_back at H
  refine Ev.go 1 (s' := (h, 1, [(0, .ref 0)], [.ref 0])) rfl ?_
  refine Ev.get rfl (by decide) xX rfl ?_
  refine Ev.if1 rfl (fun c1 => ?_) (fun c1 => ?_)
  · have c1 : 0 < X.1 := c1
    rw [if_pos c1] at H
    refine Ev.go 2 (s' := (h, 12, [(0, .ref 0)], [.ref 0, .ref 0])) rfl ?_
    refine Ev.get rfl (by decide) xX rfl ?_
    refine Ev.go 2 (s' := (h, 17, [(0, .ref 0)], [.int (X.1 - 1), .ref 0])) rfl ?_
    refine Ev.put rfl rfl (by decide) xX (Nat.le_of_ble_eq_true rfl) rfl rfl (fs' := [.ref 1, .ref 3, .ref 5, .ref 7, .ref 11, .ref 15, .ref 23, .ref 28, .ref 32, .int (X.1 - 1), .ref 36, .ref 40, .ref 44, .int X.2]) rfl ?_
    refine Ev.go 1 (s' := ((pu h 0 (eO 8 [.ref 1, .ref 3, .ref 5, .ref 7, .ref 11, .ref 15, .ref 23, .ref 28, .ref 32, .int (X.1 - 1), .ref 36, .ref 40, .ref 44, .int X.2])), 21, [(0, .ref 0)], [.ref 0])) rfl ?_
    refine Ev.get rfl (by decide) pu_s rfl ?_
    refine Ev.go 2 (s' := ((pu h 0 (eO 8 [.ref 1, .ref 3, .ref 5, .ref 7, .ref 11, .ref 15, .ref 23, .ref 28, .ref 32, .int (X.1 - 1), .ref 36, .ref 40, .ref 44, .int X.2])), 26, [(0, .ref 0)], [.ref 0, .ref 0, .ref 7])) rfl ?_
    refine Ev.get rfl (by decide) pu_s rfl ?_
    rcases Classical.em ((X.1 - 1) = 0) with c2 | c2
    · rw [if_pos c2] at H
      refine Ev.callE rfl rfl rfl (p_argsV (by decide) pu_s (Nat.le_of_ble_eq_true rfl)) rfl (Nat.le_of_ble_eq_true rfl) (spX9_keptTree0 (X := (X.1 - 1, X.2)) (pu_s) c2) ?_
      obtain ⟨y4, e3, H⟩ := Option.bind_eq_some_iff.mp H
      refine Ev.call rfl rfl rfl (p_argsV (by decide) (pu_n (by decide) xT.1) (Nat.le_of_ble_eq_true rfl)) rfl (Nat.le_of_ble_eq_true rfl) ((spX7_copyFrom (h := (pu h 0 (eO 8 [.ref 1, .ref 3, .ref 5, .ref 7, .ref 11, .ref 15, .ref 23, .ref 28, .ref 32, .int (X.1 - 1), .ref 36, .ref 40, .ref 44, .int X.2]))) (T := T) (U := A) ⟨(pu_n (by decide) xT.1), (pu_n (by decide) xT.2.1), (pu_n (by decide) xT.2.2.1), (pu_n (by decide) xT.2.2.2.1), (by decide)⟩ ⟨(pu_n (by decide) xA.1), (pu_n (by decide) xA.2.1), (pu_n (by decide) xA.2.2.1), (pu_n (by decide) xA.2.2.2.1), (by decide)⟩ (by omega)  e3).mono (fun r h5 q6 => ?_))
      obtain ⟨rfl, q6_T, q6_f⟩ := q6
      have i7 : isX h5 (X.1 - 1, X.2) := isX.fr q6_f (fr1 (by omega)) pu_s
      have i8 : isO h5 O := isO.fr q6_f (fr1 (by omega)) ⟨(pu_n (by decide) xO.1), (pu_n (by decide) xO.2.1), (pu_n (by decide) xO.2.2.1), (pu_n (by decide) xO.2.2.2.1), (pu_n (by decide) xO.2.2.2.2.1), (pu_n (by decide) xO.2.2.2.2.2.1), (pu_n (by decide) xO.2.2.2.2.2.2.1), (pu_n (by decide) xO.2.2.2.2.2.2.2)⟩
      have i9 : isP h5 P := isP.fr q6_f (fr1 (by omega)) ⟨(pu_n (by decide) xP.1), (pu_n (by decide) xP.2.1), (pu_n (by decide) xP.2.2.1), (pu_n (by decide) xP.2.2.2.1), (pu_n (by decide) xP.2.2.2.2)⟩
      have i10 : isT h5 28 A := isT.fr q6_f (fr1 (by omega)) ⟨(pu_n (by decide) xA.1), (pu_n (by decide) xA.2.1), (pu_n (by decide) xA.2.2.1), (pu_n (by decide) xA.2.2.2.1), (by decide)⟩
      have i11 : isT h5 32 B := isT.fr q6_f (fr1 (by omega)) ⟨(pu_n (by decide) xB.1), (pu_n (by decide) xB.2.1), (pu_n (by decide) xB.2.2.1), (pu_n (by decide) xB.2.2.2.1), (by decide)⟩
      refine Ev.go 1 (s' := (h5, 36, [(0, .ref 0)], [.ref 0])) rfl ?_
      refine Ev.get rfl (by decide) i7 rfl ?_
      obtain ⟨y13, e12, H⟩ := Option.bind_eq_some_iff.mp H
      refine Ev.call rfl rfl rfl (p_argsV (by decide) i9.1 (Nat.le_of_ble_eq_true rfl)) rfl (Nat.le_of_ble_eq_true rfl) ((spX4_clear i9  e12).mono (fun r h14 q15 => ?_))
      obtain ⟨rfl, q15_P, q15_f⟩ := q15
      have i16 : isX h14 (X.1 - 1, X.2) := isX.fr q15_f (fr1 (by omega)) i7
      have i17 : isT h14 7 y4 := isT.fr q15_f (fr1 (by omega)) q6_T
      have i18 : isO h14 O := isO.fr q15_f (fr1 (by omega)) i8
      have i19 : isT h14 28 A := isT.fr q15_f (fr1 (by omega)) i10
      have i20 : isT h14 32 B := isT.fr q15_f (fr1 (by omega)) i11
      refine Ev.go 1 (s' := (h14, 43, [(0, .ref 0)], [.ref 0])) rfl ?_
      obtain ⟨y22, e21, H⟩ := Option.bind_eq_some_iff.mp H
      refine Ev.call rfl rfl rfl (p_argsV (by decide) i16 (Nat.le_of_ble_eq_true rfl)) rfl (Nat.le_of_ble_eq_true rfl) ((spX9_settle i16 i17 i18  e21).mono (fun r h23 q24 => ?_))
      obtain ⟨rfl, q24_X, q24_O, q24_f⟩ := q24
      have i25 : isT h23 7 y4 := isT.fr q24_f (fr2 (by omega) (by omega)) i17
      have i26 : isP h23 y13 := isP.fr q24_f (fr2 (by omega) (by omega)) q15_P
      have i27 : isT h23 28 A := isT.fr q24_f (fr2 (by omega) (by omega)) i19
      have i28 : isT h23 32 B := isT.fr q24_f (fr2 (by omega) (by omega)) i20
      refine Ev.go 1 (s' := (h23, 47, [(0, .ref 0)], [.ref 0])) rfl ?_
      refine Ev.get rfl (by decide) q24_X rfl ?_
      have H := Option.some.inj H
      subst H
      exact Ev.ret rfl rfl (p_retZ rfl) ⟨rfl, q24_X, i25, q24_O, i26, (fun k hk => by rw [q24_f k (by have := hk; simp at this ⊢; omega)]; rw [q15_f k (by have := hk; simp at this ⊢; omega)]; rw [q6_f k (by have := hk; simp at this ⊢; omega)]; rw [pu_x (show k ≠ 0 from fun e => by have := hk; simp at this; omega)])⟩
    · rw [if_neg c2] at H
      refine Ev.callE rfl rfl rfl (p_argsV (by decide) pu_s (Nat.le_of_ble_eq_true rfl)) rfl (Nat.le_of_ble_eq_true rfl) (spX9_keptTree1 (X := (X.1 - 1, X.2)) (pu_s) c2) ?_
      obtain ⟨y30, e29, H⟩ := Option.bind_eq_some_iff.mp H
      refine Ev.call rfl rfl rfl (p_argsV (by decide) (pu_n (by decide) xT.1) (Nat.le_of_ble_eq_true rfl)) rfl (Nat.le_of_ble_eq_true rfl) ((spX7_copyFrom (h := (pu h 0 (eO 8 [.ref 1, .ref 3, .ref 5, .ref 7, .ref 11, .ref 15, .ref 23, .ref 28, .ref 32, .int (X.1 - 1), .ref 36, .ref 40, .ref 44, .int X.2]))) (T := T) (U := B) ⟨(pu_n (by decide) xT.1), (pu_n (by decide) xT.2.1), (pu_n (by decide) xT.2.2.1), (pu_n (by decide) xT.2.2.2.1), (by decide)⟩ ⟨(pu_n (by decide) xB.1), (pu_n (by decide) xB.2.1), (pu_n (by decide) xB.2.2.1), (pu_n (by decide) xB.2.2.2.1), (by decide)⟩ (by omega)  e29).mono (fun r h31 q32 => ?_))
      obtain ⟨rfl, q32_T, q32_f⟩ := q32
      have i33 : isX h31 (X.1 - 1, X.2) := isX.fr q32_f (fr1 (by omega)) pu_s
      have i34 : isO h31 O := isO.fr q32_f (fr1 (by omega)) ⟨(pu_n (by decide) xO.1), (pu_n (by decide) xO.2.1), (pu_n (by decide) xO.2.2.1), (pu_n (by decide) xO.2.2.2.1), (pu_n (by decide) xO.2.2.2.2.1), (pu_n (by decide) xO.2.2.2.2.2.1), (pu_n (by decide) xO.2.2.2.2.2.2.1), (pu_n (by decide) xO.2.2.2.2.2.2.2)⟩
      have i35 : isP h31 P := isP.fr q32_f (fr1 (by omega)) ⟨(pu_n (by decide) xP.1), (pu_n (by decide) xP.2.1), (pu_n (by decide) xP.2.2.1), (pu_n (by decide) xP.2.2.2.1), (pu_n (by decide) xP.2.2.2.2)⟩
      have i36 : isT h31 28 A := isT.fr q32_f (fr1 (by omega)) ⟨(pu_n (by decide) xA.1), (pu_n (by decide) xA.2.1), (pu_n (by decide) xA.2.2.1), (pu_n (by decide) xA.2.2.2.1), (by decide)⟩
      have i37 : isT h31 32 B := isT.fr q32_f (fr1 (by omega)) ⟨(pu_n (by decide) xB.1), (pu_n (by decide) xB.2.1), (pu_n (by decide) xB.2.2.1), (pu_n (by decide) xB.2.2.2.1), (by decide)⟩
      refine Ev.go 1 (s' := (h31, 36, [(0, .ref 0)], [.ref 0])) rfl ?_
      refine Ev.get rfl (by decide) i33 rfl ?_
      obtain ⟨y39, e38, H⟩ := Option.bind_eq_some_iff.mp H
      refine Ev.call rfl rfl rfl (p_argsV (by decide) i35.1 (Nat.le_of_ble_eq_true rfl)) rfl (Nat.le_of_ble_eq_true rfl) ((spX4_clear i35  e38).mono (fun r h40 q41 => ?_))
      obtain ⟨rfl, q41_P, q41_f⟩ := q41
      have i42 : isX h40 (X.1 - 1, X.2) := isX.fr q41_f (fr1 (by omega)) i33
      have i43 : isT h40 7 y30 := isT.fr q41_f (fr1 (by omega)) q32_T
      have i44 : isO h40 O := isO.fr q41_f (fr1 (by omega)) i34
      have i45 : isT h40 28 A := isT.fr q41_f (fr1 (by omega)) i36
      have i46 : isT h40 32 B := isT.fr q41_f (fr1 (by omega)) i37
      refine Ev.go 1 (s' := (h40, 43, [(0, .ref 0)], [.ref 0])) rfl ?_
      obtain ⟨y48, e47, H⟩ := Option.bind_eq_some_iff.mp H
      refine Ev.call rfl rfl rfl (p_argsV (by decide) i42 (Nat.le_of_ble_eq_true rfl)) rfl (Nat.le_of_ble_eq_true rfl) ((spX9_settle i42 i43 i44  e47).mono (fun r h49 q50 => ?_))
      obtain ⟨rfl, q50_X, q50_O, q50_f⟩ := q50
      have i51 : isT h49 7 y30 := isT.fr q50_f (fr2 (by omega) (by omega)) i43
      have i52 : isP h49 y39 := isP.fr q50_f (fr2 (by omega) (by omega)) q41_P
      have i53 : isT h49 28 A := isT.fr q50_f (fr2 (by omega) (by omega)) i45
      have i54 : isT h49 32 B := isT.fr q50_f (fr2 (by omega) (by omega)) i46
      refine Ev.go 1 (s' := (h49, 47, [(0, .ref 0)], [.ref 0])) rfl ?_
      refine Ev.get rfl (by decide) q50_X rfl ?_
      have H := Option.some.inj H
      subst H
      exact Ev.ret rfl rfl (p_retZ rfl) ⟨rfl, q50_X, i51, q50_O, i52, (fun k hk => by rw [q50_f k (by have := hk; simp at this ⊢; omega)]; rw [q41_f k (by have := hk; simp at this ⊢; omega)]; rw [q32_f k (by have := hk; simp at this ⊢; omega)]; rw [pu_x (show k ≠ 0 from fun e => by have := hk; simp at this; omega)])⟩
  · have c1 : ¬ (0 < X.1) := c1
    rw [if_neg c1] at H
    refine Ev.go 1 (s' := (h, 9, [(0, .ref 0)], [.int ((-2))])) rfl ?_
    have H := Option.some.inj H
    subst H
    exact Ev.ret rfl rfl (p_retZ rfl) ⟨rfl, xX, xT, xO, xP, (fun k _ => rfl)⟩
def fX9_count (n : Nat) (X : tX) (what : Int32) (L : tL) (T : tT) (O : tO) (P : tP) (S : tS) : Option (Int32) := (if what = 0 then some (fX3_size O) else (if what = 1 then some (fX7_came T) else (if what = 2 then some (fX5_size S) else (if what = 3 then ((fX9_mostFigures n X T O).bind fun y6 => some y6) else (if what = 4 then ((fX3_mostLevels n O).bind fun y9 => some y9) else (if what = 5 then some (fX7_kind T) else (if what = 6 then some (fX4_size P) else (if what = 7 then some X.1 else (if what = 8 then some (fX1_size L) else some (-1))))))))))
theorem spX9_count {d n : Nat} {h : pH} {X : tX} {L : tL} {T : tT} {O : tO} {P : tP} {S : tS} (xX : isX h X) (xL : isL h L) (xT : isT h 7 T) (xO : isO h O) (xP : isP h P) (xS : isS h 36 S) (what : Int32) {res : Int32} (H : fX9_count n X what L T O P S = some res) : Ev (d + 3) mX9_count (h, 0, [(0, .ref 0), (1, .int what)], []) (fun r h1 => r = some (.int res) ∧ h1 = h) := by
  unfold fX9_count at H
  refine Ev.go 1 (s' := (h, 1, [(0, .ref 0), (1, .int what)], [.int what])) rfl ?_
  rcases Classical.em (what = 0) with c1 | c1
  · rw [if_pos c1] at H
    refine Ev.one (s' := (h, 52, [(0, .ref 0), (1, .int what)], [])) rfl rfl (by rw [c1]; rfl) ?_
    refine Ev.go 1 (s' := (h, 53, [(0, .ref 0), (1, .int what)], [.ref 0])) rfl ?_
    refine Ev.get rfl (by decide) xX rfl ?_
    refine Ev.callE rfl rfl rfl (p_argsV (by decide) xO.1 (Nat.le_of_ble_eq_true rfl)) rfl (Nat.le_of_ble_eq_true rfl) (spX3_size xO ) ?_
    have H := Option.some.inj H
    subst H
    exact Ev.ret rfl rfl (p_retZ rfl) ⟨rfl, rfl⟩
  · rw [if_neg c1] at H
    rcases Classical.em (what = 1) with c2 | c2
    · rw [if_pos c2] at H
      refine Ev.one (s' := (h, 60, [(0, .ref 0), (1, .int what)], [])) rfl rfl (by rw [c2]; rfl) ?_
      refine Ev.go 1 (s' := (h, 61, [(0, .ref 0), (1, .int what)], [.ref 0])) rfl ?_
      refine Ev.get rfl (by decide) xX rfl ?_
      refine Ev.callE rfl rfl rfl (p_argsV (by decide) xT.1 (Nat.le_of_ble_eq_true rfl)) rfl (Nat.le_of_ble_eq_true rfl) (spX7_came xT ) ?_
      have H := Option.some.inj H
      subst H
      exact Ev.ret rfl rfl (p_retZ rfl) ⟨rfl, rfl⟩
    · rw [if_neg c2] at H
      rcases Classical.em (what = 2) with c3 | c3
      · rw [if_pos c3] at H
        refine Ev.one (s' := (h, 68, [(0, .ref 0), (1, .int what)], [])) rfl rfl (by rw [c3]; rfl) ?_
        refine Ev.go 1 (s' := (h, 69, [(0, .ref 0), (1, .int what)], [.ref 0])) rfl ?_
        refine Ev.get rfl (by decide) xX rfl ?_
        refine Ev.callE rfl rfl rfl (p_argsV (by decide) xS.1 (Nat.le_of_ble_eq_true rfl)) rfl (Nat.le_of_ble_eq_true rfl) (spX5_size xS ) ?_
        have H := Option.some.inj H
        subst H
        exact Ev.ret rfl rfl (p_retZ rfl) ⟨rfl, rfl⟩
      · rw [if_neg c3] at H
        rcases Classical.em (what = 3) with c4 | c4
        · rw [if_pos c4] at H
          refine Ev.one (s' := (h, 76, [(0, .ref 0), (1, .int what)], [])) rfl rfl (by rw [c4]; rfl) ?_
          refine Ev.go 1 (s' := (h, 77, [(0, .ref 0), (1, .int what)], [.ref 0])) rfl ?_
          obtain ⟨y6, e5, H⟩ := Option.bind_eq_some_iff.mp H
          refine Ev.callE rfl rfl rfl (p_argsV (by decide) xX (Nat.le_of_ble_eq_true rfl)) rfl (Nat.le_of_ble_eq_true rfl) (spX9_mostFigures xX xT xO  e5) ?_
          have H := Option.some.inj H
          subst H
          exact Ev.ret rfl rfl (p_retZ rfl) ⟨rfl, rfl⟩
        · rw [if_neg c4] at H
          rcases Classical.em (what = 4) with c7 | c7
          · rw [if_pos c7] at H
            refine Ev.one (s' := (h, 81, [(0, .ref 0), (1, .int what)], [])) rfl rfl (by rw [c7]; rfl) ?_
            refine Ev.go 1 (s' := (h, 82, [(0, .ref 0), (1, .int what)], [.ref 0])) rfl ?_
            refine Ev.get rfl (by decide) xX rfl ?_
            obtain ⟨y9, e8, H⟩ := Option.bind_eq_some_iff.mp H
            refine Ev.callE rfl rfl rfl (p_argsV (by decide) xO.1 (Nat.le_of_ble_eq_true rfl)) rfl (Nat.le_of_ble_eq_true rfl) (spX3_mostLevels xO  e8) ?_
            have H := Option.some.inj H
            subst H
            exact Ev.ret rfl rfl (p_retZ rfl) ⟨rfl, rfl⟩
          · rw [if_neg c7] at H
            rcases Classical.em (what = 5) with c10 | c10
            · rw [if_pos c10] at H
              refine Ev.one (s' := (h, 89, [(0, .ref 0), (1, .int what)], [])) rfl rfl (by rw [c10]; rfl) ?_
              refine Ev.go 1 (s' := (h, 90, [(0, .ref 0), (1, .int what)], [.ref 0])) rfl ?_
              refine Ev.get rfl (by decide) xX rfl ?_
              refine Ev.callE rfl rfl rfl (p_argsV (by decide) xT.1 (Nat.le_of_ble_eq_true rfl)) rfl (Nat.le_of_ble_eq_true rfl) (spX7_kind xT ) ?_
              have H := Option.some.inj H
              subst H
              exact Ev.ret rfl rfl (p_retZ rfl) ⟨rfl, rfl⟩
            · rw [if_neg c10] at H
              rcases Classical.em (what = 6) with c11 | c11
              · rw [if_pos c11] at H
                refine Ev.one (s' := (h, 97, [(0, .ref 0), (1, .int what)], [])) rfl rfl (by rw [c11]; rfl) ?_
                refine Ev.go 1 (s' := (h, 98, [(0, .ref 0), (1, .int what)], [.ref 0])) rfl ?_
                refine Ev.get rfl (by decide) xX rfl ?_
                refine Ev.callE rfl rfl rfl (p_argsV (by decide) xP.1 (Nat.le_of_ble_eq_true rfl)) rfl (Nat.le_of_ble_eq_true rfl) (spX4_size xP ) ?_
                have H := Option.some.inj H
                subst H
                exact Ev.ret rfl rfl (p_retZ rfl) ⟨rfl, rfl⟩
              · rw [if_neg c11] at H
                rcases Classical.em (what = 7) with c12 | c12
                · rw [if_pos c12] at H
                  refine Ev.one (s' := (h, 105, [(0, .ref 0), (1, .int what)], [])) rfl rfl (by rw [c12]; rfl) ?_
                  refine Ev.go 1 (s' := (h, 106, [(0, .ref 0), (1, .int what)], [.ref 0])) rfl ?_
                  refine Ev.get rfl (by decide) xX rfl ?_
                  have H := Option.some.inj H
                  subst H
                  exact Ev.ret rfl rfl (p_retZ rfl) ⟨rfl, rfl⟩
                · rw [if_neg c12] at H
                  rcases Classical.em (what = 8) with c13 | c13
                  · rw [if_pos c13] at H
                    refine Ev.one (s' := (h, 110, [(0, .ref 0), (1, .int what)], [])) rfl rfl (by rw [c13]; rfl) ?_
                    refine Ev.go 1 (s' := (h, 111, [(0, .ref 0), (1, .int what)], [.ref 0])) rfl ?_
                    refine Ev.get rfl (by decide) xX rfl ?_
                    refine Ev.callE rfl rfl rfl (p_argsV (by decide) xL.1 (Nat.le_of_ble_eq_true rfl)) rfl (Nat.le_of_ble_eq_true rfl) (spX1_size xL ) ?_
                    have H := Option.some.inj H
                    subst H
                    exact Ev.ret rfl rfl (p_retZ rfl) ⟨rfl, rfl⟩
                  · rw [if_neg c13] at H
                    refine Ev.one (s' := (h, 118, [(0, .ref 0), (1, .int what)], [])) rfl rfl (p_swt (p_sw_0_8 c1 c2 c3 c4 c7 c10 c11 c12 c13)) ?_
                    refine Ev.go 1 (s' := (h, 119, [(0, .ref 0), (1, .int what)], [.int ((-1))])) rfl ?_
                    have H := Option.some.inj H
                    subst H
                    exact Ev.ret rfl rfl (p_retZ rfl) ⟨rfl, rfl⟩
