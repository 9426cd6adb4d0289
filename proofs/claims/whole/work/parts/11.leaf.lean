/-! PICTURES of the objects: what the places hold -/
def isT (h : pH) (t : Nat) (tags parents spots : Nat → Int32) (bits came kind : Int32) : Prop := h t = eO 6 [.ref (t + 1), .ref (t + 2), .ref (t + 3), .int bits, .int came, .int kind] ∧ h (t + 1) = eI 24 tags ∧ h (t + 2) = eI 24 parents ∧ h (t + 3) = eI 24 spots ∧ t + 3 < pN
def isL (h : pH) (size : Int32) (letters : Nat → Int32) : Prop := h 1 = eO 0 [.ref 2, .int size] ∧ h 2 = eI 200 letters
def isO (h : pH) (ranks nodes parents elders levels kids belows : Nat → Int32) (size : Int32) : Prop := h 15 = eO 2 [.ref 16, .ref 17, .ref 18, .ref 19, .ref 20, .ref 21, .ref 22, .int size] ∧ h 16 = eI 24 ranks ∧ h 17 = eI 24 nodes ∧ h 18 = eI 24 parents ∧ h 19 = eI 24 elders ∧ h 20 = eI 24 levels ∧ h 21 = eI 24 kids ∧ h 22 = eI 24 belows
def isP (h : pH) (bits cames tagged tags : Nat → Int32) (size : Int32) : Prop := h 23 = eO 3 [.ref 24, .ref 25, .ref 26, .ref 27, .int size] ∧ h 24 = eI 8 bits ∧ h 25 = eI 8 cames ∧ h 26 = eI 8 tagged ∧ h 27 = eI 8 tags
def isS (h : pH) (t : Nat) (tags hangs axes : Nat → Int32) (size last : Int32) : Prop := h t = eO 4 [.ref (t + 1), .ref (t + 2), .ref (t + 3), .int size, .int last] ∧ h (t + 1) = eI 8 tags ∧ h (t + 2) = eI 8 hangs ∧ h (t + 3) = eI 8 axes ∧ t + 3 < pN

def fX7_isNumber (v : Int32) : Int32 := (if v < 0 then 0 else (if 24 ≤ v then 0 else 1))
theorem gX7_isNumber_0 {d : Nat} {Q : Option Value → pH → Prop} {h : pH} (v : Int32)  (k : ((v < 0 → Q (some (.int 0)) h) ∧ (¬ (v < 0) → ((24 ≤ v → Q (some (.int 0)) h) ∧ (¬ (24 ≤ v) → Q (some (.int 1)) h))))) : Ev d mX7_isNumber (h, 0, [(0, .int v)], []) Q := by
  refine Ev.go 1 (s' := (h, 1, [(0, .int v)], [.int v])) rfl ?_
  refine Ev.if1 rfl (fun c1 => ?_) (fun c1 => ?_)
  · refine Ev.go 1 (s' := (h, 15, [(0, .int v)], [.int 0])) rfl ?_
    exact Ev.ret rfl rfl (p_retZ rfl) (k.1 c1)
  · refine Ev.go 2 (s' := (h, 7, [(0, .int v)], [.int 24, .int v])) rfl ?_
    refine Ev.if2 rfl (fun c7 => ?_) (fun c7 => ?_)
    · refine Ev.go 1 (s' := (h, 15, [(0, .int v)], [.int 0])) rfl ?_
      exact Ev.ret rfl rfl (p_retZ rfl) ((k.2 c1).1 c7)
    · refine Ev.go 2 (s' := (h, 15, [(0, .int v)], [.int 1])) rfl ?_
      exact Ev.ret rfl rfl (p_retZ rfl) ((k.2 c1).2 c7)
theorem spX7_isNumber {d : Nat} {h : pH}  (v : Int32) : Ev d mX7_isNumber (h, 0, [(0, .int v)], []) (fun r h1 => r = some (.int (fX7_isNumber v)) ∧ h1 = h) :=
  gX7_isNumber_0 v ⟨fun c1 => ⟨congrArg (fun z => some (Value.int z)) (by rw [fX7_isNumber, if_pos c1]), rfl⟩, fun c1 => ⟨fun c7 => ⟨congrArg (fun z => some (Value.int z)) (by rw [fX7_isNumber, if_neg c1, if_pos c7]), rfl⟩, fun c7 => ⟨congrArg (fun z => some (Value.int z)) (by rw [fX7_isNumber, if_neg c1, if_neg c7]), rfl⟩⟩⟩
theorem vnX7 {v : Int32} (c : ¬ fX7_isNumber v = 0) : vp_in v 24 := by
  unfold fX7_isNumber at c
  split at c
  · exact absurd rfl c
  · split at c
    · exact absurd rfl c
    · rename_i h0 h1
      exact vi_of (m := 24) rfl h0 (by rw [Int32.lt_iff_toInt_lt]; rw [Int32.le_iff_toInt_le] at h1; omega)
def fX7_isThere (bits : Int32) (v : Int32) : Int32 := (if (fX7_isNumber v) = 0 then 0 else (if ¬ ((bits >>> (v &&& 31)) &&& 1) = 1 then 0 else 1))
theorem gX7_isThere_0 {d : Nat} {Q : Option Value → pH → Prop} {h : pH} {t : Nat} {tags parents spots : Nat → Int32} {bits came kind : Int32} (v : Int32) (hT : isT h t tags parents spots bits came kind) (k : (((fX7_isNumber v) = 0 → Q (some (.int 0)) h) ∧ (¬ ((fX7_isNumber v) = 0) → ((¬ ((bits >>> (v &&& 31)) &&& 1) = 1 → Q (some (.int 0)) h) ∧ (¬ (¬ ((bits >>> (v &&& 31)) &&& 1) = 1) → Q (some (.int 1)) h))))) : Ev (d + 1) mX7_isThere (h, 0, [(0, .ref t), (1, .int v)], []) Q := by
  refine Ev.go 1 (s' := (h, 1, [(0, .ref t), (1, .int v)], [.int v])) rfl ?_
  refine Ev.callE rfl rfl rfl rfl rfl (Nat.le_of_ble_eq_true rfl) (spX7_isNumber v) ?_
  refine Ev.if1 rfl (fun c4 => ?_) (fun c4 => ?_)
  · refine Ev.go 1 (s' := (h, 24, [(0, .ref t), (1, .int v)], [.int 0])) rfl ?_
    exact Ev.ret rfl rfl (p_retZ rfl) (k.1 c4)
  · refine Ev.go 1 (s' := (h, 8, [(0, .ref t), (1, .int v)], [.ref t])) rfl ?_
    refine Ev.get rfl (by have := hT.2.2.2.2; omega) hT.1 rfl ?_
    refine Ev.go 5 (s' := (h, 16, [(0, .ref t), (1, .int v)], [.int 1, .int ((bits >>> (v &&& 31)) &&& 1)])) rfl ?_
    refine Ev.if2 rfl (fun c16 => ?_) (fun c16 => ?_)
    · refine Ev.go 1 (s' := (h, 24, [(0, .ref t), (1, .int v)], [.int 0])) rfl ?_
      exact Ev.ret rfl rfl (p_retZ rfl) ((k.2 c4).1 c16)
    · refine Ev.go 2 (s' := (h, 24, [(0, .ref t), (1, .int v)], [.int 1])) rfl ?_
      exact Ev.ret rfl rfl (p_retZ rfl) ((k.2 c4).2 c16)
theorem spX7_isThere {d : Nat} {h : pH} {t : Nat} {tags parents spots : Nat → Int32} {bits came kind : Int32} (hT : isT h t tags parents spots bits came kind) (v : Int32) : Ev (d + 1) mX7_isThere (h, 0, [(0, .ref t), (1, .int v)], []) (fun r h1 => r = some (.int (fX7_isThere bits v)) ∧ h1 = h) :=
  gX7_isThere_0 v hT ⟨fun c4 => ⟨congrArg (fun z => some (Value.int z)) (by rw [fX7_isThere, if_pos c4]), rfl⟩, fun c4 => ⟨fun c16 => ⟨congrArg (fun z => some (Value.int z)) (by rw [fX7_isThere, if_neg c4, if_pos c16]), rfl⟩, fun c16 => ⟨congrArg (fun z => some (Value.int z)) (by rw [fX7_isThere, if_neg c4, if_neg c16]), rfl⟩⟩⟩
def fX7_isFull (came : Int32) : Int32 := (if came < 24 then 0 else 1)
theorem gX7_isFull_0 {d : Nat} {Q : Option Value → pH → Prop} {h : pH} {t : Nat} {tags parents spots : Nat → Int32} {bits came kind : Int32} (hT : isT h t tags parents spots bits came kind) (k : ((came < 24 → Q (some (.int 0)) h) ∧ (¬ (came < 24) → Q (some (.int 1)) h))) : Ev d mX7_isFull (h, 0, [(0, .ref t)], []) Q := by
  refine Ev.go 1 (s' := (h, 1, [(0, .ref t)], [.ref t])) rfl ?_
  refine Ev.get rfl (by have := hT.2.2.2.2; omega) hT.1 rfl ?_
  refine Ev.go 1 (s' := (h, 6, [(0, .ref t)], [.int 24, .int came])) rfl ?_
  refine Ev.if2 rfl (fun c6 => ?_) (fun c6 => ?_)
  · refine Ev.go 1 (s' := (h, 14, [(0, .ref t)], [.int 0])) rfl ?_
    exact Ev.ret rfl rfl (p_retZ rfl) (k.1 c6)
  · refine Ev.go 2 (s' := (h, 14, [(0, .ref t)], [.int 1])) rfl ?_
    exact Ev.ret rfl rfl (p_retZ rfl) (k.2 c6)
theorem spX7_isFull {d : Nat} {h : pH} {t : Nat} {tags parents spots : Nat → Int32} {bits came kind : Int32} (hT : isT h t tags parents spots bits came kind) : Ev d mX7_isFull (h, 0, [(0, .ref t)], []) (fun r h1 => r = some (.int (fX7_isFull came)) ∧ h1 = h) :=
  gX7_isFull_0  hT ⟨fun c6 => ⟨congrArg (fun z => some (Value.int z)) (by rw [fX7_isFull, if_pos c6]), rfl⟩, fun c6 => ⟨congrArg (fun z => some (Value.int z)) (by rw [fX7_isFull, if_neg c6]), rfl⟩⟩
def fX7_came (came : Int32) : Int32 := came
theorem gX7_came_0 {d : Nat} {Q : Option Value → pH → Prop} {h : pH} {t : Nat} {tags parents spots : Nat → Int32} {bits came kind : Int32} (hT : isT h t tags parents spots bits came kind) (k : Q (some (.int came)) h) : Ev d mX7_came (h, 0, [(0, .ref t)], []) Q := by
  refine Ev.go 1 (s' := (h, 1, [(0, .ref t)], [.ref t])) rfl ?_
  refine Ev.get rfl (by have := hT.2.2.2.2; omega) hT.1 rfl ?_
  exact Ev.ret rfl rfl (p_retZ rfl) k
theorem spX7_came {d : Nat} {h : pH} {t : Nat} {tags parents spots : Nat → Int32} {bits came kind : Int32} (hT : isT h t tags parents spots bits came kind) : Ev d mX7_came (h, 0, [(0, .ref t)], []) (fun r h1 => r = some (.int (fX7_came came)) ∧ h1 = h) :=
  gX7_came_0  hT ⟨congrArg (fun z => some (Value.int z)) (by rw [fX7_came]), rfl⟩
def fX7_kind (kind : Int32) : Int32 := kind
theorem gX7_kind_0 {d : Nat} {Q : Option Value → pH → Prop} {h : pH} {t : Nat} {tags parents spots : Nat → Int32} {bits came kind : Int32} (hT : isT h t tags parents spots bits came kind) (k : Q (some (.int kind)) h) : Ev d mX7_kind (h, 0, [(0, .ref t)], []) Q := by
  refine Ev.go 1 (s' := (h, 1, [(0, .ref t)], [.ref t])) rfl ?_
  refine Ev.get rfl (by have := hT.2.2.2.2; omega) hT.1 rfl ?_
  exact Ev.ret rfl rfl (p_retZ rfl) k
theorem spX7_kind {d : Nat} {h : pH} {t : Nat} {tags parents spots : Nat → Int32} {bits came kind : Int32} (hT : isT h t tags parents spots bits came kind) : Ev d mX7_kind (h, 0, [(0, .ref t)], []) (fun r h1 => r = some (.int (fX7_kind kind)) ∧ h1 = h) :=
  gX7_kind_0  hT ⟨congrArg (fun z => some (Value.int z)) (by rw [fX7_kind]), rfl⟩
def fX7_bits (bits : Int32) : Int32 := bits
theorem gX7_bits_0 {d : Nat} {Q : Option Value → pH → Prop} {h : pH} {t : Nat} {tags parents spots : Nat → Int32} {bits came kind : Int32} (hT : isT h t tags parents spots bits came kind) (k : Q (some (.int bits)) h) : Ev d mX7_bits (h, 0, [(0, .ref t)], []) Q := by
  refine Ev.go 1 (s' := (h, 1, [(0, .ref t)], [.ref t])) rfl ?_
  refine Ev.get rfl (by have := hT.2.2.2.2; omega) hT.1 rfl ?_
  exact Ev.ret rfl rfl (p_retZ rfl) k
theorem spX7_bits {d : Nat} {h : pH} {t : Nat} {tags parents spots : Nat → Int32} {bits came kind : Int32} (hT : isT h t tags parents spots bits came kind) : Ev d mX7_bits (h, 0, [(0, .ref t)], []) (fun r h1 => r = some (.int (fX7_bits bits)) ∧ h1 = h) :=
  gX7_bits_0  hT ⟨congrArg (fun z => some (Value.int z)) (by rw [fX7_bits]), rfl⟩
def fX7_tagOf (tags : Nat → Int32) (v : Int32) : Int32 := (if (fX7_isNumber v) = 0 then (-1) else tags v.toNatClampNeg)
theorem gX7_tagOf_0 {d : Nat} {Q : Option Value → pH → Prop} {h : pH} {t : Nat} {tags parents spots : Nat → Int32} {bits came kind : Int32} (v : Int32) (hT : isT h t tags parents spots bits came kind) (k : (((fX7_isNumber v) = 0 → Q (some (.int ((-1)))) h) ∧ (¬ ((fX7_isNumber v) = 0) → (vp_in v 24 ∧ Q (some (.int (tags v.toNatClampNeg))) h)))) : Ev (d + 1) mX7_tagOf (h, 0, [(0, .ref t), (1, .int v)], []) Q := by
  refine Ev.go 1 (s' := (h, 1, [(0, .ref t), (1, .int v)], [.int v])) rfl ?_
  refine Ev.callE rfl rfl rfl rfl rfl (Nat.le_of_ble_eq_true rfl) (spX7_isNumber v) ?_
  refine Ev.if1 rfl (fun c4 => ?_) (fun c4 => ?_)
  · refine Ev.go 1 (s' := (h, 17, [(0, .ref t), (1, .int v)], [.int ((-1))])) rfl ?_
    exact Ev.ret rfl rfl (p_retZ rfl) (k.1 c4)
  · refine Ev.go 1 (s' := (h, 8, [(0, .ref t), (1, .int v)], [.ref t])) rfl ?_
    refine Ev.get rfl (by have := hT.2.2.2.2; omega) hT.1 rfl ?_
    refine Ev.go 1 (s' := (h, 12, [(0, .ref t), (1, .int v)], [.int v, .ref (t + 1)])) rfl ?_
    refine Ev.iald rfl (by have := hT.2.2.2.2; omega) hT.2.1 (k.2 c4).1 ?_
    refine Ev.go 1 (s' := (h, 17, [(0, .ref t), (1, .int v)], [.int (tags v.toNatClampNeg)])) rfl ?_
    exact Ev.ret rfl rfl (p_retZ rfl) (k.2 c4).2
theorem spX7_tagOf {d : Nat} {h : pH} {t : Nat} {tags parents spots : Nat → Int32} {bits came kind : Int32} (hT : isT h t tags parents spots bits came kind) (v : Int32) : Ev (d + 1) mX7_tagOf (h, 0, [(0, .ref t), (1, .int v)], []) (fun r h1 => r = some (.int (fX7_tagOf tags v)) ∧ h1 = h) :=
  gX7_tagOf_0 v hT ⟨fun c4 => ⟨congrArg (fun z => some (Value.int z)) (by rw [fX7_tagOf, if_pos c4]), rfl⟩, fun c4 => ⟨(vnX7 c4), ⟨congrArg (fun z => some (Value.int z)) (by rw [fX7_tagOf, if_neg c4]), rfl⟩⟩⟩
def fX7_parentOf (parents : Nat → Int32) (v : Int32) : Int32 := (if (fX7_isNumber v) = 0 then (-1) else parents v.toNatClampNeg)
theorem gX7_parentOf_0 {d : Nat} {Q : Option Value → pH → Prop} {h : pH} {t : Nat} {tags parents spots : Nat → Int32} {bits came kind : Int32} (v : Int32) (hT : isT h t tags parents spots bits came kind) (k : (((fX7_isNumber v) = 0 → Q (some (.int ((-1)))) h) ∧ (¬ ((fX7_isNumber v) = 0) → (vp_in v 24 ∧ Q (some (.int (parents v.toNatClampNeg))) h)))) : Ev (d + 1) mX7_parentOf (h, 0, [(0, .ref t), (1, .int v)], []) Q := by
  refine Ev.go 1 (s' := (h, 1, [(0, .ref t), (1, .int v)], [.int v])) rfl ?_
  refine Ev.callE rfl rfl rfl rfl rfl (Nat.le_of_ble_eq_true rfl) (spX7_isNumber v) ?_
  refine Ev.if1 rfl (fun c4 => ?_) (fun c4 => ?_)
  · refine Ev.go 1 (s' := (h, 17, [(0, .ref t), (1, .int v)], [.int ((-1))])) rfl ?_
    exact Ev.ret rfl rfl (p_retZ rfl) (k.1 c4)
  · refine Ev.go 1 (s' := (h, 8, [(0, .ref t), (1, .int v)], [.ref t])) rfl ?_
    refine Ev.get rfl (by have := hT.2.2.2.2; omega) hT.1 rfl ?_
    refine Ev.go 1 (s' := (h, 12, [(0, .ref t), (1, .int v)], [.int v, .ref (t + 2)])) rfl ?_
    refine Ev.iald rfl (by have := hT.2.2.2.2; omega) hT.2.2.1 (k.2 c4).1 ?_
    refine Ev.go 1 (s' := (h, 17, [(0, .ref t), (1, .int v)], [.int (parents v.toNatClampNeg)])) rfl ?_
    exact Ev.ret rfl rfl (p_retZ rfl) (k.2 c4).2
theorem spX7_parentOf {d : Nat} {h : pH} {t : Nat} {tags parents spots : Nat → Int32} {bits came kind : Int32} (hT : isT h t tags parents spots bits came kind) (v : Int32) : Ev (d + 1) mX7_parentOf (h, 0, [(0, .ref t), (1, .int v)], []) (fun r h1 => r = some (.int (fX7_parentOf parents v)) ∧ h1 = h) :=
  gX7_parentOf_0 v hT ⟨fun c4 => ⟨congrArg (fun z => some (Value.int z)) (by rw [fX7_parentOf, if_pos c4]), rfl⟩, fun c4 => ⟨(vnX7 c4), ⟨congrArg (fun z => some (Value.int z)) (by rw [fX7_parentOf, if_neg c4]), rfl⟩⟩⟩
def fX7_spotOf (spots : Nat → Int32) (v : Int32) : Int32 := (if (fX7_isNumber v) = 0 then 0 else spots v.toNatClampNeg)
theorem gX7_spotOf_0 {d : Nat} {Q : Option Value → pH → Prop} {h : pH} {t : Nat} {tags parents spots : Nat → Int32} {bits came kind : Int32} (v : Int32) (hT : isT h t tags parents spots bits came kind) (k : (((fX7_isNumber v) = 0 → Q (some (.int 0)) h) ∧ (¬ ((fX7_isNumber v) = 0) → (vp_in v 24 ∧ Q (some (.int (spots v.toNatClampNeg))) h)))) : Ev (d + 1) mX7_spotOf (h, 0, [(0, .ref t), (1, .int v)], []) Q := by
  refine Ev.go 1 (s' := (h, 1, [(0, .ref t), (1, .int v)], [.int v])) rfl ?_
  refine Ev.callE rfl rfl rfl rfl rfl (Nat.le_of_ble_eq_true rfl) (spX7_isNumber v) ?_
  refine Ev.if1 rfl (fun c4 => ?_) (fun c4 => ?_)
  · refine Ev.go 1 (s' := (h, 17, [(0, .ref t), (1, .int v)], [.int 0])) rfl ?_
    exact Ev.ret rfl rfl (p_retZ rfl) (k.1 c4)
  · refine Ev.go 1 (s' := (h, 8, [(0, .ref t), (1, .int v)], [.ref t])) rfl ?_
    refine Ev.get rfl (by have := hT.2.2.2.2; omega) hT.1 rfl ?_
    refine Ev.go 1 (s' := (h, 12, [(0, .ref t), (1, .int v)], [.int v, .ref (t + 3)])) rfl ?_
    refine Ev.iald rfl (by have := hT.2.2.2.2; omega) hT.2.2.2.1 (k.2 c4).1 ?_
    refine Ev.go 1 (s' := (h, 17, [(0, .ref t), (1, .int v)], [.int (spots v.toNatClampNeg)])) rfl ?_
    exact Ev.ret rfl rfl (p_retZ rfl) (k.2 c4).2
theorem spX7_spotOf {d : Nat} {h : pH} {t : Nat} {tags parents spots : Nat → Int32} {bits came kind : Int32} (hT : isT h t tags parents spots bits came kind) (v : Int32) : Ev (d + 1) mX7_spotOf (h, 0, [(0, .ref t), (1, .int v)], []) (fun r h1 => r = some (.int (fX7_spotOf spots v)) ∧ h1 = h) :=
  gX7_spotOf_0 v hT ⟨fun c4 => ⟨congrArg (fun z => some (Value.int z)) (by rw [fX7_spotOf, if_pos c4]), rfl⟩, fun c4 => ⟨(vnX7 c4), ⟨congrArg (fun z => some (Value.int z)) (by rw [fX7_spotOf, if_neg c4]), rfl⟩⟩⟩
