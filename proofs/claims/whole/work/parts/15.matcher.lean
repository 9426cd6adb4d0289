/-! Arrays.fill, bitCount, the Matcher: their methods as functions -/
theorem gJ7_fill_0 {d : Nat} {Q : Option Value → pH → Prop} {h : pH} {t : Nat} {f : Nat → Int64} {x : Int64} (ht : t < pN) (hh : h t = eJ 24 f) (k : Ev d mJ7_fill_d0a16 (h, 6, [(0, .ref t), (1, .long x), (3, .int 0), (4, .int 24)], []) Q) : Ev d mJ7_fill_d0a16 (h, 0, [(0, .ref t), (1, .long x)], []) Q := by
  refine Ev.go 3 (s' := (h, 3, [(0, .ref t), (1, .long x), (3, .int 0)], [.ref t])) rfl ?_
  refine Ev.alen rfl (ht) (congrArg p_len hh) ?_
  refine Ev.go 1 (s' := (h, 6, [(0, .ref t), (1, .long x), (3, .int 0), (4, .int 24)], [])) rfl ?_
  exact k
theorem gJ7_fill_6 {d : Nat} {Q : Option Value → pH → Prop} {h : pH} {t : Nat} {f : Nat → Int64} {x : Int64} {i : Int32} (ht : t < pN) (hh : h t = eJ 24 f) (k : ((24 ≤ i → Q none h) ∧ (¬ (24 ≤ i) → (vp_in i 24 ∧ Ev d mJ7_fill_d0a16 ((pu h t (eJ 24 (vp_updL f i.toNatClampNeg x))), 6, [(0, .ref t), (1, .long x), (3, .int (i + 1)), (4, .int 24)], []) Q)))) : Ev d mJ7_fill_d0a16 (h, 6, [(0, .ref t), (1, .long x), (3, .int i), (4, .int 24)], []) Q := by
  refine Ev.go 2 (s' := (h, 9, [(0, .ref t), (1, .long x), (3, .int i), (4, .int 24)], [.int 24, .int i])) rfl ?_
  refine Ev.if2 rfl (fun c9 => ?_) (fun c9 => ?_)
  · exact Ev.ret rfl rfl rfl (k.1 c9)
  · refine Ev.go 3 (s' := (h, 15, [(0, .ref t), (1, .long x), (3, .int i), (4, .int 24)], [.long x, .int i, .ref t])) rfl ?_
    refine Ev.last rfl (ht) hh (k.2 c9).1 ?_
    refine Ev.go 2 (s' := ((pu h t (eJ 24 (vp_updL f i.toNatClampNeg x))), 6, [(0, .ref t), (1, .long x), (3, .int (i + 1)), (4, .int 24)], [])) rfl ?_
    exact (k.2 c9).2
theorem p_fill_at (f : Nat → Int64) (x : Int64) : ∀ (k : Nat) (g : Nat → Int64), g = (fun j => if j < k then x else f j) → vp_updL g k x = (fun j => if j < k + 1 then x else f j) := fun k g e => by
  subst e
  funext j
  unfold vp_updL
  by_cases h1 : j = k
  · subst h1
    simp
  · simp only [if_neg h1]
    by_cases h2 : j < k
    · rw [if_pos h2, if_pos (by omega)]
    · rw [if_neg h2, if_neg (by omega)]
theorem pu_pu (h : pH) (k : Nat) (a b : pE) : pu (pu h k a) k b = pu h k b := by
  funext j
  unfold pu
  split <;> rfl
theorem llJ7_fill {d t : Nat} {f : Nat → Int64} {x : Int64} (ht : t < pN) : ∀ (m k : Nat) (h h0 : pH), k ≤ 24 → 24 - k = m → h = pu h0 t (eJ 24 (fun j => if j < k then x else f j)) → Ev d mJ7_fill_d0a16 (h, 6, [(0, .ref t), (1, .long x), (3, .int (nI k)), (4, .int 24)], []) (fun r h1 => r = none ∧ h1 = pu h0 t (eJ 24 (p_fill f x)))
  | 0, k, h, h0, h1, h2, he => by
    have ek : k = 24 := by omega
    subst ek
    refine gJ7_fill_6 ht (h := h) (f := fun j => if j < 24 then x else f j) (by rw [he]; exact pu_s) ⟨fun _ => ⟨rfl, he⟩, fun c => absurd (show (24 : Int32) ≤ nI 24 by decide) c⟩
  | m + 1, k, h, h0, h1, h2, he => by
    refine gJ7_fill_6 ht (h := h) (f := fun j => if j < k then x else f j) (by rw [he]; exact pu_s) ⟨fun c => absurd c (nI_ge (show k < 24 by omega) (by decide)), fun _ => ⟨vp_in_nI (show k < 24 by omega) (by decide), ?_⟩⟩
    rw [nI_1]
    refine llJ7_fill ht m (k + 1) _ h0 (by omega) (by omega) ?_
    rw [he, pu_pu, nI_clamp (show k < 2 ^ 31 by omega), p_fill_at f x k _ rfl]
theorem spJ7_fill {d t : Nat} {h : pH} {f : Nat → Int64} (ht : t < pN) (hh : h t = eJ 24 f) (x : Int64) : Ev d mJ7_fill_d0a16 (h, 0, [(0, .ref t), (1, .long x)], []) (fun r h1 => r = none ∧ h1 = pu h t (eJ 24 (p_fill f x))) := by
  refine gJ7_fill_0 ht hh ?_
  refine llJ7_fill ht 24 0 h h (by decide) (by decide) ?_
  funext j
  unfold pu
  split
  · rename_i e
    rw [e, hh]
    congr 2
  · rfl
def fJ6_bitCount_0f7a4 (i : Int32) : Int32 := (((((((i - (((i.toUInt32 >>> (Int32.toUInt32 1 &&& Int32.toUInt32 31)).toInt32) &&& 1431655765)) &&& 858993459) + ((((i - (((i.toUInt32 >>> (Int32.toUInt32 1 &&& Int32.toUInt32 31)).toInt32) &&& 1431655765)).toUInt32 >>> (Int32.toUInt32 2 &&& Int32.toUInt32 31)).toInt32) &&& 858993459)) + (((((i - (((i.toUInt32 >>> (Int32.toUInt32 1 &&& Int32.toUInt32 31)).toInt32) &&& 1431655765)) &&& 858993459) + ((((i - (((i.toUInt32 >>> (Int32.toUInt32 1 &&& Int32.toUInt32 31)).toInt32) &&& 1431655765)).toUInt32 >>> (Int32.toUInt32 2 &&& Int32.toUInt32 31)).toInt32) &&& 858993459)).toUInt32 >>> (Int32.toUInt32 4 &&& Int32.toUInt32 31)).toInt32)) &&& 252645135) + (((((((i - (((i.toUInt32 >>> (Int32.toUInt32 1 &&& Int32.toUInt32 31)).toInt32) &&& 1431655765)) &&& 858993459) + ((((i - (((i.toUInt32 >>> (Int32.toUInt32 1 &&& Int32.toUInt32 31)).toInt32) &&& 1431655765)).toUInt32 >>> (Int32.toUInt32 2 &&& Int32.toUInt32 31)).toInt32) &&& 858993459)) + (((((i - (((i.toUInt32 >>> (Int32.toUInt32 1 &&& Int32.toUInt32 31)).toInt32) &&& 1431655765)) &&& 858993459) + ((((i - (((i.toUInt32 >>> (Int32.toUInt32 1 &&& Int32.toUInt32 31)).toInt32) &&& 1431655765)).toUInt32 >>> (Int32.toUInt32 2 &&& Int32.toUInt32 31)).toInt32) &&& 858993459)).toUInt32 >>> (Int32.toUInt32 4 &&& Int32.toUInt32 31)).toInt32)) &&& 252645135).toUInt32 >>> (Int32.toUInt32 8 &&& Int32.toUInt32 31)).toInt32)) + ((((((((i - (((i.toUInt32 >>> (Int32.toUInt32 1 &&& Int32.toUInt32 31)).toInt32) &&& 1431655765)) &&& 858993459) + ((((i - (((i.toUInt32 >>> (Int32.toUInt32 1 &&& Int32.toUInt32 31)).toInt32) &&& 1431655765)).toUInt32 >>> (Int32.toUInt32 2 &&& Int32.toUInt32 31)).toInt32) &&& 858993459)) + (((((i - (((i.toUInt32 >>> (Int32.toUInt32 1 &&& Int32.toUInt32 31)).toInt32) &&& 1431655765)) &&& 858993459) + ((((i - (((i.toUInt32 >>> (Int32.toUInt32 1 &&& Int32.toUInt32 31)).toInt32) &&& 1431655765)).toUInt32 >>> (Int32.toUInt32 2 &&& Int32.toUInt32 31)).toInt32) &&& 858993459)).toUInt32 >>> (Int32.toUInt32 4 &&& Int32.toUInt32 31)).toInt32)) &&& 252645135) + (((((((i - (((i.toUInt32 >>> (Int32.toUInt32 1 &&& Int32.toUInt32 31)).toInt32) &&& 1431655765)) &&& 858993459) + ((((i - (((i.toUInt32 >>> (Int32.toUInt32 1 &&& Int32.toUInt32 31)).toInt32) &&& 1431655765)).toUInt32 >>> (Int32.toUInt32 2 &&& Int32.toUInt32 31)).toInt32) &&& 858993459)) + (((((i - (((i.toUInt32 >>> (Int32.toUInt32 1 &&& Int32.toUInt32 31)).toInt32) &&& 1431655765)) &&& 858993459) + ((((i - (((i.toUInt32 >>> (Int32.toUInt32 1 &&& Int32.toUInt32 31)).toInt32) &&& 1431655765)).toUInt32 >>> (Int32.toUInt32 2 &&& Int32.toUInt32 31)).toInt32) &&& 858993459)).toUInt32 >>> (Int32.toUInt32 4 &&& Int32.toUInt32 31)).toInt32)) &&& 252645135).toUInt32 >>> (Int32.toUInt32 8 &&& Int32.toUInt32 31)).toInt32)).toUInt32 >>> (Int32.toUInt32 16 &&& Int32.toUInt32 31)).toInt32)) &&& 63
theorem spJ6_bitCount_0f7a4 {d : Nat} {h : pH}  (i : Int32) : Ev d mJ6_bitCount_0f7a4 (h, 0, [(0, .int i)], []) (fun r h1 => r = some (.int (fJ6_bitCount_0f7a4 i)) ∧ h1 = h) := by
  refine Ev.go 41 (s' := (h, 52, [(0, .int (((((((i - (((i.toUInt32 >>> (Int32.toUInt32 1 &&& Int32.toUInt32 31)).toInt32) &&& 1431655765)) &&& 858993459) + ((((i - (((i.toUInt32 >>> (Int32.toUInt32 1 &&& Int32.toUInt32 31)).toInt32) &&& 1431655765)).toUInt32 >>> (Int32.toUInt32 2 &&& Int32.toUInt32 31)).toInt32) &&& 858993459)) + (((((i - (((i.toUInt32 >>> (Int32.toUInt32 1 &&& Int32.toUInt32 31)).toInt32) &&& 1431655765)) &&& 858993459) + ((((i - (((i.toUInt32 >>> (Int32.toUInt32 1 &&& Int32.toUInt32 31)).toInt32) &&& 1431655765)).toUInt32 >>> (Int32.toUInt32 2 &&& Int32.toUInt32 31)).toInt32) &&& 858993459)).toUInt32 >>> (Int32.toUInt32 4 &&& Int32.toUInt32 31)).toInt32)) &&& 252645135) + (((((((i - (((i.toUInt32 >>> (Int32.toUInt32 1 &&& Int32.toUInt32 31)).toInt32) &&& 1431655765)) &&& 858993459) + ((((i - (((i.toUInt32 >>> (Int32.toUInt32 1 &&& Int32.toUInt32 31)).toInt32) &&& 1431655765)).toUInt32 >>> (Int32.toUInt32 2 &&& Int32.toUInt32 31)).toInt32) &&& 858993459)) + (((((i - (((i.toUInt32 >>> (Int32.toUInt32 1 &&& Int32.toUInt32 31)).toInt32) &&& 1431655765)) &&& 858993459) + ((((i - (((i.toUInt32 >>> (Int32.toUInt32 1 &&& Int32.toUInt32 31)).toInt32) &&& 1431655765)).toUInt32 >>> (Int32.toUInt32 2 &&& Int32.toUInt32 31)).toInt32) &&& 858993459)).toUInt32 >>> (Int32.toUInt32 4 &&& Int32.toUInt32 31)).toInt32)) &&& 252645135).toUInt32 >>> (Int32.toUInt32 8 &&& Int32.toUInt32 31)).toInt32)) + ((((((((i - (((i.toUInt32 >>> (Int32.toUInt32 1 &&& Int32.toUInt32 31)).toInt32) &&& 1431655765)) &&& 858993459) + ((((i - (((i.toUInt32 >>> (Int32.toUInt32 1 &&& Int32.toUInt32 31)).toInt32) &&& 1431655765)).toUInt32 >>> (Int32.toUInt32 2 &&& Int32.toUInt32 31)).toInt32) &&& 858993459)) + (((((i - (((i.toUInt32 >>> (Int32.toUInt32 1 &&& Int32.toUInt32 31)).toInt32) &&& 1431655765)) &&& 858993459) + ((((i - (((i.toUInt32 >>> (Int32.toUInt32 1 &&& Int32.toUInt32 31)).toInt32) &&& 1431655765)).toUInt32 >>> (Int32.toUInt32 2 &&& Int32.toUInt32 31)).toInt32) &&& 858993459)).toUInt32 >>> (Int32.toUInt32 4 &&& Int32.toUInt32 31)).toInt32)) &&& 252645135) + (((((((i - (((i.toUInt32 >>> (Int32.toUInt32 1 &&& Int32.toUInt32 31)).toInt32) &&& 1431655765)) &&& 858993459) + ((((i - (((i.toUInt32 >>> (Int32.toUInt32 1 &&& Int32.toUInt32 31)).toInt32) &&& 1431655765)).toUInt32 >>> (Int32.toUInt32 2 &&& Int32.toUInt32 31)).toInt32) &&& 858993459)) + (((((i - (((i.toUInt32 >>> (Int32.toUInt32 1 &&& Int32.toUInt32 31)).toInt32) &&& 1431655765)) &&& 858993459) + ((((i - (((i.toUInt32 >>> (Int32.toUInt32 1 &&& Int32.toUInt32 31)).toInt32) &&& 1431655765)).toUInt32 >>> (Int32.toUInt32 2 &&& Int32.toUInt32 31)).toInt32) &&& 858993459)).toUInt32 >>> (Int32.toUInt32 4 &&& Int32.toUInt32 31)).toInt32)) &&& 252645135).toUInt32 >>> (Int32.toUInt32 8 &&& Int32.toUInt32 31)).toInt32)).toUInt32 >>> (Int32.toUInt32 16 &&& Int32.toUInt32 31)).toInt32)))], [.int ((((((((i - (((i.toUInt32 >>> (Int32.toUInt32 1 &&& Int32.toUInt32 31)).toInt32) &&& 1431655765)) &&& 858993459) + ((((i - (((i.toUInt32 >>> (Int32.toUInt32 1 &&& Int32.toUInt32 31)).toInt32) &&& 1431655765)).toUInt32 >>> (Int32.toUInt32 2 &&& Int32.toUInt32 31)).toInt32) &&& 858993459)) + (((((i - (((i.toUInt32 >>> (Int32.toUInt32 1 &&& Int32.toUInt32 31)).toInt32) &&& 1431655765)) &&& 858993459) + ((((i - (((i.toUInt32 >>> (Int32.toUInt32 1 &&& Int32.toUInt32 31)).toInt32) &&& 1431655765)).toUInt32 >>> (Int32.toUInt32 2 &&& Int32.toUInt32 31)).toInt32) &&& 858993459)).toUInt32 >>> (Int32.toUInt32 4 &&& Int32.toUInt32 31)).toInt32)) &&& 252645135) + (((((((i - (((i.toUInt32 >>> (Int32.toUInt32 1 &&& Int32.toUInt32 31)).toInt32) &&& 1431655765)) &&& 858993459) + ((((i - (((i.toUInt32 >>> (Int32.toUInt32 1 &&& Int32.toUInt32 31)).toInt32) &&& 1431655765)).toUInt32 >>> (Int32.toUInt32 2 &&& Int32.toUInt32 31)).toInt32) &&& 858993459)) + (((((i - (((i.toUInt32 >>> (Int32.toUInt32 1 &&& Int32.toUInt32 31)).toInt32) &&& 1431655765)) &&& 858993459) + ((((i - (((i.toUInt32 >>> (Int32.toUInt32 1 &&& Int32.toUInt32 31)).toInt32) &&& 1431655765)).toUInt32 >>> (Int32.toUInt32 2 &&& Int32.toUInt32 31)).toInt32) &&& 858993459)).toUInt32 >>> (Int32.toUInt32 4 &&& Int32.toUInt32 31)).toInt32)) &&& 252645135).toUInt32 >>> (Int32.toUInt32 8 &&& Int32.toUInt32 31)).toInt32)) + ((((((((i - (((i.toUInt32 >>> (Int32.toUInt32 1 &&& Int32.toUInt32 31)).toInt32) &&& 1431655765)) &&& 858993459) + ((((i - (((i.toUInt32 >>> (Int32.toUInt32 1 &&& Int32.toUInt32 31)).toInt32) &&& 1431655765)).toUInt32 >>> (Int32.toUInt32 2 &&& Int32.toUInt32 31)).toInt32) &&& 858993459)) + (((((i - (((i.toUInt32 >>> (Int32.toUInt32 1 &&& Int32.toUInt32 31)).toInt32) &&& 1431655765)) &&& 858993459) + ((((i - (((i.toUInt32 >>> (Int32.toUInt32 1 &&& Int32.toUInt32 31)).toInt32) &&& 1431655765)).toUInt32 >>> (Int32.toUInt32 2 &&& Int32.toUInt32 31)).toInt32) &&& 858993459)).toUInt32 >>> (Int32.toUInt32 4 &&& Int32.toUInt32 31)).toInt32)) &&& 252645135) + (((((((i - (((i.toUInt32 >>> (Int32.toUInt32 1 &&& Int32.toUInt32 31)).toInt32) &&& 1431655765)) &&& 858993459) + ((((i - (((i.toUInt32 >>> (Int32.toUInt32 1 &&& Int32.toUInt32 31)).toInt32) &&& 1431655765)).toUInt32 >>> (Int32.toUInt32 2 &&& Int32.toUInt32 31)).toInt32) &&& 858993459)) + (((((i - (((i.toUInt32 >>> (Int32.toUInt32 1 &&& Int32.toUInt32 31)).toInt32) &&& 1431655765)) &&& 858993459) + ((((i - (((i.toUInt32 >>> (Int32.toUInt32 1 &&& Int32.toUInt32 31)).toInt32) &&& 1431655765)).toUInt32 >>> (Int32.toUInt32 2 &&& Int32.toUInt32 31)).toInt32) &&& 858993459)).toUInt32 >>> (Int32.toUInt32 4 &&& Int32.toUInt32 31)).toInt32)) &&& 252645135).toUInt32 >>> (Int32.toUInt32 8 &&& Int32.toUInt32 31)).toInt32)).toUInt32 >>> (Int32.toUInt32 16 &&& Int32.toUInt32 31)).toInt32)) &&& 63)])) rfl ?_
  exact Ev.ret rfl rfl (p_retZ rfl) ⟨congrArg (fun z => some (Value.int z)) (by rw [fJ6_bitCount_0f7a4]), rfl⟩
def fX2_sourceOf (G : tG) (q : Int32) (k : Int32) (O : tO) (S : tS) : Option (Int32) := ((fX5_axisOf S q).bind fun y2 => (if y2 = 0 then ((fX3_parentAt O k).bind fun y5 => some y5) else (if ¬ y2 = 1 then ((fX3_elderAt O k).bind fun y8 => some y8) else ((fX3_parentAt O k).bind fun y10 => some y10))))
theorem spX2_sourceOf {d : Nat} {h : pH} {G : tG} {O : tO} {S : tS} (xG : isG h G) (xO : isO h O) (xS : isS h 36 S) (q : Int32) (k : Int32) {res : Int32} (H : fX2_sourceOf G q k O S = some res) : Ev (d + 2) mX2_sourceOf (h, 0, [(0, .ref 44), (1, .int q), (2, .int k)], []) (fun r h1 => r = some (.int res) ∧ h1 = h) := by
  unfold fX2_sourceOf at H
  refine Ev.go 1 (s' := (h, 1, [(0, .ref 44), (1, .int q), (2, .int k)], [.ref 44])) rfl ?_
  refine Ev.get rfl (by decide) xG.1 rfl ?_
  refine Ev.go 1 (s' := (h, 5, [(0, .ref 44), (1, .int q), (2, .int k)], [.int q, .ref 36])) rfl ?_
  obtain ⟨y2, e1, H⟩ := Option.bind_eq_some_iff.mp H
  refine Ev.callE rfl rfl rfl (p_argsV (by decide) xS.1 (Nat.le_of_ble_eq_true rfl)) rfl (Nat.le_of_ble_eq_true rfl) (spX5_axisOf xS q e1) ?_
  refine Ev.go 2 (s' := (h, 10, [(0, .ref 44), (1, .int q), (2, .int k), (3, .int y2)], [.int y2])) rfl ?_
  refine Ev.if1 rfl (fun c3 => ?_) (fun c3 => ?_)
  · have c3 : y2 = 0 := c3
    rw [if_pos c3] at H
    refine Ev.go 1 (s' := (h, 19, [(0, .ref 44), (1, .int q), (2, .int k), (3, .int y2)], [.ref 44])) rfl ?_
    refine Ev.get rfl (by decide) xG.1 rfl ?_
    refine Ev.go 1 (s' := (h, 23, [(0, .ref 44), (1, .int q), (2, .int k), (3, .int y2)], [.int k, .ref 15])) rfl ?_
    obtain ⟨y5, e4, H⟩ := Option.bind_eq_some_iff.mp H
    refine Ev.callE rfl rfl rfl (p_argsV (by decide) xO.1 (Nat.le_of_ble_eq_true rfl)) rfl (Nat.le_of_ble_eq_true rfl) (spX3_parentAt xO k e4) ?_
    refine Ev.go 1 (s' := (h, 37, [(0, .ref 44), (1, .int q), (2, .int k), (3, .int y2)], [.int y5])) rfl ?_
    have H := Option.some.inj H
    subst H
    exact Ev.ret rfl rfl (p_retZ rfl) ⟨rfl, rfl⟩
  · have c3 : ¬ (y2 = 0) := c3
    rw [if_neg c3] at H
    refine Ev.go 2 (s' := (h, 15, [(0, .ref 44), (1, .int q), (2, .int k), (3, .int y2)], [.int 1, .int y2])) rfl ?_
    refine Ev.if2 rfl (fun c6 => ?_) (fun c6 => ?_)
    · have c6 : ¬ y2 = 1 := c6
      rw [if_pos c6] at H
      refine Ev.go 1 (s' := (h, 30, [(0, .ref 44), (1, .int q), (2, .int k), (3, .int y2)], [.ref 44])) rfl ?_
      refine Ev.get rfl (by decide) xG.1 rfl ?_
      refine Ev.go 1 (s' := (h, 34, [(0, .ref 44), (1, .int q), (2, .int k), (3, .int y2)], [.int k, .ref 15])) rfl ?_
      obtain ⟨y8, e7, H⟩ := Option.bind_eq_some_iff.mp H
      refine Ev.callE rfl rfl rfl (p_argsV (by decide) xO.1 (Nat.le_of_ble_eq_true rfl)) rfl (Nat.le_of_ble_eq_true rfl) (spX3_elderAt xO k e7) ?_
      have H := Option.some.inj H
      subst H
      exact Ev.ret rfl rfl (p_retZ rfl) ⟨rfl, rfl⟩
    · have c6 : ¬ (¬ y2 = 1) := c6
      rw [if_neg c6] at H
      refine Ev.go 1 (s' := (h, 19, [(0, .ref 44), (1, .int q), (2, .int k), (3, .int y2)], [.ref 44])) rfl ?_
      refine Ev.get rfl (by decide) xG.1 rfl ?_
      refine Ev.go 1 (s' := (h, 23, [(0, .ref 44), (1, .int q), (2, .int k), (3, .int y2)], [.int k, .ref 15])) rfl ?_
      obtain ⟨y10, e9, H⟩ := Option.bind_eq_some_iff.mp H
      refine Ev.callE rfl rfl rfl (p_argsV (by decide) xO.1 (Nat.le_of_ble_eq_true rfl)) rfl (Nat.le_of_ble_eq_true rfl) (spX3_parentAt xO k e9) ?_
      refine Ev.go 1 (s' := (h, 37, [(0, .ref 44), (1, .int q), (2, .int k), (3, .int y2)], [.int y10])) rfl ?_
      have H := Option.some.inj H
      subst H
      exact Ev.ret rfl rfl (p_retZ rfl) ⟨rfl, rfl⟩
def fX2_reachesOn (G : tG) (q : Int32) (S : tS) : Option (Int32) := ((fX5_axisOf S q).bind fun y2 => (if y2 = 1 then some 1 else (if ¬ y2 = 3 then some 0 else some 1)))
theorem spX2_reachesOn {d : Nat} {h : pH} {G : tG} {S : tS} (xG : isG h G) (xS : isS h 36 S) (q : Int32) {res : Int32} (H : fX2_reachesOn G q S = some res) : Ev (d + 2) mX2_reachesOn (h, 0, [(0, .ref 44), (1, .int q)], []) (fun r h1 => r = some (.int res) ∧ h1 = h) := by
  unfold fX2_reachesOn at H
  refine Ev.go 1 (s' := (h, 1, [(0, .ref 44), (1, .int q)], [.ref 44])) rfl ?_
  refine Ev.get rfl (by decide) xG.1 rfl ?_
  refine Ev.go 1 (s' := (h, 5, [(0, .ref 44), (1, .int q)], [.int q, .ref 36])) rfl ?_
  obtain ⟨y2, e1, H⟩ := Option.bind_eq_some_iff.mp H
  refine Ev.callE rfl rfl rfl (p_argsV (by decide) xS.1 (Nat.le_of_ble_eq_true rfl)) rfl (Nat.le_of_ble_eq_true rfl) (spX5_axisOf xS q e1) ?_
  refine Ev.go 3 (s' := (h, 11, [(0, .ref 44), (1, .int q), (2, .int y2)], [.int 1, .int y2])) rfl ?_
  refine Ev.if2 rfl (fun c3 => ?_) (fun c3 => ?_)
  · have c3 : y2 = 1 := c3
    rw [if_pos c3] at H
    refine Ev.go 2 (s' := (h, 24, [(0, .ref 44), (1, .int q), (2, .int y2)], [.int 1])) rfl ?_
    have H := Option.some.inj H
    subst H
    exact Ev.ret rfl rfl (p_retZ rfl) ⟨rfl, rfl⟩
  · have c3 : ¬ (y2 = 1) := c3
    rw [if_neg c3] at H
    refine Ev.go 2 (s' := (h, 16, [(0, .ref 44), (1, .int q), (2, .int y2)], [.int 3, .int y2])) rfl ?_
    refine Ev.if2 rfl (fun c4 => ?_) (fun c4 => ?_)
    · have c4 : ¬ y2 = 3 := c4
      rw [if_pos c4] at H
      refine Ev.go 1 (s' := (h, 24, [(0, .ref 44), (1, .int q), (2, .int y2)], [.int 0])) rfl ?_
      have H := Option.some.inj H
      subst H
      exact Ev.ret rfl rfl (p_retZ rfl) ⟨rfl, rfl⟩
    · have c4 : ¬ (¬ y2 = 3) := c4
      rw [if_neg c4] at H
      refine Ev.go 2 (s' := (h, 24, [(0, .ref 44), (1, .int q), (2, .int y2)], [.int 1])) rfl ?_
      have H := Option.some.inj H
      subst H
      exact Ev.ret rfl rfl (p_retZ rfl) ⟨rfl, rfl⟩
def lX2_total_4 (n : Nat) (G : tG) (O : tO) : Nat → Int64 → Int32 → Option (Int64)
  | 0, _, _ => none
  | m + 1, x1, x3 => (if (fX3_size O) ≤ x3 then some x1 else (if x3 < 0 ∨ 24 ≤ x3.toNatClampNeg then none else lX2_total_4 n G O m (x1 + ((G.1 0) x3.toNatClampNeg)) (x3 + 1)))
theorem llX2_total_4 {d n : Nat} {G : tG} {O : tO} : ∀ (m : Nat) (h : pH) (x1 : Int64) (x3 : Int32) (res : Int64), lX2_total_4 n G O m x1 x3 = some res → isG h G → isO h O → Ev (d + 1) mX2_total (h, 4, [(0, .ref 44), (1, .long x1), (3, .int x3)], []) (fun r h1 => r = some (.long res) ∧ h1 = h)
  | 0, h, x1, x3, res, H, _, _ => by cases H
  | m + 1, h, x1, x3, res, H, xG, xO => by
    have H : (if (fX3_size O) ≤ x3 then some x1 else (if x3 < 0 ∨ 24 ≤ x3.toNatClampNeg then none else lX2_total_4 n G O m (x1 + ((G.1 0) x3.toNatClampNeg)) (x3 + 1))) = some res := H
    refine Ev.go 2 (s' := (h, 6, [(0, .ref 44), (1, .long x1), (3, .int x3)], [.ref 44, .int x3])) rfl ?_
    refine Ev.get rfl (by decide) xG.1 rfl ?_
    refine Ev.callE rfl rfl rfl (p_argsV (by decide) xO.1 (Nat.le_of_ble_eq_true rfl)) rfl (Nat.le_of_ble_eq_true rfl) (spX3_size xO ) ?_
    refine Ev.if2 rfl (fun c1 => ?_) (fun c1 => ?_)
    · have c1 : (fX3_size O) ≤ x3 := c1
      rw [if_pos c1] at H
      refine Ev.go 1 (s' := (h, 33, [(0, .ref 44), (1, .long x1), (3, .int x3)], [.long x1])) rfl ?_
      have H := Option.some.inj H
      subst H
      exact Ev.ret rfl rfl rfl ⟨rfl, rfl⟩
    · have c1 : ¬ ((fX3_size O) ≤ x3) := c1
      rw [if_neg c1] at H
      refine Ev.go 2 (s' := (h, 17, [(0, .ref 44), (1, .long x1), (3, .int x3)], [.ref 44, .long x1])) rfl ?_
      refine Ev.get rfl (by decide) xG.1 rfl ?_
      refine Ev.go 1 (s' := (h, 21, [(0, .ref 44), (1, .long x1), (3, .int x3)], [.int 0, .ref 45, .long x1])) rfl ?_
      refine Ev.aald rfl (by decide) xG.2.1 (by unfold vp_in; decide) (p_rowAt (by unfold vp_in; decide)) ?_
      refine Ev.go 1 (s' := (h, 23, [(0, .ref 44), (1, .long x1), (3, .int x3)], [.int x3, .ref 46, .long x1])) rfl ?_
      have v2 : vp_in x3 24 := fun q => by rw [if_pos q] at H; cases H
      rw [if_neg v2] at H
      refine Ev.lald rfl (by decide) (xG.2.2.1 0 (by decide)) v2 ?_
      refine Ev.go 4 (s' := (h, 4, [(0, .ref 44), (1, .long (x1 + ((G.1 0) x3.toNatClampNeg))), (3, .int (x3 + 1))], [])) rfl ?_
      refine Ev.live rfl (lv' := [(0, .ref 44), (1, .long (x1 + ((G.1 0) x3.toNatClampNeg))), (3, .int (x3 + 1))]) rfl ?_
      exact llX2_total_4 m h (x1 + ((G.1 0) x3.toNatClampNeg)) (x3 + 1) _ H xG xO
def fX2_total (n : Nat) (G : tG) (O : tO) : Option (Int64) := lX2_total_4 n G O n 0 0
theorem spX2_total {d n : Nat} {h : pH} {G : tG} {O : tO} (xG : isG h G) (xO : isO h O) {res : Int64} (H : fX2_total n G O = some res) : Ev (d + 1) mX2_total (h, 0, [(0, .ref 44)], []) (fun r h1 => r = some (.long res) ∧ h1 = h) := by
  unfold fX2_total at H
  refine Ev.go 4 (s' := (h, 4, [(0, .ref 44), (1, .long 0), (3, .int 0)], [])) rfl ?_
  refine Ev.live rfl (lv' := [(0, .ref 44), (1, .long 0), (3, .int 0)]) rfl ?_
  exact llX2_total_4 n h 0 0 _ H xG xO
def fX2_ways (G : tG) (q : Int32) (k : Int32) : Option (Int64) := (if q < 0 then some 0 else (if 8 ≤ q then some 0 else (if k < 0 then some 0 else (if k < 24 then (if q < 0 ∨ 8 ≤ q.toNatClampNeg then none else (if k < 0 ∨ 24 ≤ k.toNatClampNeg then none else some (((G.1 q.toNatClampNeg) k.toNatClampNeg) * ((G.2.2.1 q.toNatClampNeg) k.toNatClampNeg)))) else some 0))))
theorem spX2_ways {d : Nat} {h : pH} {G : tG} (xG : isG h G) (q : Int32) (k : Int32) {res : Int64} (H : fX2_ways G q k = some res) : Ev d mX2_ways (h, 0, [(0, .ref 44), (1, .int q), (2, .int k)], []) (fun r h1 => r = some (.long res) ∧ h1 = h) := by
  unfold fX2_ways at H
  refine Ev.go 1 (s' := (h, 1, [(0, .ref 44), (1, .int q), (2, .int k)], [.int q])) rfl ?_
  refine Ev.if1 rfl (fun c1 => ?_) (fun c1 => ?_)
  · have c1 : q < 0 := c1
    rw [if_pos c1] at H
    refine Ev.go 1 (s' := (h, 21, [(0, .ref 44), (1, .int q), (2, .int k)], [.long 0])) rfl ?_
    have H := Option.some.inj H
    subst H
    exact Ev.ret rfl rfl rfl ⟨rfl, rfl⟩
  · have c1 : ¬ (q < 0) := c1
    rw [if_neg c1] at H
    refine Ev.go 2 (s' := (h, 7, [(0, .ref 44), (1, .int q), (2, .int k)], [.int 8, .int q])) rfl ?_
    refine Ev.if2 rfl (fun c2 => ?_) (fun c2 => ?_)
    · have c2 : 8 ≤ q := c2
      rw [if_pos c2] at H
      refine Ev.go 1 (s' := (h, 21, [(0, .ref 44), (1, .int q), (2, .int k)], [.long 0])) rfl ?_
      have H := Option.some.inj H
      subst H
      exact Ev.ret rfl rfl rfl ⟨rfl, rfl⟩
    · have c2 : ¬ (8 ≤ q) := c2
      rw [if_neg c2] at H
      refine Ev.go 1 (s' := (h, 11, [(0, .ref 44), (1, .int q), (2, .int k)], [.int k])) rfl ?_
      refine Ev.if1 rfl (fun c3 => ?_) (fun c3 => ?_)
      · have c3 : k < 0 := c3
        rw [if_pos c3] at H
        refine Ev.go 1 (s' := (h, 21, [(0, .ref 44), (1, .int q), (2, .int k)], [.long 0])) rfl ?_
        have H := Option.some.inj H
        subst H
        exact Ev.ret rfl rfl rfl ⟨rfl, rfl⟩
      · have c3 : ¬ (k < 0) := c3
        rw [if_neg c3] at H
        refine Ev.go 2 (s' := (h, 17, [(0, .ref 44), (1, .int q), (2, .int k)], [.int 24, .int k])) rfl ?_
        refine Ev.if2 rfl (fun c4 => ?_) (fun c4 => ?_)
        · have c4 : k < 24 := c4
          rw [if_pos c4] at H
          refine Ev.go 1 (s' := (h, 23, [(0, .ref 44), (1, .int q), (2, .int k)], [.ref 44])) rfl ?_
          refine Ev.get rfl (by decide) xG.1 rfl ?_
          refine Ev.go 1 (s' := (h, 27, [(0, .ref 44), (1, .int q), (2, .int k)], [.int q, .ref 45])) rfl ?_
          have v5 : vp_in q 8 := fun q => by rw [if_pos q] at H; cases H
          rw [if_neg v5] at H
          refine Ev.aald rfl (by decide) xG.2.1 v5 (p_rowAt v5) ?_
          have := vp_lt v5
          refine Ev.go 1 (s' := (h, 29, [(0, .ref 44), (1, .int q), (2, .int k)], [.int k, .ref (46 + q.toNatClampNeg)])) rfl ?_
          have v6 : vp_in k 24 := fun q => by rw [if_pos q] at H; cases H
          rw [if_neg v6] at H
          refine Ev.lald rfl (by show _ < 89; omega) (xG.2.2.1 q.toNatClampNeg (vp_lt v5)) v6 ?_
          refine Ev.go 1 (s' := (h, 31, [(0, .ref 44), (1, .int q), (2, .int k)], [.ref 44, .long ((G.1 q.toNatClampNeg) k.toNatClampNeg)])) rfl ?_
          refine Ev.get rfl (by decide) xG.1 rfl ?_
          refine Ev.go 1 (s' := (h, 35, [(0, .ref 44), (1, .int q), (2, .int k)], [.int q, .ref 63, .long ((G.1 q.toNatClampNeg) k.toNatClampNeg)])) rfl ?_
          refine Ev.aald rfl (by decide) xG.2.2.2.2.2.1 v5 (p_rowAt v5) ?_
          have := vp_lt v5
          refine Ev.go 1 (s' := (h, 37, [(0, .ref 44), (1, .int q), (2, .int k)], [.int k, .ref (64 + q.toNatClampNeg), .long ((G.1 q.toNatClampNeg) k.toNatClampNeg)])) rfl ?_
          refine Ev.lald rfl (by show _ < 89; omega) (xG.2.2.2.2.2.2.1 q.toNatClampNeg (vp_lt v5)) v6 ?_
          refine Ev.go 1 (s' := (h, 39, [(0, .ref 44), (1, .int q), (2, .int k)], [.long (((G.1 q.toNatClampNeg) k.toNatClampNeg) * ((G.2.2.1 q.toNatClampNeg) k.toNatClampNeg))])) rfl ?_
          have H := Option.some.inj H
          subst H
          exact Ev.ret rfl rfl rfl ⟨rfl, rfl⟩
        · have c4 : ¬ (k < 24) := c4
          rw [if_neg c4] at H
          refine Ev.go 1 (s' := (h, 21, [(0, .ref 44), (1, .int q), (2, .int k)], [.long 0])) rfl ?_
          have H := Option.some.inj H
          subst H
          exact Ev.ret rfl rfl rfl ⟨rfl, rfl⟩
def lX2_product_36 (n : Nat) (G : tG) (T : tT) (O : tO) (S : tS) : Nat → Int32 → Int32 → Int32 → Int64 → Int32 → Option (Int64)
  | 0, _, _, _, _, _ => none
  | m + 1, x1, x2, x3, x4, x6 => (if (fX5_size S) ≤ x6 then some x4 else (if x6 = x2 then lX2_product_36 n G T O S m x1 x2 x3 x4 (x6 + 1) else ((fX5_hangOf S x6).bind fun y9 => (if ¬ y9 = x1 then lX2_product_36 n G T O S m x1 x2 x3 x4 (x6 + 1) else (if x6 < 0 ∨ 8 ≤ x6.toNatClampNeg then none else (if x3 < 0 ∨ 24 ≤ x3.toNatClampNeg then none else lX2_product_36 n G T O S m x1 x2 x3 (x4 * ((G.2.1 x6.toNatClampNeg) x3.toNatClampNeg)) (x6 + 1)))))))
theorem llX2_product_36 {d n : Nat} {G : tG} {T : tT} {O : tO} {S : tS} : ∀ (m : Nat) (h : pH) (x1 : Int32) (x2 : Int32) (x3 : Int32) (x4 : Int64) (x6 : Int32) (res : Int64), lX2_product_36 n G T O S m x1 x2 x3 x4 x6 = some res → isG h G → isT h 7 T → isO h O → isS h 36 S → Ev (d + 2) mX2_product (h, 36, [(0, .ref 44), (1, .int x1), (2, .int x2), (3, .int x3), (4, .long x4), (6, .int x6)], []) (fun r h1 => r = some (.long res) ∧ h1 = h)
  | 0, h, x1, x2, x3, x4, x6, res, H, _, _, _, _ => by cases H
  | m + 1, h, x1, x2, x3, x4, x6, res, H, xG, xT, xO, xS => by
    have H : (if (fX5_size S) ≤ x6 then some x4 else (if x6 = x2 then lX2_product_36 n G T O S m x1 x2 x3 x4 (x6 + 1) else ((fX5_hangOf S x6).bind fun y9 => (if ¬ y9 = x1 then lX2_product_36 n G T O S m x1 x2 x3 x4 (x6 + 1) else (if x6 < 0 ∨ 8 ≤ x6.toNatClampNeg then none else (if x3 < 0 ∨ 24 ≤ x3.toNatClampNeg then none else lX2_product_36 n G T O S m x1 x2 x3 (x4 * ((G.2.1 x6.toNatClampNeg) x3.toNatClampNeg)) (x6 + 1))))))) = some res := H
    refine Ev.go 2 (s' := (h, 39, [(0, .ref 44), (1, .int x1), (2, .int x2), (3, .int x3), (4, .long x4), (6, .int x6)], [.ref 44, .int x6])) rfl ?_
    refine Ev.get rfl (by decide) xG.1 rfl ?_
    refine Ev.callE rfl rfl rfl (p_argsV (by decide) xS.1 (Nat.le_of_ble_eq_true rfl)) rfl (Nat.le_of_ble_eq_true rfl) (spX5_size xS ) ?_
    refine Ev.if2 rfl (fun c6 => ?_) (fun c6 => ?_)
    · have c6 : (fX5_size S) ≤ x6 := c6
      rw [if_pos c6] at H
      refine Ev.go 1 (s' := (h, 89, [(0, .ref 44), (1, .int x1), (2, .int x2), (3, .int x3), (4, .long x4), (6, .int x6)], [.long x4])) rfl ?_
      have H := Option.some.inj H
      subst H
      exact Ev.ret rfl rfl rfl ⟨rfl, rfl⟩
    · have c6 : ¬ ((fX5_size S) ≤ x6) := c6
      rw [if_neg c6] at H
      refine Ev.go 2 (s' := (h, 51, [(0, .ref 44), (1, .int x1), (2, .int x2), (3, .int x3), (4, .long x4), (6, .int x6)], [.int x2, .int x6])) rfl ?_
      refine Ev.if2 rfl (fun c7 => ?_) (fun c7 => ?_)
      · have c7 : x6 = x2 := c7
        rw [if_pos c7] at H
        refine Ev.go 2 (s' := (h, 36, [(0, .ref 44), (1, .int x1), (2, .int x2), (3, .int x3), (4, .long x4), (6, .int (x6 + 1))], [])) rfl ?_
        refine Ev.live rfl (lv' := [(0, .ref 44), (1, .int x1), (2, .int x2), (3, .int x3), (4, .long x4), (6, .int (x6 + 1))]) rfl ?_
        exact llX2_product_36 m h x1 x2 x3 x4 (x6 + 1) _ H xG xT xO xS
      · have c7 : ¬ (x6 = x2) := c7
        rw [if_neg c7] at H
        refine Ev.go 1 (s' := (h, 55, [(0, .ref 44), (1, .int x1), (2, .int x2), (3, .int x3), (4, .long x4), (6, .int x6)], [.ref 44])) rfl ?_
        refine Ev.get rfl (by decide) xG.1 rfl ?_
        refine Ev.go 1 (s' := (h, 60, [(0, .ref 44), (1, .int x1), (2, .int x2), (3, .int x3), (4, .long x4), (6, .int x6)], [.int x6, .ref 36])) rfl ?_
        obtain ⟨y9, e8, H⟩ := Option.bind_eq_some_iff.mp H
        refine Ev.callE rfl rfl rfl (p_argsV (by decide) xS.1 (Nat.le_of_ble_eq_true rfl)) rfl (Nat.le_of_ble_eq_true rfl) (spX5_hangOf xS x6 e8) ?_
        refine Ev.go 1 (s' := (h, 64, [(0, .ref 44), (1, .int x1), (2, .int x2), (3, .int x3), (4, .long x4), (6, .int x6)], [.int x1, .int y9])) rfl ?_
        refine Ev.if2 rfl (fun c10 => ?_) (fun c10 => ?_)
        · have c10 : ¬ y9 = x1 := c10
          rw [if_pos c10] at H
          refine Ev.go 2 (s' := (h, 36, [(0, .ref 44), (1, .int x1), (2, .int x2), (3, .int x3), (4, .long x4), (6, .int (x6 + 1))], [])) rfl ?_
          refine Ev.live rfl (lv' := [(0, .ref 44), (1, .int x1), (2, .int x2), (3, .int x3), (4, .long x4), (6, .int (x6 + 1))]) rfl ?_
          exact llX2_product_36 m h x1 x2 x3 x4 (x6 + 1) _ H xG xT xO xS
        · have c10 : ¬ (¬ y9 = x1) := c10
          rw [if_neg c10] at H
          refine Ev.go 2 (s' := (h, 70, [(0, .ref 44), (1, .int x1), (2, .int x2), (3, .int x3), (4, .long x4), (6, .int x6)], [.ref 44, .long x4])) rfl ?_
          refine Ev.get rfl (by decide) xG.1 rfl ?_
          refine Ev.go 1 (s' := (h, 75, [(0, .ref 44), (1, .int x1), (2, .int x2), (3, .int x3), (4, .long x4), (6, .int x6)], [.int x6, .ref 54, .long x4])) rfl ?_
          have v11 : vp_in x6 8 := fun q => by rw [if_pos q] at H; cases H
          rw [if_neg v11] at H
          refine Ev.aald rfl (by decide) xG.2.2.2.1 v11 (p_rowAt v11) ?_
          have := vp_lt v11
          refine Ev.go 1 (s' := (h, 77, [(0, .ref 44), (1, .int x1), (2, .int x2), (3, .int x3), (4, .long x4), (6, .int x6)], [.int x3, .ref (55 + x6.toNatClampNeg), .long x4])) rfl ?_
          have v12 : vp_in x3 24 := fun q => by rw [if_pos q] at H; cases H
          rw [if_neg v12] at H
          refine Ev.lald rfl (by show _ < 89; omega) (xG.2.2.2.2.1 x6.toNatClampNeg (vp_lt v11)) v12 ?_
          refine Ev.go 4 (s' := (h, 36, [(0, .ref 44), (1, .int x1), (2, .int x2), (3, .int x3), (4, .long (x4 * ((G.2.1 x6.toNatClampNeg) x3.toNatClampNeg))), (6, .int (x6 + 1))], [])) rfl ?_
          refine Ev.live rfl (lv' := [(0, .ref 44), (1, .int x1), (2, .int x2), (3, .int x3), (4, .long (x4 * ((G.2.1 x6.toNatClampNeg) x3.toNatClampNeg))), (6, .int (x6 + 1))]) rfl ?_
          exact llX2_product_36 m h x1 x2 x3 (x4 * ((G.2.1 x6.toNatClampNeg) x3.toNatClampNeg)) (x6 + 1) _ H xG xT xO xS
def fX2_product (n : Nat) (G : tG) (q : Int32) (without : Int32) (k : Int32) (T : tT) (O : tO) (S : tS) : Option (Int64) := ((fX3_nodeAt O k).bind fun y2 => ((fX5_fits S q (fX7_tagOf T y2)).bind fun y4 => (if ¬ y4 = 0 then lX2_product_36 n G T O S n q without k 1 (q + 1) else some 0)))
theorem spX2_product {d n : Nat} {h : pH} {G : tG} {T : tT} {O : tO} {S : tS} (xG : isG h G) (xT : isT h 7 T) (xO : isO h O) (xS : isS h 36 S) (q : Int32) (without : Int32) (k : Int32) {res : Int64} (H : fX2_product n G q without k T O S = some res) : Ev (d + 2) mX2_product (h, 0, [(0, .ref 44), (1, .int q), (2, .int without), (3, .int k)], []) (fun r h1 => r = some (.long res) ∧ h1 = h) := by
  unfold fX2_product at H
  refine Ev.go 1 (s' := (h, 1, [(0, .ref 44), (1, .int q), (2, .int without), (3, .int k)], [.ref 44])) rfl ?_
  refine Ev.get rfl (by decide) xG.1 rfl ?_
  refine Ev.go 2 (s' := (h, 6, [(0, .ref 44), (1, .int q), (2, .int without), (3, .int k)], [.ref 44, .int q, .ref 36])) rfl ?_
  refine Ev.get rfl (by decide) xG.1 rfl ?_
  refine Ev.go 1 (s' := (h, 10, [(0, .ref 44), (1, .int q), (2, .int without), (3, .int k)], [.ref 44, .ref 7, .int q, .ref 36])) rfl ?_
  refine Ev.get rfl (by decide) xG.1 rfl ?_
  refine Ev.go 1 (s' := (h, 14, [(0, .ref 44), (1, .int q), (2, .int without), (3, .int k)], [.int k, .ref 15, .ref 7, .int q, .ref 36])) rfl ?_
  obtain ⟨y2, e1, H⟩ := Option.bind_eq_some_iff.mp H
  refine Ev.callE rfl rfl rfl (p_argsV (by decide) xO.1 (Nat.le_of_ble_eq_true rfl)) rfl (Nat.le_of_ble_eq_true rfl) (spX3_nodeAt xO k e1) ?_
  refine Ev.callE rfl rfl rfl (p_argsV (by decide) xT.1 (Nat.le_of_ble_eq_true rfl)) rfl (Nat.le_of_ble_eq_true rfl) (spX7_tagOf xT y2) ?_
  obtain ⟨y4, e3, H⟩ := Option.bind_eq_some_iff.mp H
  refine Ev.callE rfl rfl rfl (p_argsV (by decide) xS.1 (Nat.le_of_ble_eq_true rfl)) rfl (Nat.le_of_ble_eq_true rfl) (spX5_fits xS q (fX7_tagOf T y2) e3) ?_
  refine Ev.if1 rfl (fun c5 => ?_) (fun c5 => ?_)
  · have c5 : ¬ y4 = 0 := c5
    rw [if_pos c5] at H
    refine Ev.go 6 (s' := (h, 36, [(0, .ref 44), (1, .int q), (2, .int without), (3, .int k), (4, .long 1), (6, .int (q + 1))], [])) rfl ?_
    refine Ev.live rfl (lv' := [(0, .ref 44), (1, .int q), (2, .int without), (3, .int k), (4, .long 1), (6, .int (q + 1))]) rfl ?_
    exact llX2_product_36 n h q without k 1 (q + 1) _ H xG xT xO xS
  · have c5 : ¬ (¬ y4 = 0) := c5
    rw [if_neg c5] at H
    refine Ev.go 1 (s' := (h, 27, [(0, .ref 44), (1, .int q), (2, .int without), (3, .int k)], [.long 0])) rfl ?_
    have H := Option.some.inj H
    subst H
    exact Ev.ret rfl rfl rfl ⟨rfl, rfl⟩
def lX2_countOwn_2 (n : Nat) (T : tT) (O : tO) (S : tS) : Nat → Int32 → Int32 → tG → Option (tG)
  | 0, _, _, _ => none
  | m + 1, x1, x2, G => (if (fX3_size O) ≤ x2 then some G else (if x1 < 0 ∨ 8 ≤ x1.toNatClampNeg then none else ((fX2_product n G x1 (-1) x2 T O S).bind fun y4 => (if x2 < 0 ∨ 24 ≤ x2.toNatClampNeg then none else lX2_countOwn_2 n T O S m x1 (x2 + 1) (va_up G.1 x1.toNatClampNeg (vp_updL (G.1 x1.toNatClampNeg) x2.toNatClampNeg y4), G.2.1, G.2.2.1, G.2.2.2)))))
theorem llX2_countOwn_2 {d n : Nat} {T : tT} {O : tO} {S : tS} : ∀ (m : Nat) (h : pH) (x1 : Int32) (x2 : Int32) (G : tG) (res : tG), lX2_countOwn_2 n T O S m x1 x2 G = some res → isT h 7 T → isO h O → isS h 36 S → isG h G → Ev (d + 3) mX2_countOwn (h, 2, [(0, .ref 44), (1, .int x1), (2, .int x2)], []) (fun r h1 => r = none ∧ isG h1 res ∧ fr [(44, 73)] h h1)
  | 0, h, x1, x2, G, res, H, _, _, _, _ => by cases H
  | m + 1, h, x1, x2, G, res, H, xT, xO, xS, xG => by
    have H : (if (fX3_size O) ≤ x2 then some G else (if x1 < 0 ∨ 8 ≤ x1.toNatClampNeg then none else ((fX2_product n G x1 (-1) x2 T O S).bind fun y4 => (if x2 < 0 ∨ 24 ≤ x2.toNatClampNeg then none else lX2_countOwn_2 n T O S m x1 (x2 + 1) (va_up G.1 x1.toNatClampNeg (vp_updL (G.1 x1.toNatClampNeg) x2.toNatClampNeg y4), G.2.1, G.2.2.1, G.2.2.2))))) = some res := H
    refine Ev.go 2 (s' := (h, 4, [(0, .ref 44), (1, .int x1), (2, .int x2)], [.ref 44, .int x2])) rfl ?_
    refine Ev.get rfl (by decide) xG.1 rfl ?_
    refine Ev.callE rfl rfl rfl (p_argsV (by decide) xO.1 (Nat.le_of_ble_eq_true rfl)) rfl (Nat.le_of_ble_eq_true rfl) (spX3_size xO ) ?_
    refine Ev.if2 rfl (fun c1 => ?_) (fun c1 => ?_)
    · have c1 : (fX3_size O) ≤ x2 := c1
      rw [if_pos c1] at H
      have H := Option.some.inj H
      subst H
      exact Ev.ret rfl rfl rfl ⟨rfl, xG, (fun k _ => rfl)⟩
    · have c1 : ¬ ((fX3_size O) ≤ x2) := c1
      rw [if_neg c1] at H
      refine Ev.go 1 (s' := (h, 14, [(0, .ref 44), (1, .int x1), (2, .int x2)], [.ref 44])) rfl ?_
      refine Ev.get rfl (by decide) xG.1 rfl ?_
      refine Ev.go 1 (s' := (h, 18, [(0, .ref 44), (1, .int x1), (2, .int x2)], [.int x1, .ref 45])) rfl ?_
      have v2 : vp_in x1 8 := fun q => by rw [if_pos q] at H; cases H
      rw [if_neg v2] at H
      refine Ev.aald rfl (by decide) xG.2.1 v2 (p_rowAt v2) ?_
      have := vp_lt v2
      refine Ev.go 5 (s' := (h, 24, [(0, .ref 44), (1, .int x1), (2, .int x2)], [.int x2, .int ((-1)), .int x1, .ref 44, .int x2, .ref (46 + x1.toNatClampNeg)])) rfl ?_
      obtain ⟨y4, e3, H⟩ := Option.bind_eq_some_iff.mp H
      refine Ev.callE rfl rfl rfl (p_argsV (by decide) xG.1 (Nat.le_of_ble_eq_true rfl)) rfl (Nat.le_of_ble_eq_true rfl) (spX2_product xG xT xO xS x1 (-1) x2 e3) ?_
      have v5 : vp_in x2 24 := fun q => by rw [if_pos q] at H; cases H
      rw [if_neg v5] at H
      refine Ev.last rfl (by show _ < 89; omega) (xG.2.2.1 x1.toNatClampNeg (vp_lt v2)) v5 ?_
      refine Ev.go 2 (s' := ((pu h (46 + x1.toNatClampNeg) (eJ 24 (vp_updL (G.1 x1.toNatClampNeg) x2.toNatClampNeg y4))), 2, [(0, .ref 44), (1, .int x1), (2, .int (x2 + 1))], [])) rfl ?_
      refine Ev.live rfl (lv' := [(0, .ref 44), (1, .int x1), (2, .int (x2 + 1))]) rfl ?_
      refine (llX2_countOwn_2 m (pu h (46 + x1.toNatClampNeg) (eJ 24 (vp_updL (G.1 x1.toNatClampNeg) x2.toNatClampNeg y4))) x1 (x2 + 1) (va_up G.1 x1.toNatClampNeg (vp_updL (G.1 x1.toNatClampNeg) x2.toNatClampNeg y4), G.2.1, G.2.2.1, G.2.2.2) _ H ⟨(pu_n (by omega) xT.1), (pu_n (by omega) xT.2.1), (pu_n (by omega) xT.2.2.1), (pu_n (by omega) xT.2.2.2.1), (by decide)⟩ ⟨(pu_n (by omega) xO.1), (pu_n (by omega) xO.2.1), (pu_n (by omega) xO.2.2.1), (pu_n (by omega) xO.2.2.2.1), (pu_n (by omega) xO.2.2.2.2.1), (pu_n (by omega) xO.2.2.2.2.2.1), (pu_n (by omega) xO.2.2.2.2.2.2.1), (pu_n (by omega) xO.2.2.2.2.2.2.2)⟩ ⟨(pu_n (by omega) xS.1), (pu_n (by omega) xS.2.1), (pu_n (by omega) xS.2.2.1), (pu_n (by omega) xS.2.2.2.1), (by decide)⟩ ⟨(pu_n (by omega) xG.1), (pu_n (by omega) xG.2.1), (rw_put (b := 46) (X := x1.toNatClampNeg) xG.2.2.1 (vp_lt v2)), (pu_n (by omega) xG.2.2.2.1), (rw_keep xG.2.2.2.2.1 (by omega)), (pu_n (by omega) xG.2.2.2.2.2.1), (rw_keep xG.2.2.2.2.2.2.1 (by omega)), (pu_n (by omega) xG.2.2.2.2.2.2.2)⟩).mono (fun r h9 q9 => ?_)
      obtain ⟨q9r, q9_0, q9f⟩ := q9
      exact ⟨q9r, q9_0, fun k hk => (q9f k hk).trans (by rw [pu_x (show k ≠ 46 + x1.toNatClampNeg from fun e => by have := hk; simp at this; omega)])⟩
def fX2_countOwn (n : Nat) (G : tG) (q : Int32) (T : tT) (O : tO) (S : tS) : Option (tG) := lX2_countOwn_2 n T O S n q 0 G
theorem spX2_countOwn {d n : Nat} {h : pH} {G : tG} {T : tT} {O : tO} {S : tS} (xG : isG h G) (xT : isT h 7 T) (xO : isO h O) (xS : isS h 36 S) (q : Int32) {res : tG} (H : fX2_countOwn n G q T O S = some res) : Ev (d + 3) mX2_countOwn (h, 0, [(0, .ref 44), (1, .int q)], []) (fun r h1 => r = none ∧ isG h1 res ∧ fr [(44, 73)] h h1) := by
  unfold fX2_countOwn at H
  refine Ev.go 2 (s' := (h, 2, [(0, .ref 44), (1, .int q), (2, .int 0)], [])) rfl ?_
  refine Ev.live rfl (lv' := [(0, .ref 44), (1, .int q), (2, .int 0)]) rfl ?_
  exact llX2_countOwn_2 n h q 0 G _ H xT xO xS xG
def lX2_countHung_20 (n : Nat) (O : tO) (S : tS) : Nat → Int32 → Int32 → tG → Option (tG)
  | 0, _, _, _ => none
  | m + 1, x1, x2, G => (if x2 ≤ 0 then some G else ((fX2_sourceOf G x1 x2 O S).bind fun y4 => (if y4 < 0 then lX2_countHung_20 n O S m x1 (x2 + (-1)) G else (if x1 < 0 ∨ 8 ≤ x1.toNatClampNeg then none else (if y4 < 0 ∨ 24 ≤ y4.toNatClampNeg then none else (if x2 < 0 ∨ 24 ≤ x2.toNatClampNeg then none else ((fX2_reachesOn G x1 S).bind fun y10 => (if y10 = 0 then lX2_countHung_20 n O S m x1 (x2 + (-1)) (G.1, va_up G.2.1 x1.toNatClampNeg (vp_updL (G.2.1 x1.toNatClampNeg) y4.toNatClampNeg (((G.2.1 x1.toNatClampNeg) y4.toNatClampNeg) + (((G.1 x1.toNatClampNeg) x2.toNatClampNeg) + 0))), G.2.2.1, G.2.2.2) else lX2_countHung_20 n O S m x1 (x2 + (-1)) (G.1, va_up G.2.1 x1.toNatClampNeg (vp_updL (G.2.1 x1.toNatClampNeg) y4.toNatClampNeg (((G.2.1 x1.toNatClampNeg) y4.toNatClampNeg) + (((G.1 x1.toNatClampNeg) x2.toNatClampNeg) + ((G.2.1 x1.toNatClampNeg) x2.toNatClampNeg)))), G.2.2.1, G.2.2.2)))))))))
theorem llX2_countHung_20 {d n : Nat} {O : tO} {S : tS} : ∀ (m : Nat) (h : pH) (x1 : Int32) (x2 : Int32) (G : tG) (res : tG), lX2_countHung_20 n O S m x1 x2 G = some res → isO h O → isS h 36 S → isG h G → Ev (d + 3) mX2_countHung (h, 20, [(0, .ref 44), (1, .int x1), (2, .int x2)], []) (fun r h1 => r = none ∧ isG h1 res ∧ fr [(44, 73)] h h1)
  | 0, h, x1, x2, G, res, H, _, _, _ => by cases H
  | m + 1, h, x1, x2, G, res, H, xO, xS, xG => by
    have H : (if x2 ≤ 0 then some G else ((fX2_sourceOf G x1 x2 O S).bind fun y4 => (if y4 < 0 then lX2_countHung_20 n O S m x1 (x2 + (-1)) G else (if x1 < 0 ∨ 8 ≤ x1.toNatClampNeg then none else (if y4 < 0 ∨ 24 ≤ y4.toNatClampNeg then none else (if x2 < 0 ∨ 24 ≤ x2.toNatClampNeg then none else ((fX2_reachesOn G x1 S).bind fun y10 => (if y10 = 0 then lX2_countHung_20 n O S m x1 (x2 + (-1)) (G.1, va_up G.2.1 x1.toNatClampNeg (vp_updL (G.2.1 x1.toNatClampNeg) y4.toNatClampNeg (((G.2.1 x1.toNatClampNeg) y4.toNatClampNeg) + (((G.1 x1.toNatClampNeg) x2.toNatClampNeg) + 0))), G.2.2.1, G.2.2.2) else lX2_countHung_20 n O S m x1 (x2 + (-1)) (G.1, va_up G.2.1 x1.toNatClampNeg (vp_updL (G.2.1 x1.toNatClampNeg) y4.toNatClampNeg (((G.2.1 x1.toNatClampNeg) y4.toNatClampNeg) + (((G.1 x1.toNatClampNeg) x2.toNatClampNeg) + ((G.2.1 x1.toNatClampNeg) x2.toNatClampNeg)))), G.2.2.1, G.2.2.2))))))))) = some res := H
    refine Ev.go 1 (s' := (h, 21, [(0, .ref 44), (1, .int x1), (2, .int x2)], [.int x2])) rfl ?_
    refine Ev.if1 rfl (fun c2 => ?_) (fun c2 => ?_)
    · have c2 : x2 ≤ 0 := c2
      rw [if_pos c2] at H
      have H := Option.some.inj H
      subst H
      exact Ev.ret rfl rfl rfl ⟨rfl, xG, (fun k _ => rfl)⟩
    · have c2 : ¬ (x2 ≤ 0) := c2
      rw [if_neg c2] at H
      refine Ev.go 3 (s' := (h, 27, [(0, .ref 44), (1, .int x1), (2, .int x2)], [.int x2, .int x1, .ref 44])) rfl ?_
      obtain ⟨y4, e3, H⟩ := Option.bind_eq_some_iff.mp H
      refine Ev.callE rfl rfl rfl (p_argsV (by decide) xG.1 (Nat.le_of_ble_eq_true rfl)) rfl (Nat.le_of_ble_eq_true rfl) (spX2_sourceOf xG xO xS x1 x2 e3) ?_
      refine Ev.go 2 (s' := (h, 32, [(0, .ref 44), (1, .int x1), (2, .int x2), (3, .int y4)], [.int y4])) rfl ?_
      refine Ev.if1 rfl (fun c5 => ?_) (fun c5 => ?_)
      · have c5 : y4 < 0 := c5
        rw [if_pos c5] at H
        refine Ev.go 2 (s' := (h, 20, [(0, .ref 44), (1, .int x1), (2, .int (x2 + (-1))), (3, .int y4)], [])) rfl ?_
        refine Ev.live rfl (lv' := [(0, .ref 44), (1, .int x1), (2, .int (x2 + (-1)))]) rfl ?_
        exact llX2_countHung_20 m h x1 (x2 + (-1)) G _ H xO xS xG
      · have c5 : ¬ (y4 < 0) := c5
        rw [if_neg c5] at H
        refine Ev.go 1 (s' := (h, 36, [(0, .ref 44), (1, .int x1), (2, .int x2), (3, .int y4)], [.ref 44])) rfl ?_
        refine Ev.get rfl (by decide) xG.1 rfl ?_
        refine Ev.go 1 (s' := (h, 40, [(0, .ref 44), (1, .int x1), (2, .int x2), (3, .int y4)], [.int x1, .ref 54])) rfl ?_
        have v6 : vp_in x1 8 := fun q => by rw [if_pos q] at H; cases H
        rw [if_neg v6] at H
        refine Ev.aald rfl (by decide) xG.2.2.2.1 v6 (p_rowAt v6) ?_
        have := vp_lt v6
        refine Ev.go 2 (s' := (h, 43, [(0, .ref 44), (1, .int x1), (2, .int x2), (3, .int y4)], [.int y4, .ref (55 + x1.toNatClampNeg), .int y4, .ref (55 + x1.toNatClampNeg)])) rfl ?_
        have v7 : vp_in y4 24 := fun q => by rw [if_pos q] at H; cases H
        rw [if_neg v7] at H
        refine Ev.lald rfl (by show _ < 89; omega) (xG.2.2.2.2.1 x1.toNatClampNeg (vp_lt v6)) v7 ?_
        refine Ev.go 1 (s' := (h, 45, [(0, .ref 44), (1, .int x1), (2, .int x2), (3, .int y4)], [.ref 44, .long ((G.2.1 x1.toNatClampNeg) y4.toNatClampNeg), .int y4, .ref (55 + x1.toNatClampNeg)])) rfl ?_
        refine Ev.get rfl (by decide) xG.1 rfl ?_
        refine Ev.go 1 (s' := (h, 49, [(0, .ref 44), (1, .int x1), (2, .int x2), (3, .int y4)], [.int x1, .ref 45, .long ((G.2.1 x1.toNatClampNeg) y4.toNatClampNeg), .int y4, .ref (55 + x1.toNatClampNeg)])) rfl ?_
        refine Ev.aald rfl (by decide) xG.2.1 v6 (p_rowAt v6) ?_
        have := vp_lt v6
        refine Ev.go 1 (s' := (h, 51, [(0, .ref 44), (1, .int x1), (2, .int x2), (3, .int y4)], [.int x2, .ref (46 + x1.toNatClampNeg), .long ((G.2.1 x1.toNatClampNeg) y4.toNatClampNeg), .int y4, .ref (55 + x1.toNatClampNeg)])) rfl ?_
        have v8 : vp_in x2 24 := fun q => by rw [if_pos q] at H; cases H
        rw [if_neg v8] at H
        refine Ev.lald rfl (by show _ < 89; omega) (xG.2.2.1 x1.toNatClampNeg (vp_lt v6)) v8 ?_
        refine Ev.go 2 (s' := (h, 54, [(0, .ref 44), (1, .int x1), (2, .int x2), (3, .int y4)], [.int x1, .ref 44, .long ((G.1 x1.toNatClampNeg) x2.toNatClampNeg), .long ((G.2.1 x1.toNatClampNeg) y4.toNatClampNeg), .int y4, .ref (55 + x1.toNatClampNeg)])) rfl ?_
        obtain ⟨y10, e9, H⟩ := Option.bind_eq_some_iff.mp H
        refine Ev.callE rfl rfl rfl (p_argsV (by decide) xG.1 (Nat.le_of_ble_eq_true rfl)) rfl (Nat.le_of_ble_eq_true rfl) (spX2_reachesOn xG xS x1 e9) ?_
        refine Ev.if1 rfl (fun c11 => ?_) (fun c11 => ?_)
        · have c11 : y10 = 0 := c11
          rw [if_pos c11] at H
          refine Ev.go 3 (s' := (h, 74, [(0, .ref 44), (1, .int x1), (2, .int x2), (3, .int y4)], [.long (((G.2.1 x1.toNatClampNeg) y4.toNatClampNeg) + (((G.1 x1.toNatClampNeg) x2.toNatClampNeg) + 0)), .int y4, .ref (55 + x1.toNatClampNeg)])) rfl ?_
          refine Ev.last rfl (by show _ < 89; omega) (xG.2.2.2.2.1 x1.toNatClampNeg (vp_lt v6)) v7 ?_
          refine Ev.go 2 (s' := ((pu h (55 + x1.toNatClampNeg) (eJ 24 (vp_updL (G.2.1 x1.toNatClampNeg) y4.toNatClampNeg (((G.2.1 x1.toNatClampNeg) y4.toNatClampNeg) + (((G.1 x1.toNatClampNeg) x2.toNatClampNeg) + 0))))), 20, [(0, .ref 44), (1, .int x1), (2, .int (x2 + (-1))), (3, .int y4)], [])) rfl ?_
          refine Ev.live rfl (lv' := [(0, .ref 44), (1, .int x1), (2, .int (x2 + (-1)))]) rfl ?_
          refine (llX2_countHung_20 m (pu h (55 + x1.toNatClampNeg) (eJ 24 (vp_updL (G.2.1 x1.toNatClampNeg) y4.toNatClampNeg (((G.2.1 x1.toNatClampNeg) y4.toNatClampNeg) + (((G.1 x1.toNatClampNeg) x2.toNatClampNeg) + 0))))) x1 (x2 + (-1)) (G.1, va_up G.2.1 x1.toNatClampNeg (vp_updL (G.2.1 x1.toNatClampNeg) y4.toNatClampNeg (((G.2.1 x1.toNatClampNeg) y4.toNatClampNeg) + (((G.1 x1.toNatClampNeg) x2.toNatClampNeg) + 0))), G.2.2.1, G.2.2.2) _ H ⟨(pu_n (by omega) xO.1), (pu_n (by omega) xO.2.1), (pu_n (by omega) xO.2.2.1), (pu_n (by omega) xO.2.2.2.1), (pu_n (by omega) xO.2.2.2.2.1), (pu_n (by omega) xO.2.2.2.2.2.1), (pu_n (by omega) xO.2.2.2.2.2.2.1), (pu_n (by omega) xO.2.2.2.2.2.2.2)⟩ ⟨(pu_n (by omega) xS.1), (pu_n (by omega) xS.2.1), (pu_n (by omega) xS.2.2.1), (pu_n (by omega) xS.2.2.2.1), (by decide)⟩ ⟨(pu_n (by omega) xG.1), (pu_n (by omega) xG.2.1), (rw_keep xG.2.2.1 (by omega)), (pu_n (by omega) xG.2.2.2.1), (rw_put (b := 55) (X := x1.toNatClampNeg) xG.2.2.2.2.1 (vp_lt v6)), (pu_n (by omega) xG.2.2.2.2.2.1), (rw_keep xG.2.2.2.2.2.2.1 (by omega)), (pu_n (by omega) xG.2.2.2.2.2.2.2)⟩).mono (fun r h9 q9 => ?_)
          obtain ⟨q9r, q9_0, q9f⟩ := q9
          exact ⟨q9r, q9_0, fun k hk => (q9f k hk).trans (by rw [pu_x (show k ≠ 55 + x1.toNatClampNeg from fun e => by have := hk; simp at this; omega)])⟩
        · have c11 : ¬ (y10 = 0) := c11
          rw [if_neg c11] at H
          refine Ev.go 1 (s' := (h, 61, [(0, .ref 44), (1, .int x1), (2, .int x2), (3, .int y4)], [.ref 44, .long ((G.1 x1.toNatClampNeg) x2.toNatClampNeg), .long ((G.2.1 x1.toNatClampNeg) y4.toNatClampNeg), .int y4, .ref (55 + x1.toNatClampNeg)])) rfl ?_
          refine Ev.get rfl (by decide) xG.1 rfl ?_
          refine Ev.go 1 (s' := (h, 65, [(0, .ref 44), (1, .int x1), (2, .int x2), (3, .int y4)], [.int x1, .ref 54, .long ((G.1 x1.toNatClampNeg) x2.toNatClampNeg), .long ((G.2.1 x1.toNatClampNeg) y4.toNatClampNeg), .int y4, .ref (55 + x1.toNatClampNeg)])) rfl ?_
          refine Ev.aald rfl (by decide) xG.2.2.2.1 v6 (p_rowAt v6) ?_
          have := vp_lt v6
          refine Ev.go 1 (s' := (h, 67, [(0, .ref 44), (1, .int x1), (2, .int x2), (3, .int y4)], [.int x2, .ref (55 + x1.toNatClampNeg), .long ((G.1 x1.toNatClampNeg) x2.toNatClampNeg), .long ((G.2.1 x1.toNatClampNeg) y4.toNatClampNeg), .int y4, .ref (55 + x1.toNatClampNeg)])) rfl ?_
          refine Ev.lald rfl (by show _ < 89; omega) (xG.2.2.2.2.1 x1.toNatClampNeg (vp_lt v6)) v8 ?_
          refine Ev.go 3 (s' := (h, 74, [(0, .ref 44), (1, .int x1), (2, .int x2), (3, .int y4)], [.long (((G.2.1 x1.toNatClampNeg) y4.toNatClampNeg) + (((G.1 x1.toNatClampNeg) x2.toNatClampNeg) + ((G.2.1 x1.toNatClampNeg) x2.toNatClampNeg))), .int y4, .ref (55 + x1.toNatClampNeg)])) rfl ?_
          refine Ev.last rfl (by show _ < 89; omega) (xG.2.2.2.2.1 x1.toNatClampNeg (vp_lt v6)) v7 ?_
          refine Ev.go 2 (s' := ((pu h (55 + x1.toNatClampNeg) (eJ 24 (vp_updL (G.2.1 x1.toNatClampNeg) y4.toNatClampNeg (((G.2.1 x1.toNatClampNeg) y4.toNatClampNeg) + (((G.1 x1.toNatClampNeg) x2.toNatClampNeg) + ((G.2.1 x1.toNatClampNeg) x2.toNatClampNeg)))))), 20, [(0, .ref 44), (1, .int x1), (2, .int (x2 + (-1))), (3, .int y4)], [])) rfl ?_
          refine Ev.live rfl (lv' := [(0, .ref 44), (1, .int x1), (2, .int (x2 + (-1)))]) rfl ?_
          refine (llX2_countHung_20 m (pu h (55 + x1.toNatClampNeg) (eJ 24 (vp_updL (G.2.1 x1.toNatClampNeg) y4.toNatClampNeg (((G.2.1 x1.toNatClampNeg) y4.toNatClampNeg) + (((G.1 x1.toNatClampNeg) x2.toNatClampNeg) + ((G.2.1 x1.toNatClampNeg) x2.toNatClampNeg)))))) x1 (x2 + (-1)) (G.1, va_up G.2.1 x1.toNatClampNeg (vp_updL (G.2.1 x1.toNatClampNeg) y4.toNatClampNeg (((G.2.1 x1.toNatClampNeg) y4.toNatClampNeg) + (((G.1 x1.toNatClampNeg) x2.toNatClampNeg) + ((G.2.1 x1.toNatClampNeg) x2.toNatClampNeg)))), G.2.2.1, G.2.2.2) _ H ⟨(pu_n (by omega) xO.1), (pu_n (by omega) xO.2.1), (pu_n (by omega) xO.2.2.1), (pu_n (by omega) xO.2.2.2.1), (pu_n (by omega) xO.2.2.2.2.1), (pu_n (by omega) xO.2.2.2.2.2.1), (pu_n (by omega) xO.2.2.2.2.2.2.1), (pu_n (by omega) xO.2.2.2.2.2.2.2)⟩ ⟨(pu_n (by omega) xS.1), (pu_n (by omega) xS.2.1), (pu_n (by omega) xS.2.2.1), (pu_n (by omega) xS.2.2.2.1), (by decide)⟩ ⟨(pu_n (by omega) xG.1), (pu_n (by omega) xG.2.1), (rw_keep xG.2.2.1 (by omega)), (pu_n (by omega) xG.2.2.2.1), (rw_put (b := 55) (X := x1.toNatClampNeg) xG.2.2.2.2.1 (vp_lt v6)), (pu_n (by omega) xG.2.2.2.2.2.1), (rw_keep xG.2.2.2.2.2.2.1 (by omega)), (pu_n (by omega) xG.2.2.2.2.2.2.2)⟩).mono (fun r h9 q9 => ?_)
          obtain ⟨q9r, q9_0, q9f⟩ := q9
          exact ⟨q9r, q9_0, fun k hk => (q9f k hk).trans (by rw [pu_x (show k ≠ 55 + x1.toNatClampNeg from fun e => by have := hk; simp at this; omega)])⟩
def fX2_countHung (n : Nat) (G : tG) (q : Int32) (O : tO) (S : tS) : Option (tG) := (if q < 0 ∨ 8 ≤ q.toNatClampNeg then none else lX2_countHung_20 n O S n q ((fX3_size O) - 1) (G.1, va_up G.2.1 q.toNatClampNeg (p_fill (G.2.1 q.toNatClampNeg) 0), G.2.2.1, G.2.2.2))
theorem spX2_countHung {d n : Nat} {h : pH} {G : tG} {O : tO} {S : tS} (xG : isG h G) (xO : isO h O) (xS : isS h 36 S) (q : Int32) {res : tG} (H : fX2_countHung n G q O S = some res) : Ev (d + 3) mX2_countHung (h, 0, [(0, .ref 44), (1, .int q)], []) (fun r h1 => r = none ∧ isG h1 res ∧ fr [(44, 73)] h h1) := by
  unfold fX2_countHung at H
  refine Ev.go 1 (s' := (h, 1, [(0, .ref 44), (1, .int q)], [.ref 44])) rfl ?_
  refine Ev.get rfl (by decide) xG.1 rfl ?_
  refine Ev.go 1 (s' := (h, 5, [(0, .ref 44), (1, .int q)], [.int q, .ref 54])) rfl ?_
  have v1 : vp_in q 8 := fun q => by rw [if_pos q] at H; cases H
  rw [if_neg v1] at H
  refine Ev.aald rfl (by decide) xG.2.2.2.1 v1 (p_rowAt v1) ?_
  have := vp_lt v1
  refine Ev.go 1 (s' := (h, 7, [(0, .ref 44), (1, .int q)], [.long 0, .ref (55 + q.toNatClampNeg)])) rfl ?_
  refine Ev.callU rfl rfl rfl rfl rfl (Nat.le_of_ble_eq_true rfl) (spJ7_fill (by show _ < 89; omega) (xG.2.2.2.2.1 q.toNatClampNeg (vp_lt v1)) 0) ?_
  refine Ev.go 1 (s' := ((pu h (55 + q.toNatClampNeg) (eJ 24 (p_fill (G.2.1 q.toNatClampNeg) 0))), 11, [(0, .ref 44), (1, .int q)], [.ref 44])) rfl ?_
  refine Ev.get rfl (by decide) (pu_n (by omega) xG.1) rfl ?_
  refine Ev.callE rfl rfl rfl (p_argsV (by decide) (pu_n (by omega) xO.1) (Nat.le_of_ble_eq_true rfl)) rfl (Nat.le_of_ble_eq_true rfl) (spX3_size (h := (pu h (55 + q.toNatClampNeg) (eJ 24 (p_fill (G.2.1 q.toNatClampNeg) 0)))) (O := O) ⟨(pu_n (by omega) xO.1), (pu_n (by omega) xO.2.1), (pu_n (by omega) xO.2.2.1), (pu_n (by omega) xO.2.2.2.1), (pu_n (by omega) xO.2.2.2.2.1), (pu_n (by omega) xO.2.2.2.2.2.1), (pu_n (by omega) xO.2.2.2.2.2.2.1), (pu_n (by omega) xO.2.2.2.2.2.2.2)⟩ ) ?_
  refine Ev.go 3 (s' := ((pu h (55 + q.toNatClampNeg) (eJ 24 (p_fill (G.2.1 q.toNatClampNeg) 0))), 20, [(0, .ref 44), (1, .int q), (2, .int ((fX3_size O) - 1))], [])) rfl ?_
  refine Ev.live rfl (lv' := [(0, .ref 44), (1, .int q), (2, .int ((fX3_size O) - 1))]) rfl ?_
  refine (llX2_countHung_20 n (pu h (55 + q.toNatClampNeg) (eJ 24 (p_fill (G.2.1 q.toNatClampNeg) 0))) q ((fX3_size O) - 1) (G.1, va_up G.2.1 q.toNatClampNeg (p_fill (G.2.1 q.toNatClampNeg) 0), G.2.2.1, G.2.2.2) _ H ⟨(pu_n (by omega) xO.1), (pu_n (by omega) xO.2.1), (pu_n (by omega) xO.2.2.1), (pu_n (by omega) xO.2.2.2.1), (pu_n (by omega) xO.2.2.2.2.1), (pu_n (by omega) xO.2.2.2.2.2.1), (pu_n (by omega) xO.2.2.2.2.2.2.1), (pu_n (by omega) xO.2.2.2.2.2.2.2)⟩ ⟨(pu_n (by omega) xS.1), (pu_n (by omega) xS.2.1), (pu_n (by omega) xS.2.2.1), (pu_n (by omega) xS.2.2.2.1), (by decide)⟩ ⟨(pu_n (by omega) xG.1), (pu_n (by omega) xG.2.1), (rw_keep xG.2.2.1 (by omega)), (pu_n (by omega) xG.2.2.2.1), (rw_put (b := 55) (X := q.toNatClampNeg) xG.2.2.2.2.1 (vp_lt v1)), (pu_n (by omega) xG.2.2.2.2.2.1), (rw_keep xG.2.2.2.2.2.2.1 (by omega)), (pu_n (by omega) xG.2.2.2.2.2.2.2)⟩).mono (fun r h9 q9 => ?_)
  obtain ⟨q9r, q9_0, q9f⟩ := q9
  exact ⟨q9r, q9_0, fun k hk => (q9f k hk).trans (by rw [pu_x (show k ≠ 55 + q.toNatClampNeg from fun e => by have := hk; simp at this; omega)])⟩
def lX2_countRest_2 (n : Nat) (T : tT) (O : tO) (S : tS) : Nat → Int32 → Int32 → Int32 → tG → Option (tG)
  | 0, _, _, _, _ => none
  | m + 1, x1, x2, x3, G => (if (fX3_size O) ≤ x3 then some G else (if 0 ≤ x1 then (if x1 < 0 ∨ 8 ≤ x1.toNatClampNeg then none else (if x3 < 0 ∨ 24 ≤ x3.toNatClampNeg then none else ((fX2_product n G x1 x2 x3 T O S).bind fun y6 => lX2_countRest_2 n T O S m x1 x2 (x3 + 1) (G.1, G.2.1, G.2.2.1, vp_updL G.2.2.2 x3.toNatClampNeg (((G.2.2.1 x1.toNatClampNeg) x3.toNatClampNeg) * y6))))) else (if x3 < 0 ∨ 24 ≤ x3.toNatClampNeg then none else lX2_countRest_2 n T O S m x1 x2 (x3 + 1) (G.1, G.2.1, G.2.2.1, vp_updL G.2.2.2 x3.toNatClampNeg 0))))
theorem llX2_countRest_2 {d n : Nat} {T : tT} {O : tO} {S : tS} : ∀ (m : Nat) (h : pH) (x1 : Int32) (x2 : Int32) (x3 : Int32) (G : tG) (res : tG), lX2_countRest_2 n T O S m x1 x2 x3 G = some res → isT h 7 T → isO h O → isS h 36 S → isG h G → Ev (d + 3) mX2_countRest (h, 2, [(0, .ref 44), (1, .int x1), (2, .int x2), (3, .int x3)], []) (fun r h1 => r = none ∧ isG h1 res ∧ fr [(44, 73)] h h1)
  | 0, h, x1, x2, x3, G, res, H, _, _, _, _ => by cases H
  | m + 1, h, x1, x2, x3, G, res, H, xT, xO, xS, xG => by
    have H : (if (fX3_size O) ≤ x3 then some G else (if 0 ≤ x1 then (if x1 < 0 ∨ 8 ≤ x1.toNatClampNeg then none else (if x3 < 0 ∨ 24 ≤ x3.toNatClampNeg then none else ((fX2_product n G x1 x2 x3 T O S).bind fun y6 => lX2_countRest_2 n T O S m x1 x2 (x3 + 1) (G.1, G.2.1, G.2.2.1, vp_updL G.2.2.2 x3.toNatClampNeg (((G.2.2.1 x1.toNatClampNeg) x3.toNatClampNeg) * y6))))) else (if x3 < 0 ∨ 24 ≤ x3.toNatClampNeg then none else lX2_countRest_2 n T O S m x1 x2 (x3 + 1) (G.1, G.2.1, G.2.2.1, vp_updL G.2.2.2 x3.toNatClampNeg 0)))) = some res := H
    refine Ev.go 2 (s' := (h, 4, [(0, .ref 44), (1, .int x1), (2, .int x2), (3, .int x3)], [.ref 44, .int x3])) rfl ?_
    refine Ev.get rfl (by decide) xG.1 rfl ?_
    refine Ev.callE rfl rfl rfl (p_argsV (by decide) xO.1 (Nat.le_of_ble_eq_true rfl)) rfl (Nat.le_of_ble_eq_true rfl) (spX3_size xO ) ?_
    refine Ev.if2 rfl (fun c1 => ?_) (fun c1 => ?_)
    · have c1 : (fX3_size O) ≤ x3 := c1
      rw [if_pos c1] at H
      have H := Option.some.inj H
      subst H
      exact Ev.ret rfl rfl rfl ⟨rfl, xG, (fun k _ => rfl)⟩
    · have c1 : ¬ ((fX3_size O) ≤ x3) := c1
      rw [if_neg c1] at H
      refine Ev.go 1 (s' := (h, 14, [(0, .ref 44), (1, .int x1), (2, .int x2), (3, .int x3)], [.ref 44])) rfl ?_
      refine Ev.get rfl (by decide) xG.1 rfl ?_
      refine Ev.go 2 (s' := (h, 19, [(0, .ref 44), (1, .int x1), (2, .int x2), (3, .int x3)], [.int x1, .int x3, .ref 72])) rfl ?_
      refine Ev.if1 rfl (fun c2 => ?_) (fun c2 => ?_)
      · have c2 : 0 ≤ x1 := c2
        rw [if_pos c2] at H
        refine Ev.go 1 (s' := (h, 27, [(0, .ref 44), (1, .int x1), (2, .int x2), (3, .int x3)], [.ref 44, .int x3, .ref 72])) rfl ?_
        refine Ev.get rfl (by decide) xG.1 rfl ?_
        refine Ev.go 1 (s' := (h, 31, [(0, .ref 44), (1, .int x1), (2, .int x2), (3, .int x3)], [.int x1, .ref 63, .int x3, .ref 72])) rfl ?_
        have v3 : vp_in x1 8 := fun q => by rw [if_pos q] at H; cases H
        rw [if_neg v3] at H
        refine Ev.aald rfl (by decide) xG.2.2.2.2.2.1 v3 (p_rowAt v3) ?_
        have := vp_lt v3
        refine Ev.go 1 (s' := (h, 33, [(0, .ref 44), (1, .int x1), (2, .int x2), (3, .int x3)], [.int x3, .ref (64 + x1.toNatClampNeg), .int x3, .ref 72])) rfl ?_
        have v4 : vp_in x3 24 := fun q => by rw [if_pos q] at H; cases H
        rw [if_neg v4] at H
        refine Ev.lald rfl (by show _ < 89; omega) (xG.2.2.2.2.2.2.1 x1.toNatClampNeg (vp_lt v3)) v4 ?_
        refine Ev.go 4 (s' := (h, 38, [(0, .ref 44), (1, .int x1), (2, .int x2), (3, .int x3)], [.int x3, .int x2, .int x1, .ref 44, .long ((G.2.2.1 x1.toNatClampNeg) x3.toNatClampNeg), .int x3, .ref 72])) rfl ?_
        obtain ⟨y6, e5, H⟩ := Option.bind_eq_some_iff.mp H
        refine Ev.callE rfl rfl rfl (p_argsV (by decide) xG.1 (Nat.le_of_ble_eq_true rfl)) rfl (Nat.le_of_ble_eq_true rfl) (spX2_product xG xT xO xS x1 x2 x3 e5) ?_
        refine Ev.go 1 (s' := (h, 42, [(0, .ref 44), (1, .int x1), (2, .int x2), (3, .int x3)], [.long (((G.2.2.1 x1.toNatClampNeg) x3.toNatClampNeg) * y6), .int x3, .ref 72])) rfl ?_
        refine Ev.last rfl (by decide) xG.2.2.2.2.2.2.2 v4 ?_
        refine Ev.go 2 (s' := ((pu h 72 (eJ 24 (vp_updL G.2.2.2 x3.toNatClampNeg (((G.2.2.1 x1.toNatClampNeg) x3.toNatClampNeg) * y6)))), 2, [(0, .ref 44), (1, .int x1), (2, .int x2), (3, .int (x3 + 1))], [])) rfl ?_
        refine Ev.live rfl (lv' := [(0, .ref 44), (1, .int x1), (2, .int x2), (3, .int (x3 + 1))]) rfl ?_
        refine (llX2_countRest_2 m (pu h 72 (eJ 24 (vp_updL G.2.2.2 x3.toNatClampNeg (((G.2.2.1 x1.toNatClampNeg) x3.toNatClampNeg) * y6)))) x1 x2 (x3 + 1) (G.1, G.2.1, G.2.2.1, vp_updL G.2.2.2 x3.toNatClampNeg (((G.2.2.1 x1.toNatClampNeg) x3.toNatClampNeg) * y6)) _ H ⟨(pu_n (by decide) xT.1), (pu_n (by decide) xT.2.1), (pu_n (by decide) xT.2.2.1), (pu_n (by decide) xT.2.2.2.1), (by decide)⟩ ⟨(pu_n (by decide) xO.1), (pu_n (by decide) xO.2.1), (pu_n (by decide) xO.2.2.1), (pu_n (by decide) xO.2.2.2.1), (pu_n (by decide) xO.2.2.2.2.1), (pu_n (by decide) xO.2.2.2.2.2.1), (pu_n (by decide) xO.2.2.2.2.2.2.1), (pu_n (by decide) xO.2.2.2.2.2.2.2)⟩ ⟨(pu_n (by decide) xS.1), (pu_n (by decide) xS.2.1), (pu_n (by decide) xS.2.2.1), (pu_n (by decide) xS.2.2.2.1), (by decide)⟩ ⟨(pu_n (by decide) xG.1), (pu_n (by decide) xG.2.1), (rw_keep xG.2.2.1 (by omega)), (pu_n (by decide) xG.2.2.2.1), (rw_keep xG.2.2.2.2.1 (by omega)), (pu_n (by decide) xG.2.2.2.2.2.1), (rw_keep xG.2.2.2.2.2.2.1 (by omega)), pu_s⟩).mono (fun r h9 q9 => ?_)
        obtain ⟨q9r, q9_0, q9f⟩ := q9
        exact ⟨q9r, q9_0, fun k hk => (q9f k hk).trans (by rw [pu_x (show k ≠ 72 from fun e => by have := hk; simp at this; omega)])⟩
      · have c2 : ¬ (0 ≤ x1) := c2
        rw [if_neg c2] at H
        refine Ev.go 2 (s' := (h, 42, [(0, .ref 44), (1, .int x1), (2, .int x2), (3, .int x3)], [.long 0, .int x3, .ref 72])) rfl ?_
        have v7 : vp_in x3 24 := fun q => by rw [if_pos q] at H; cases H
        rw [if_neg v7] at H
        refine Ev.last rfl (by decide) xG.2.2.2.2.2.2.2 v7 ?_
        refine Ev.go 2 (s' := ((pu h 72 (eJ 24 (vp_updL G.2.2.2 x3.toNatClampNeg 0))), 2, [(0, .ref 44), (1, .int x1), (2, .int x2), (3, .int (x3 + 1))], [])) rfl ?_
        refine Ev.live rfl (lv' := [(0, .ref 44), (1, .int x1), (2, .int x2), (3, .int (x3 + 1))]) rfl ?_
        refine (llX2_countRest_2 m (pu h 72 (eJ 24 (vp_updL G.2.2.2 x3.toNatClampNeg 0))) x1 x2 (x3 + 1) (G.1, G.2.1, G.2.2.1, vp_updL G.2.2.2 x3.toNatClampNeg 0) _ H ⟨(pu_n (by decide) xT.1), (pu_n (by decide) xT.2.1), (pu_n (by decide) xT.2.2.1), (pu_n (by decide) xT.2.2.2.1), (by decide)⟩ ⟨(pu_n (by decide) xO.1), (pu_n (by decide) xO.2.1), (pu_n (by decide) xO.2.2.1), (pu_n (by decide) xO.2.2.2.1), (pu_n (by decide) xO.2.2.2.2.1), (pu_n (by decide) xO.2.2.2.2.2.1), (pu_n (by decide) xO.2.2.2.2.2.2.1), (pu_n (by decide) xO.2.2.2.2.2.2.2)⟩ ⟨(pu_n (by decide) xS.1), (pu_n (by decide) xS.2.1), (pu_n (by decide) xS.2.2.1), (pu_n (by decide) xS.2.2.2.1), (by decide)⟩ ⟨(pu_n (by decide) xG.1), (pu_n (by decide) xG.2.1), (rw_keep xG.2.2.1 (by omega)), (pu_n (by decide) xG.2.2.2.1), (rw_keep xG.2.2.2.2.1 (by omega)), (pu_n (by decide) xG.2.2.2.2.2.1), (rw_keep xG.2.2.2.2.2.2.1 (by omega)), pu_s⟩).mono (fun r h9 q9 => ?_)
        obtain ⟨q9r, q9_0, q9f⟩ := q9
        exact ⟨q9r, q9_0, fun k hk => (q9f k hk).trans (by rw [pu_x (show k ≠ 72 from fun e => by have := hk; simp at this; omega)])⟩
def fX2_countRest (n : Nat) (G : tG) (q : Int32) (without : Int32) (T : tT) (O : tO) (S : tS) : Option (tG) := lX2_countRest_2 n T O S n q without 0 G
theorem spX2_countRest {d n : Nat} {h : pH} {G : tG} {T : tT} {O : tO} {S : tS} (xG : isG h G) (xT : isT h 7 T) (xO : isO h O) (xS : isS h 36 S) (q : Int32) (without : Int32) {res : tG} (H : fX2_countRest n G q without T O S = some res) : Ev (d + 3) mX2_countRest (h, 0, [(0, .ref 44), (1, .int q), (2, .int without)], []) (fun r h1 => r = none ∧ isG h1 res ∧ fr [(44, 73)] h h1) := by
  unfold fX2_countRest at H
  refine Ev.go 2 (s' := (h, 2, [(0, .ref 44), (1, .int q), (2, .int without), (3, .int 0)], [])) rfl ?_
  refine Ev.live rfl (lv' := [(0, .ref 44), (1, .int q), (2, .int without), (3, .int 0)]) rfl ?_
  exact llX2_countRest_2 n h q without 0 G _ H xT xO xS xG
def lX2_countOther_12 (n : Nat) (O : tO) (S : tS) : Nat → Int32 → Int32 → tG → Option (tG)
  | 0, _, _, _ => none
  | m + 1, x1, x2, G => (if (fX3_size O) ≤ x2 then some G else ((fX2_sourceOf G x1 x2 O S).bind fun y4 => (if y4 < 0 then lX2_countOther_12 n O S m x1 (x2 + 1) G else (if x1 < 0 ∨ 8 ≤ x1.toNatClampNeg then none else (if y4 < 0 ∨ 24 ≤ y4.toNatClampNeg then none else ((fX2_reachesOn G x1 S).bind fun y9 => (if y9 = 0 then (if x2 < 0 ∨ 24 ≤ x2.toNatClampNeg then none else lX2_countOther_12 n O S m x1 (x2 + 1) (G.1, G.2.1, va_up G.2.2.1 x1.toNatClampNeg (vp_updL (G.2.2.1 x1.toNatClampNeg) x2.toNatClampNeg ((G.2.2.2 y4.toNatClampNeg) + 0)), G.2.2.2)) else (if x2 < 0 ∨ 24 ≤ x2.toNatClampNeg then none else lX2_countOther_12 n O S m x1 (x2 + 1) (G.1, G.2.1, va_up G.2.2.1 x1.toNatClampNeg (vp_updL (G.2.2.1 x1.toNatClampNeg) x2.toNatClampNeg ((G.2.2.2 y4.toNatClampNeg) + ((G.2.2.1 x1.toNatClampNeg) y4.toNatClampNeg))), G.2.2.2)))))))))
theorem llX2_countOther_12 {d n : Nat} {O : tO} {S : tS} : ∀ (m : Nat) (h : pH) (x1 : Int32) (x2 : Int32) (G : tG) (res : tG), lX2_countOther_12 n O S m x1 x2 G = some res → isO h O → isS h 36 S → isG h G → Ev (d + 3) mX2_countOther (h, 12, [(0, .ref 44), (1, .int x1), (2, .int x2)], []) (fun r h1 => r = none ∧ isG h1 res ∧ fr [(44, 73)] h h1)
  | 0, h, x1, x2, G, res, H, _, _, _ => by cases H
  | m + 1, h, x1, x2, G, res, H, xO, xS, xG => by
    have H : (if (fX3_size O) ≤ x2 then some G else ((fX2_sourceOf G x1 x2 O S).bind fun y4 => (if y4 < 0 then lX2_countOther_12 n O S m x1 (x2 + 1) G else (if x1 < 0 ∨ 8 ≤ x1.toNatClampNeg then none else (if y4 < 0 ∨ 24 ≤ y4.toNatClampNeg then none else ((fX2_reachesOn G x1 S).bind fun y9 => (if y9 = 0 then (if x2 < 0 ∨ 24 ≤ x2.toNatClampNeg then none else lX2_countOther_12 n O S m x1 (x2 + 1) (G.1, G.2.1, va_up G.2.2.1 x1.toNatClampNeg (vp_updL (G.2.2.1 x1.toNatClampNeg) x2.toNatClampNeg ((G.2.2.2 y4.toNatClampNeg) + 0)), G.2.2.2)) else (if x2 < 0 ∨ 24 ≤ x2.toNatClampNeg then none else lX2_countOther_12 n O S m x1 (x2 + 1) (G.1, G.2.1, va_up G.2.2.1 x1.toNatClampNeg (vp_updL (G.2.2.1 x1.toNatClampNeg) x2.toNatClampNeg ((G.2.2.2 y4.toNatClampNeg) + ((G.2.2.1 x1.toNatClampNeg) y4.toNatClampNeg))), G.2.2.2))))))))) = some res := H
    refine Ev.go 2 (s' := (h, 14, [(0, .ref 44), (1, .int x1), (2, .int x2)], [.ref 44, .int x2])) rfl ?_
    refine Ev.get rfl (by decide) xG.1 rfl ?_
    refine Ev.callE rfl rfl rfl (p_argsV (by decide) xO.1 (Nat.le_of_ble_eq_true rfl)) rfl (Nat.le_of_ble_eq_true rfl) (spX3_size xO ) ?_
    refine Ev.if2 rfl (fun c2 => ?_) (fun c2 => ?_)
    · have c2 : (fX3_size O) ≤ x2 := c2
      rw [if_pos c2] at H
      have H := Option.some.inj H
      subst H
      exact Ev.ret rfl rfl rfl ⟨rfl, xG, (fun k _ => rfl)⟩
    · have c2 : ¬ ((fX3_size O) ≤ x2) := c2
      rw [if_neg c2] at H
      refine Ev.go 3 (s' := (h, 26, [(0, .ref 44), (1, .int x1), (2, .int x2)], [.int x2, .int x1, .ref 44])) rfl ?_
      obtain ⟨y4, e3, H⟩ := Option.bind_eq_some_iff.mp H
      refine Ev.callE rfl rfl rfl (p_argsV (by decide) xG.1 (Nat.le_of_ble_eq_true rfl)) rfl (Nat.le_of_ble_eq_true rfl) (spX2_sourceOf xG xO xS x1 x2 e3) ?_
      refine Ev.go 2 (s' := (h, 31, [(0, .ref 44), (1, .int x1), (2, .int x2), (3, .int y4)], [.int y4])) rfl ?_
      refine Ev.if1 rfl (fun c5 => ?_) (fun c5 => ?_)
      · have c5 : y4 < 0 := c5
        rw [if_pos c5] at H
        refine Ev.go 2 (s' := (h, 12, [(0, .ref 44), (1, .int x1), (2, .int (x2 + 1)), (3, .int y4)], [])) rfl ?_
        refine Ev.live rfl (lv' := [(0, .ref 44), (1, .int x1), (2, .int (x2 + 1))]) rfl ?_
        exact llX2_countOther_12 m h x1 (x2 + 1) G _ H xO xS xG
      · have c5 : ¬ (y4 < 0) := c5
        rw [if_neg c5] at H
        refine Ev.go 1 (s' := (h, 35, [(0, .ref 44), (1, .int x1), (2, .int x2), (3, .int y4)], [.ref 44])) rfl ?_
        refine Ev.get rfl (by decide) xG.1 rfl ?_
        refine Ev.go 1 (s' := (h, 39, [(0, .ref 44), (1, .int x1), (2, .int x2), (3, .int y4)], [.int x1, .ref 63])) rfl ?_
        have v6 : vp_in x1 8 := fun q => by rw [if_pos q] at H; cases H
        rw [if_neg v6] at H
        refine Ev.aald rfl (by decide) xG.2.2.2.2.2.1 v6 (p_rowAt v6) ?_
        have := vp_lt v6
        refine Ev.go 2 (s' := (h, 42, [(0, .ref 44), (1, .int x1), (2, .int x2), (3, .int y4)], [.ref 44, .int x2, .ref (64 + x1.toNatClampNeg)])) rfl ?_
        refine Ev.get rfl (by decide) xG.1 rfl ?_
        refine Ev.go 1 (s' := (h, 46, [(0, .ref 44), (1, .int x1), (2, .int x2), (3, .int y4)], [.int y4, .ref 72, .int x2, .ref (64 + x1.toNatClampNeg)])) rfl ?_
        have v7 : vp_in y4 24 := fun q => by rw [if_pos q] at H; cases H
        rw [if_neg v7] at H
        refine Ev.lald rfl (by decide) xG.2.2.2.2.2.2.2 v7 ?_
        refine Ev.go 2 (s' := (h, 49, [(0, .ref 44), (1, .int x1), (2, .int x2), (3, .int y4)], [.int x1, .ref 44, .long (G.2.2.2 y4.toNatClampNeg), .int x2, .ref (64 + x1.toNatClampNeg)])) rfl ?_
        obtain ⟨y9, e8, H⟩ := Option.bind_eq_some_iff.mp H
        refine Ev.callE rfl rfl rfl (p_argsV (by decide) xG.1 (Nat.le_of_ble_eq_true rfl)) rfl (Nat.le_of_ble_eq_true rfl) (spX2_reachesOn xG xS x1 e8) ?_
        refine Ev.if1 rfl (fun c10 => ?_) (fun c10 => ?_)
        · have c10 : y9 = 0 := c10
          rw [if_pos c10] at H
          refine Ev.go 2 (s' := (h, 68, [(0, .ref 44), (1, .int x1), (2, .int x2), (3, .int y4)], [.long ((G.2.2.2 y4.toNatClampNeg) + 0), .int x2, .ref (64 + x1.toNatClampNeg)])) rfl ?_
          have v11 : vp_in x2 24 := fun q => by rw [if_pos q] at H; cases H
          rw [if_neg v11] at H
          refine Ev.last rfl (by show _ < 89; omega) (xG.2.2.2.2.2.2.1 x1.toNatClampNeg (vp_lt v6)) v11 ?_
          refine Ev.go 2 (s' := ((pu h (64 + x1.toNatClampNeg) (eJ 24 (vp_updL (G.2.2.1 x1.toNatClampNeg) x2.toNatClampNeg ((G.2.2.2 y4.toNatClampNeg) + 0)))), 12, [(0, .ref 44), (1, .int x1), (2, .int (x2 + 1)), (3, .int y4)], [])) rfl ?_
          refine Ev.live rfl (lv' := [(0, .ref 44), (1, .int x1), (2, .int (x2 + 1))]) rfl ?_
          refine (llX2_countOther_12 m (pu h (64 + x1.toNatClampNeg) (eJ 24 (vp_updL (G.2.2.1 x1.toNatClampNeg) x2.toNatClampNeg ((G.2.2.2 y4.toNatClampNeg) + 0)))) x1 (x2 + 1) (G.1, G.2.1, va_up G.2.2.1 x1.toNatClampNeg (vp_updL (G.2.2.1 x1.toNatClampNeg) x2.toNatClampNeg ((G.2.2.2 y4.toNatClampNeg) + 0)), G.2.2.2) _ H ⟨(pu_n (by omega) xO.1), (pu_n (by omega) xO.2.1), (pu_n (by omega) xO.2.2.1), (pu_n (by omega) xO.2.2.2.1), (pu_n (by omega) xO.2.2.2.2.1), (pu_n (by omega) xO.2.2.2.2.2.1), (pu_n (by omega) xO.2.2.2.2.2.2.1), (pu_n (by omega) xO.2.2.2.2.2.2.2)⟩ ⟨(pu_n (by omega) xS.1), (pu_n (by omega) xS.2.1), (pu_n (by omega) xS.2.2.1), (pu_n (by omega) xS.2.2.2.1), (by decide)⟩ ⟨(pu_n (by omega) xG.1), (pu_n (by omega) xG.2.1), (rw_keep xG.2.2.1 (by omega)), (pu_n (by omega) xG.2.2.2.1), (rw_keep xG.2.2.2.2.1 (by omega)), (pu_n (by omega) xG.2.2.2.2.2.1), (rw_put (b := 64) (X := x1.toNatClampNeg) xG.2.2.2.2.2.2.1 (vp_lt v6)), (pu_n (by omega) xG.2.2.2.2.2.2.2)⟩).mono (fun r h9 q9 => ?_)
          obtain ⟨q9r, q9_0, q9f⟩ := q9
          exact ⟨q9r, q9_0, fun k hk => (q9f k hk).trans (by rw [pu_x (show k ≠ 64 + x1.toNatClampNeg from fun e => by have := hk; simp at this; omega)])⟩
        · have c10 : ¬ (y9 = 0) := c10
          rw [if_neg c10] at H
          refine Ev.go 1 (s' := (h, 56, [(0, .ref 44), (1, .int x1), (2, .int x2), (3, .int y4)], [.ref 44, .long (G.2.2.2 y4.toNatClampNeg), .int x2, .ref (64 + x1.toNatClampNeg)])) rfl ?_
          refine Ev.get rfl (by decide) xG.1 rfl ?_
          refine Ev.go 1 (s' := (h, 60, [(0, .ref 44), (1, .int x1), (2, .int x2), (3, .int y4)], [.int x1, .ref 63, .long (G.2.2.2 y4.toNatClampNeg), .int x2, .ref (64 + x1.toNatClampNeg)])) rfl ?_
          refine Ev.aald rfl (by decide) xG.2.2.2.2.2.1 v6 (p_rowAt v6) ?_
          have := vp_lt v6
          refine Ev.go 1 (s' := (h, 62, [(0, .ref 44), (1, .int x1), (2, .int x2), (3, .int y4)], [.int y4, .ref (64 + x1.toNatClampNeg), .long (G.2.2.2 y4.toNatClampNeg), .int x2, .ref (64 + x1.toNatClampNeg)])) rfl ?_
          refine Ev.lald rfl (by show _ < 89; omega) (xG.2.2.2.2.2.2.1 x1.toNatClampNeg (vp_lt v6)) v7 ?_
          refine Ev.go 2 (s' := (h, 68, [(0, .ref 44), (1, .int x1), (2, .int x2), (3, .int y4)], [.long ((G.2.2.2 y4.toNatClampNeg) + ((G.2.2.1 x1.toNatClampNeg) y4.toNatClampNeg)), .int x2, .ref (64 + x1.toNatClampNeg)])) rfl ?_
          have v12 : vp_in x2 24 := fun q => by rw [if_pos q] at H; cases H
          rw [if_neg v12] at H
          refine Ev.last rfl (by show _ < 89; omega) (xG.2.2.2.2.2.2.1 x1.toNatClampNeg (vp_lt v6)) v12 ?_
          refine Ev.go 2 (s' := ((pu h (64 + x1.toNatClampNeg) (eJ 24 (vp_updL (G.2.2.1 x1.toNatClampNeg) x2.toNatClampNeg ((G.2.2.2 y4.toNatClampNeg) + ((G.2.2.1 x1.toNatClampNeg) y4.toNatClampNeg))))), 12, [(0, .ref 44), (1, .int x1), (2, .int (x2 + 1)), (3, .int y4)], [])) rfl ?_
          refine Ev.live rfl (lv' := [(0, .ref 44), (1, .int x1), (2, .int (x2 + 1))]) rfl ?_
          refine (llX2_countOther_12 m (pu h (64 + x1.toNatClampNeg) (eJ 24 (vp_updL (G.2.2.1 x1.toNatClampNeg) x2.toNatClampNeg ((G.2.2.2 y4.toNatClampNeg) + ((G.2.2.1 x1.toNatClampNeg) y4.toNatClampNeg))))) x1 (x2 + 1) (G.1, G.2.1, va_up G.2.2.1 x1.toNatClampNeg (vp_updL (G.2.2.1 x1.toNatClampNeg) x2.toNatClampNeg ((G.2.2.2 y4.toNatClampNeg) + ((G.2.2.1 x1.toNatClampNeg) y4.toNatClampNeg))), G.2.2.2) _ H ⟨(pu_n (by omega) xO.1), (pu_n (by omega) xO.2.1), (pu_n (by omega) xO.2.2.1), (pu_n (by omega) xO.2.2.2.1), (pu_n (by omega) xO.2.2.2.2.1), (pu_n (by omega) xO.2.2.2.2.2.1), (pu_n (by omega) xO.2.2.2.2.2.2.1), (pu_n (by omega) xO.2.2.2.2.2.2.2)⟩ ⟨(pu_n (by omega) xS.1), (pu_n (by omega) xS.2.1), (pu_n (by omega) xS.2.2.1), (pu_n (by omega) xS.2.2.2.1), (by decide)⟩ ⟨(pu_n (by omega) xG.1), (pu_n (by omega) xG.2.1), (rw_keep xG.2.2.1 (by omega)), (pu_n (by omega) xG.2.2.2.1), (rw_keep xG.2.2.2.2.1 (by omega)), (pu_n (by omega) xG.2.2.2.2.2.1), (rw_put (b := 64) (X := x1.toNatClampNeg) xG.2.2.2.2.2.2.1 (vp_lt v6)), (pu_n (by omega) xG.2.2.2.2.2.2.2)⟩).mono (fun r h9 q9 => ?_)
          obtain ⟨q9r, q9_0, q9f⟩ := q9
          exact ⟨q9r, q9_0, fun k hk => (q9f k hk).trans (by rw [pu_x (show k ≠ 64 + x1.toNatClampNeg from fun e => by have := hk; simp at this; omega)])⟩
def fX2_countOther (n : Nat) (G : tG) (q : Int32) (O : tO) (S : tS) : Option (tG) := (if q < 0 ∨ 8 ≤ q.toNatClampNeg then none else lX2_countOther_12 n O S n q 1 (G.1, G.2.1, va_up G.2.2.1 q.toNatClampNeg (p_fill (G.2.2.1 q.toNatClampNeg) 0), G.2.2.2))
theorem spX2_countOther {d n : Nat} {h : pH} {G : tG} {O : tO} {S : tS} (xG : isG h G) (xO : isO h O) (xS : isS h 36 S) (q : Int32) {res : tG} (H : fX2_countOther n G q O S = some res) : Ev (d + 3) mX2_countOther (h, 0, [(0, .ref 44), (1, .int q)], []) (fun r h1 => r = none ∧ isG h1 res ∧ fr [(44, 73)] h h1) := by
  unfold fX2_countOther at H
  refine Ev.go 1 (s' := (h, 1, [(0, .ref 44), (1, .int q)], [.ref 44])) rfl ?_
  refine Ev.get rfl (by decide) xG.1 rfl ?_
  refine Ev.go 1 (s' := (h, 5, [(0, .ref 44), (1, .int q)], [.int q, .ref 63])) rfl ?_
  have v1 : vp_in q 8 := fun q => by rw [if_pos q] at H; cases H
  rw [if_neg v1] at H
  refine Ev.aald rfl (by decide) xG.2.2.2.2.2.1 v1 (p_rowAt v1) ?_
  have := vp_lt v1
  refine Ev.go 1 (s' := (h, 7, [(0, .ref 44), (1, .int q)], [.long 0, .ref (64 + q.toNatClampNeg)])) rfl ?_
  refine Ev.callU rfl rfl rfl rfl rfl (Nat.le_of_ble_eq_true rfl) (spJ7_fill (by show _ < 89; omega) (xG.2.2.2.2.2.2.1 q.toNatClampNeg (vp_lt v1)) 0) ?_
  refine Ev.go 2 (s' := ((pu h (64 + q.toNatClampNeg) (eJ 24 (p_fill (G.2.2.1 q.toNatClampNeg) 0))), 12, [(0, .ref 44), (1, .int q), (2, .int 1)], [])) rfl ?_
  refine Ev.live rfl (lv' := [(0, .ref 44), (1, .int q), (2, .int 1)]) rfl ?_
  refine (llX2_countOther_12 n (pu h (64 + q.toNatClampNeg) (eJ 24 (p_fill (G.2.2.1 q.toNatClampNeg) 0))) q 1 (G.1, G.2.1, va_up G.2.2.1 q.toNatClampNeg (p_fill (G.2.2.1 q.toNatClampNeg) 0), G.2.2.2) _ H ⟨(pu_n (by omega) xO.1), (pu_n (by omega) xO.2.1), (pu_n (by omega) xO.2.2.1), (pu_n (by omega) xO.2.2.2.1), (pu_n (by omega) xO.2.2.2.2.1), (pu_n (by omega) xO.2.2.2.2.2.1), (pu_n (by omega) xO.2.2.2.2.2.2.1), (pu_n (by omega) xO.2.2.2.2.2.2.2)⟩ ⟨(pu_n (by omega) xS.1), (pu_n (by omega) xS.2.1), (pu_n (by omega) xS.2.2.1), (pu_n (by omega) xS.2.2.2.1), (by decide)⟩ ⟨(pu_n (by omega) xG.1), (pu_n (by omega) xG.2.1), (rw_keep xG.2.2.1 (by omega)), (pu_n (by omega) xG.2.2.2.1), (rw_keep xG.2.2.2.2.1 (by omega)), (pu_n (by omega) xG.2.2.2.2.2.1), (rw_put (b := 64) (X := q.toNatClampNeg) xG.2.2.2.2.2.2.1 (vp_lt v1)), (pu_n (by omega) xG.2.2.2.2.2.2.2)⟩).mono (fun r h9 q9 => ?_)
  obtain ⟨q9r, q9_0, q9f⟩ := q9
  exact ⟨q9r, q9_0, fun k hk => (q9f k hk).trans (by rw [pu_x (show k ≠ 64 + q.toNatClampNeg from fun e => by have := hk; simp at this; omega)])⟩
def lX2_run_42 (n : Nat) (T : tT) (O : tO) (S : tS) : Nat → Int32 → tG → Option (tG)
  | 0, _, _ => none
  | m + 1, x1, G => (if (fX5_size S) ≤ x1 then some G else ((fX5_hangOf S x1).bind fun y18 => ((fX2_countRest n G y18 x1 T O S).bind fun y20 => ((fX2_countOther n y20 x1 O S).bind fun y27 => lX2_run_42 n T O S m (x1 + 1) y27))))
theorem llX2_run_42 {d n : Nat} {T : tT} {O : tO} {S : tS} : ∀ (m : Nat) (h : pH) (x1 : Int32) (G : tG) (res : tG), lX2_run_42 n T O S m x1 G = some res → isT h 7 T → isO h O → isS h 36 S → isG h G → Ev (d + 4) mX2_run (h, 42, [(0, .ref 44), (1, .int x1)], []) (fun r h1 => r = none ∧ isG h1 res ∧ fr [(44, 73)] h h1)
  | 0, h, x1, G, res, H, _, _, _, _ => by cases H
  | m + 1, h, x1, G, res, H, xT, xO, xS, xG => by
    have H : (if (fX5_size S) ≤ x1 then some G else ((fX5_hangOf S x1).bind fun y18 => ((fX2_countRest n G y18 x1 T O S).bind fun y20 => ((fX2_countOther n y20 x1 O S).bind fun y27 => lX2_run_42 n T O S m (x1 + 1) y27)))) = some res := H
    refine Ev.go 2 (s' := (h, 44, [(0, .ref 44), (1, .int x1)], [.ref 44, .int x1])) rfl ?_
    refine Ev.get rfl (by decide) xG.1 rfl ?_
    refine Ev.callE rfl rfl rfl (p_argsV (by decide) xS.1 (Nat.le_of_ble_eq_true rfl)) rfl (Nat.le_of_ble_eq_true rfl) (spX5_size xS ) ?_
    refine Ev.if2 rfl (fun c16 => ?_) (fun c16 => ?_)
    · have c16 : (fX5_size S) ≤ x1 := c16
      rw [if_pos c16] at H
      have H := Option.some.inj H
      subst H
      exact Ev.ret rfl rfl rfl ⟨rfl, xG, (fun k _ => rfl)⟩
    · have c16 : ¬ ((fX5_size S) ≤ x1) := c16
      rw [if_neg c16] at H
      refine Ev.go 2 (s' := (h, 55, [(0, .ref 44), (1, .int x1)], [.ref 44, .ref 44])) rfl ?_
      refine Ev.get rfl (by decide) xG.1 rfl ?_
      refine Ev.go 1 (s' := (h, 59, [(0, .ref 44), (1, .int x1)], [.int x1, .ref 36, .ref 44])) rfl ?_
      obtain ⟨y18, e17, H⟩ := Option.bind_eq_some_iff.mp H
      refine Ev.callE rfl rfl rfl (p_argsV (by decide) xS.1 (Nat.le_of_ble_eq_true rfl)) rfl (Nat.le_of_ble_eq_true rfl) (spX5_hangOf xS x1 e17) ?_
      refine Ev.go 1 (s' := (h, 63, [(0, .ref 44), (1, .int x1)], [.int x1, .int y18, .ref 44])) rfl ?_
      obtain ⟨y20, e19, H⟩ := Option.bind_eq_some_iff.mp H
      refine Ev.call rfl rfl rfl (p_argsV (by decide) xG.1 (Nat.le_of_ble_eq_true rfl)) rfl (Nat.le_of_ble_eq_true rfl) ((spX2_countRest xG xT xO xS y18 x1 e19).mono (fun r h21 q22 => ?_))
      obtain ⟨rfl, q22_G, q22_f⟩ := q22
      have i23 : isT h21 7 T := isT.fr q22_f (fr1 (by omega)) xT
      have i24 : isO h21 O := isO.fr q22_f (fr1 (by omega)) xO
      have i25 : isS h21 36 S := isS.fr q22_f (fr1 (by omega)) xS
      refine Ev.go 2 (s' := (h21, 68, [(0, .ref 44), (1, .int x1)], [.int x1, .ref 44])) rfl ?_
      obtain ⟨y27, e26, H⟩ := Option.bind_eq_some_iff.mp H
      refine Ev.call rfl rfl rfl (p_argsV (by decide) q22_G.1 (Nat.le_of_ble_eq_true rfl)) rfl (Nat.le_of_ble_eq_true rfl) ((spX2_countOther q22_G i24 i25 x1 e26).mono (fun r h28 q29 => ?_))
      obtain ⟨rfl, q29_G, q29_f⟩ := q29
      have i30 : isT h28 7 T := isT.fr q29_f (fr1 (by omega)) i23
      have i31 : isO h28 O := isO.fr q29_f (fr1 (by omega)) i24
      have i32 : isS h28 36 S := isS.fr q29_f (fr1 (by omega)) i25
      refine Ev.go 2 (s' := (h28, 42, [(0, .ref 44), (1, .int (x1 + 1))], [])) rfl ?_
      refine Ev.live rfl (lv' := [(0, .ref 44), (1, .int (x1 + 1))]) rfl ?_
      refine (llX2_run_42 m h28 (x1 + 1) y27 _ H i30 i31 i32 q29_G).mono (fun r h9 q9 => ?_)
      obtain ⟨q9r, q9_0, q9f⟩ := q9
      exact ⟨q9r, q9_0, fun k hk => (q9f k hk).trans (by rw [q29_f k (by have := hk; simp at this ⊢; omega)]; rw [q22_f k (by have := hk; simp at this ⊢; omega)])⟩
def lX2_run_10 (n : Nat) (T : tT) (O : tO) (S : tS) : Nat → Int32 → tG → Option (tG)
  | 0, _, _ => none
  | m + 1, x1, G => (if x1 < 0 then lX2_run_42 n T O S n 1 (G.1, G.2.1, va_up G.2.2.1 0 (p_fill (G.2.2.1 0) 1), G.2.2.2) else ((fX2_countOwn n G x1 T O S).bind fun y3 => ((fX2_countHung n y3 x1 O S).bind fun y10 => lX2_run_10 n T O S m (x1 + (-1)) y10)))
theorem llX2_run_10 {d n : Nat} {T : tT} {O : tO} {S : tS} : ∀ (m : Nat) (h : pH) (x1 : Int32) (G : tG) (res : tG), lX2_run_10 n T O S m x1 G = some res → isT h 7 T → isO h O → isS h 36 S → isG h G → Ev (d + 4) mX2_run (h, 10, [(0, .ref 44), (1, .int x1)], []) (fun r h1 => r = none ∧ isG h1 res ∧ fr [(44, 73)] h h1)
  | 0, h, x1, G, res, H, _, _, _, _ => by cases H
  | m + 1, h, x1, G, res, H, xT, xO, xS, xG => by
    have H : (if x1 < 0 then lX2_run_42 n T O S n 1 (G.1, G.2.1, va_up G.2.2.1 0 (p_fill (G.2.2.1 0) 1), G.2.2.2) else ((fX2_countOwn n G x1 T O S).bind fun y3 => ((fX2_countHung n y3 x1 O S).bind fun y10 => lX2_run_10 n T O S m (x1 + (-1)) y10))) = some res := H
    refine Ev.go 1 (s' := (h, 11, [(0, .ref 44), (1, .int x1)], [.int x1])) rfl ?_
    refine Ev.if1 rfl (fun c1 => ?_) (fun c1 => ?_)
    · have c1 : x1 < 0 := c1
      rw [if_pos c1] at H
      refine Ev.go 1 (s' := (h, 31, [(0, .ref 44), (1, .int x1)], [.ref 44])) rfl ?_
      refine Ev.get rfl (by decide) xG.1 rfl ?_
      refine Ev.go 1 (s' := (h, 35, [(0, .ref 44), (1, .int x1)], [.int 0, .ref 63])) rfl ?_
      refine Ev.aald rfl (by decide) xG.2.2.2.2.2.1 (by unfold vp_in; decide) (p_rowAt (by unfold vp_in; decide)) ?_
      refine Ev.go 1 (s' := (h, 37, [(0, .ref 44), (1, .int x1)], [.long 1, .ref 64])) rfl ?_
      refine Ev.callU rfl rfl rfl rfl rfl (Nat.le_of_ble_eq_true rfl) (spJ7_fill (by decide) (xG.2.2.2.2.2.2.1 0 (by decide)) 1) ?_
      refine Ev.go 2 (s' := ((pu h 64 (eJ 24 (p_fill (G.2.2.1 0) 1))), 42, [(0, .ref 44), (1, .int 1)], [])) rfl ?_
      refine Ev.live rfl (lv' := [(0, .ref 44), (1, .int 1)]) rfl ?_
      refine (llX2_run_42 n (pu h 64 (eJ 24 (p_fill (G.2.2.1 0) 1))) 1 (G.1, G.2.1, va_up G.2.2.1 0 (p_fill (G.2.2.1 0) 1), G.2.2.2) _ H ⟨(pu_n (by decide) xT.1), (pu_n (by decide) xT.2.1), (pu_n (by decide) xT.2.2.1), (pu_n (by decide) xT.2.2.2.1), (by decide)⟩ ⟨(pu_n (by decide) xO.1), (pu_n (by decide) xO.2.1), (pu_n (by decide) xO.2.2.1), (pu_n (by decide) xO.2.2.2.1), (pu_n (by decide) xO.2.2.2.2.1), (pu_n (by decide) xO.2.2.2.2.2.1), (pu_n (by decide) xO.2.2.2.2.2.2.1), (pu_n (by decide) xO.2.2.2.2.2.2.2)⟩ ⟨(pu_n (by decide) xS.1), (pu_n (by decide) xS.2.1), (pu_n (by decide) xS.2.2.1), (pu_n (by decide) xS.2.2.2.1), (by decide)⟩ ⟨(pu_n (by decide) xG.1), (pu_n (by decide) xG.2.1), (rw_keep xG.2.2.1 (by omega)), (pu_n (by decide) xG.2.2.2.1), (rw_keep xG.2.2.2.2.1 (by omega)), (pu_n (by decide) xG.2.2.2.2.2.1), (rw_put (b := 64) (X := 0) xG.2.2.2.2.2.2.1 (by decide)), (pu_n (by decide) xG.2.2.2.2.2.2.2)⟩).mono (fun r h9 q9 => ?_)
      obtain ⟨q9r, q9_0, q9f⟩ := q9
      exact ⟨q9r, q9_0, fun k hk => (q9f k hk).trans (by rw [pu_x (show k ≠ 64 from fun e => by have := hk; simp at this; omega)])⟩
    · have c1 : ¬ (x1 < 0) := c1
      rw [if_neg c1] at H
      refine Ev.go 2 (s' := (h, 16, [(0, .ref 44), (1, .int x1)], [.int x1, .ref 44])) rfl ?_
      obtain ⟨y3, e2, H⟩ := Option.bind_eq_some_iff.mp H
      refine Ev.call rfl rfl rfl (p_argsV (by decide) xG.1 (Nat.le_of_ble_eq_true rfl)) rfl (Nat.le_of_ble_eq_true rfl) ((spX2_countOwn xG xT xO xS x1 e2).mono (fun r h4 q5 => ?_))
      obtain ⟨rfl, q5_G, q5_f⟩ := q5
      have i6 : isT h4 7 T := isT.fr q5_f (fr1 (by omega)) xT
      have i7 : isO h4 O := isO.fr q5_f (fr1 (by omega)) xO
      have i8 : isS h4 36 S := isS.fr q5_f (fr1 (by omega)) xS
      refine Ev.go 2 (s' := (h4, 21, [(0, .ref 44), (1, .int x1)], [.int x1, .ref 44])) rfl ?_
      obtain ⟨y10, e9, H⟩ := Option.bind_eq_some_iff.mp H
      refine Ev.call rfl rfl rfl (p_argsV (by decide) q5_G.1 (Nat.le_of_ble_eq_true rfl)) rfl (Nat.le_of_ble_eq_true rfl) ((spX2_countHung q5_G i7 i8 x1 e9).mono (fun r h11 q12 => ?_))
      obtain ⟨rfl, q12_G, q12_f⟩ := q12
      have i13 : isT h11 7 T := isT.fr q12_f (fr1 (by omega)) i6
      have i14 : isO h11 O := isO.fr q12_f (fr1 (by omega)) i7
      have i15 : isS h11 36 S := isS.fr q12_f (fr1 (by omega)) i8
      refine Ev.go 2 (s' := (h11, 10, [(0, .ref 44), (1, .int (x1 + (-1)))], [])) rfl ?_
      refine Ev.live rfl (lv' := [(0, .ref 44), (1, .int (x1 + (-1)))]) rfl ?_
      refine (llX2_run_10 m h11 (x1 + (-1)) y10 _ H i13 i14 i15 q12_G).mono (fun r h9 q9 => ?_)
      obtain ⟨q9r, q9_0, q9f⟩ := q9
      exact ⟨q9r, q9_0, fun k hk => (q9f k hk).trans (by rw [q12_f k (by have := hk; simp at this ⊢; omega)]; rw [q5_f k (by have := hk; simp at this ⊢; omega)])⟩
def fX2_run (n : Nat) (G : tG) (T : tT) (O : tO) (S : tS) : Option (tG) := lX2_run_10 n T O S n ((fX5_size S) - 1) G
theorem spX2_run {d n : Nat} {h : pH} {G : tG} {T : tT} {O : tO} {S : tS} (xG : isG h G) (xT : isT h 7 T) (xO : isO h O) (xS : isS h 36 S) {res : tG} (H : fX2_run n G T O S = some res) : Ev (d + 4) mX2_run (h, 0, [(0, .ref 44)], []) (fun r h1 => r = none ∧ isG h1 res ∧ fr [(44, 73)] h h1) := by
  unfold fX2_run at H
  refine Ev.go 1 (s' := (h, 1, [(0, .ref 44)], [.ref 44])) rfl ?_
  refine Ev.get rfl (by decide) xG.1 rfl ?_
  refine Ev.callE rfl rfl rfl (p_argsV (by decide) xS.1 (Nat.le_of_ble_eq_true rfl)) rfl (Nat.le_of_ble_eq_true rfl) (spX5_size xS ) ?_
  refine Ev.go 3 (s' := (h, 10, [(0, .ref 44), (1, .int ((fX5_size S) - 1))], [])) rfl ?_
  refine Ev.live rfl (lv' := [(0, .ref 44), (1, .int ((fX5_size S) - 1))]) rfl ?_
  exact llX2_run_10 n h ((fX5_size S) - 1) G _ H xT xO xS xG
