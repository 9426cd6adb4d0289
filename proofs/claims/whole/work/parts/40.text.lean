/-! THE TEXT, on both sides; numbers in it -/
def TL (L : tL) (tx : Nat → Nat) (sz : Nat) : Prop := L.2 = nI sz ∧ sz ≤ 200 ∧ ∀ i, i < sz → L.1 i = nI (tx i) ∧ 32 ≤ tx i ∧ tx i ≤ 126
def TM (M : tM) (tx : Nat → Nat) (sz : Nat) : Prop := M.1 11 = nI sz ∧ sz ≤ 200 ∧ ∀ i, i < sz → M.2.1 10 i = nI (tx i) ∧ 32 ≤ tx i ∧ tx i ≤ 126
def TX (L : tL) (M : tM) : Prop := ∃ tx sz, TL L tx sz ∧ TM M tx sz
section TEXT
variable {L : tL} {M : tM} {tx : Nat → Nat} {sz n : Nat} {X : tX}
theorem in_s {lo hi v : Nat} (h1 : lo < 2147483648) (h2 : hi < 2147483648) (h3 : v < 2147483648) : fX10_in (nI v) (nI lo) (nI hi) = if lo ≤ v ∧ v ≤ hi then 1 else 0 := by
  unfold fX10_in
  by_cases c1 : lo ≤ v
  · rw [if_neg (nI_nlt c1 h3)]
    by_cases c2 : v ≤ hi
    · rw [if_neg (nI_nlt c2 h2), if_pos ⟨c1, c2⟩]
    · rw [if_pos (nI_lt (by omega) h3), if_neg (fun q => c2 q.2)]
  · rw [if_pos (nI_lt (by omega) h1), if_neg (fun q => c1 q.1)]
theorem O_write (H : TX L M) (letter : Int32) : ∃ r L' M', fX9_write X letter L = some (r, L') ∧ fX10_write M letter = some (r, M') ∧ TX L' M' ∧ (∀ j, j ≠ 11 → M'.1 j = M.1 j) ∧ (∀ j, j ≠ 10 → M'.2.1 j = M.2.1 j) := by
  obtain ⟨tx, sz, ⟨l1, l2, l3⟩, m1, m2, m3⟩ := id H
  unfold fX9_write fX10_write
  by_cases c1 : letter < 32
  · have : fX10_in letter 32 126 = 0 := by
      unfold fX10_in
      rw [if_pos c1]
    rw [if_pos c1, this]
    exact ⟨-1, L, M, rfl, rfl, H, fun _ _ => rfl, fun _ _ => rfl⟩
  by_cases c2 : letter ≤ 126
  · have h0 : ¬ letter < 0 := fun q => c1 (by
      rw [Int32.lt_iff_toInt_lt] at q ⊢
      have e0 : (0 : Int32).toInt = 0 := rfl
      have e5 : (32 : Int32).toInt = 32 := rfl
      omega)
    obtain ⟨t, t31, rfl⟩ := nI_of h0
    have t1 : 32 ≤ t := Nat.le_of_not_lt (fun q => c1 (nI_lt (b := 32) q (by decide)))
    have t2 : t ≤ 126 := Nat.le_of_not_lt (fun q => nI_ge (a := 126) q t31 c2)
    rw [if_neg c1, if_pos c2, show fX10_in (nI t) 32 126 = 1 from (in_s (lo := 32) (hi := 126) (by decide) (by decide) (by omega)).trans (if_pos ⟨t1, t2⟩), if_pos (show ¬ (1 : Int32) = 0 by decide)]
    unfold fX1_isFull fX1_size
    rw [l1, m1]
    by_cases cs : sz = 200
    · subst cs
      exact ⟨-3, L, M, rfl, rfl, H, fun _ _ => rfl, fun _ _ => rfl⟩
    · have s2 : sz < 200 := by omega
      rw [if_pos (show nI sz < 200 from nI_lt (b := 200) s2 (by decide)), if_pos (show (0 : Int32) = 0 from rfl), if_pos (show ¬ nI sz = 200 from fun q => cs ((nI_eq (a := sz) (b := 200) (by omega) (by decide)).mp q)), if_neg (nI_in s2 (by decide)), nI_clamp (by omega), nI_1]
      unfold fX1_add
      rw [l1, if_neg (show ¬ (200 : Int32) ≤ nI sz from nI_ge (b := 200) s2 (by decide)), if_neg (nI_in s2 (by decide)), nI_clamp (by omega), nI_1, Option.bind_some]
      refine ⟨nI (sz + 1), (upd L.1 sz (nI t), nI (sz + 1)), (va_up M.1 11 (nI (sz + 1)), va_up M.2.1 10 (upd (M.2.1 10) sz (nI t)), M.2.2), rfl, rfl, ⟨fun i => if i = sz then t else tx i, sz + 1, ⟨rfl, by omega, fun i hi => ?_⟩, rfl, by omega, fun i hi => ?_⟩, fun j hj => vu_n hj, fun j hj => vu_n hj⟩
      · show upd L.1 sz (nI t) i = nI (if i = sz then t else tx i) ∧ 32 ≤ (if i = sz then t else tx i) ∧ (if i = sz then t else tx i) ≤ 126
        by_cases e : i = sz
        · subst e
          rw [pk_us, if_pos rfl]
          exact ⟨rfl, t1, t2⟩
        · rw [pk_un e, if_neg e]
          exact l3 i (by omega)
      · show upd (M.2.1 10) sz (nI t) i = nI (if i = sz then t else tx i) ∧ 32 ≤ (if i = sz then t else tx i) ∧ (if i = sz then t else tx i) ≤ 126
        by_cases e : i = sz
        · subst e
          rw [pk_us, if_pos rfl]
          exact ⟨rfl, t1, t2⟩
        · rw [pk_un e, if_neg e]
          exact m3 i (by omega)
  · have : fX10_in letter 32 126 = 0 := by
      unfold fX10_in
      rw [if_neg c1, if_pos]
      rw [Int32.le_iff_toInt_le] at c2
      rw [Int32.lt_iff_toInt_lt]
      omega
    rw [if_neg c1, if_neg c2, this]
    exact ⟨-1, L, M, rfl, rfl, H, fun _ _ => rfl, fun _ _ => rfl⟩
theorem O_wipe (H : TX L M) : ∃ r L' M', fX9_wipe X L = some (r, L') ∧ fX10_wipe M = some (r, M') ∧ TX L' M' ∧ (∀ j, j ≠ 11 → M'.1 j = M.1 j) ∧ (∀ j, M'.2.1 j = M.2.1 j) := by
  obtain ⟨tx, sz, ⟨l1, l2, l3⟩, m1, m2, m3⟩ := id H
  refine ⟨nI sz, (L.1, 0), (va_up M.1 11 0, M.2.1, M.2.2), ?_, ?_, ⟨tx, 0, ⟨rfl, by omega, fun i hi => absurd hi (by omega)⟩, ?_, by omega, fun i hi => absurd hi (by omega)⟩, ?_, ?_⟩
  · unfold fX9_wipe fX1_clear fX1_size
    rw [Option.bind_some, l1]
  · unfold fX10_wipe
    rw [m1]
  · rfl
  · exact fun j hj => vu_n hj
  · exact fun j => rfl
/-- a figure at a place -/
def fg (tx : Nat → Nat) (sz i : Nat) : Option Nat := if i < sz ∧ 48 ≤ tx i ∧ tx i ≤ 57 then some (tx i - 48) else none
/-- a number of one or two figures -/
def nuA (tx : Nat → Nat) (sz i : Nat) : Option (Nat × Nat) := match fg tx sz i with
  | none => none
  | some a => match fg tx sz (i + 1) with
    | none => some (a, i + 1)
    | some b => some (10 * a + b, i + 2)
/-- a number and the sign that ends it: its value, the place behind -/
def nuC (tx : Nat → Nat) (sz i e : Nat) : Option (Nat × Nat) := match nuA tx sz i with
  | none => none
  | some (v, k) => if k < sz ∧ tx k = e then some (v, k + 1) else none
theorem fg_lt {i a : Nat} (h : fg tx sz i = some a) : i < sz ∧ a ≤ 9 ∧ tx i = a + 48 := by
  unfold fg at h
  split at h
  · cases h
    omega
  · cases h
theorem nuA_in {i v k : Nat} (h : nuA tx sz i = some (v, k)) : i < k ∧ k ≤ sz ∧ v ≤ 99 := by
  unfold nuA at h
  cases h1 : fg tx sz i with
  | none => rw [h1] at h; cases h
  | some a =>
    have := fg_lt h1
    rw [h1] at h
    cases h2 : fg tx sz (i + 1) with
    | none =>
      rw [h2] at h
      cases h
      omega
    | some b =>
      have := fg_lt h2
      rw [h2] at h
      cases h
      omega
theorem nuC_in {i e v k : Nat} (h : nuC tx sz i e = some (v, k)) : i < k ∧ k ≤ sz ∧ v ≤ 99 := by
  unfold nuC at h
  cases h1 : nuA tx sz i with
  | none => rw [h1] at h; cases h
  | some p =>
    obtain ⟨a, b⟩ := p
    have := nuA_in h1
    rw [h1] at h
    dsimp only at h
    split at h
    · cases h
      omega
    · cases h
theorem letterAt_s (H : TL L tx sz) {i : Nat} (hi : i < 1000) : fX1_letterAt L (nI i) = some (if i < sz then nI (tx i) else -1) := by
  unfold fX1_letterAt
  rw [if_neg (nI_pos (by omega)), H.1]
  by_cases c : i < sz
  · have := H.2.1
    rw [if_neg (nI_ge c (by omega)), if_neg (nI_in (show i < 200 by omega) (by decide)), nI_clamp (by omega), if_pos c, (H.2.2 i c).1]
  · rw [if_pos (nI_le (by omega) (by omega)), if_neg c]
theorem figureAt_s (H : TL L tx sz) {i : Nat} (hi : i < 1000) : fX8_figureAt L (nI i) = some (e1 (fg tx sz i)) := by
  unfold fX8_figureAt fg
  rw [letterAt_s H hi, Option.bind_some]
  by_cases c : i < sz
  · have h := H.2.2 i c
    rw [if_pos c]
    by_cases c1 : tx i < 48
    · rw [if_pos (show nI (tx i) < 48 from nI_lt (b := 48) c1 (by decide)), if_neg (by omega)]
      rfl
    · rw [if_neg (show ¬ nI (tx i) < 48 from nI_nlt (b := 48) (by omega) (by omega))]
      by_cases c2 : tx i ≤ 57
      · rw [if_neg (show ¬ (57 : Int32) < nI (tx i) from nI_nlt (a := 57) c2 (by decide)), if_pos (by omega), show nI (tx i) - 48 = nI (tx i - 48) from pk_sub (b := 48) (by omega)]
        rfl
      · rw [if_pos (show (57 : Int32) < nI (tx i) from nI_lt (a := 57) (by omega) (by omega)), if_neg (by omega)]
        rfl
  · rw [if_neg c, if_pos (by decide), if_neg (by omega)]
    rfl
theorem here_s (H : TM M tx sz) {i : Nat} (hi : i < 1000) (h12 : M.1 12 = nI i) : fX10_here M = some (if i < sz then nI (tx i) else 0) := by
  unfold fX10_here
  rw [h12, H.1]
  by_cases c : i < sz
  · have := H.2.1
    rw [if_neg (nI_ge c (by omega)), if_neg (nI_in (show i < 200 by omega) (by decide)), nI_clamp (by omega), if_pos c, (H.2.2 i c).1]
  · rw [if_pos (nI_le (by omega) (by omega)), if_neg c]
theorem isFigure_s (H : TM M tx sz) {i : Nat} (hi : i < 1000) (h12 : M.1 12 = nI i) : fX10_isFigure M = some (if (fg tx sz i).isSome then 1 else 0) := by
  unfold fX10_isFigure fg
  rw [here_s H hi h12, Option.bind_some]
  by_cases c : i < sz
  · have h := H.2.2 i c
    have := in_s (lo := 48) (hi := 57) (v := tx i) (by decide) (by decide) (by omega)
    rw [if_pos c, show fX10_in (nI (tx i)) 48 57 = _ from this]
    by_cases c1 : 48 ≤ tx i ∧ tx i ≤ 57
    · rw [if_pos c1, if_pos (show i < sz ∧ 48 ≤ tx i ∧ tx i ≤ 57 from ⟨c, c1⟩)]
      rfl
    · rw [if_neg c1, if_neg (show ¬ (i < sz ∧ 48 ≤ tx i ∧ tx i ≤ 57) from fun q => c1 q.2)]
      rfl
  · rw [if_neg c, if_neg (show ¬ (i < sz ∧ 48 ≤ tx i ∧ tx i ≤ 57) from fun q => c q.1)]
    rfl
theorem readNumber_s (H : TL L tx sz) {K : tK} {i : Nat} (hi : i < 900) (h : K.2.1 = nI i) : fX8_readNumber K L = some (match nuA tx sz i with
  | none => (-1, K)
  | some (v, k) => (nI v, (K.1, nI k, K.2.2))) := by
  unfold fX8_readNumber nuA
  rw [h, figureAt_s H (by omega), Option.bind_some]
  cases h1 : fg tx sz i with
  | none => rfl
  | some a =>
    have a1 := fg_lt h1
    rw [if_pos (show 0 ≤ e1 (some a) from nI_pos' (by omega)), nI_1, figureAt_s H (by omega), Option.bind_some]
    cases h2 : fg tx sz (i + 1) with
    | none => rfl
    | some b =>
      have b1 := fg_lt h2
      rw [if_pos (show 0 ≤ e1 (some b) from nI_pos' (by omega)), nI_1]
      show some (nI a * 10 + nI b, _) = some (nI (10 * a + b), _)
      rw [show nI a * 10 = nI (a * 10) from pk_mul a 10, nI_add, Nat.mul_comm]
/-- the reference reads a number with its end -/
def FN (M M' : tM) : Prop := (∀ j, j ≠ 12 → j ≠ 13 → M'.1 j = M.1 j) ∧ M'.2.1 = M.2.1
theorem number_s (H : TM M tx sz) {i lo hi e : Nat} (hi9 : i < 900) (h12 : M.1 12 = nI i) (hlo : lo < 1000) (hhi : hi < 1000) (he : 0 < e ∧ e < 1000) : match nuC tx sz i e with
  | none => ∃ M', fX10_number M (nI lo) (nI hi) (nI e) = some (0, M') ∧ FN M M'
  | some (v, k) => if lo ≤ v ∧ v ≤ hi then fX10_number M (nI lo) (nI hi) (nI e) = some (1, (va_up (va_up M.1 12 (nI k)) 13 (nI v), M.2.1, M.2.2)) else ∃ M', fX10_number M (nI lo) (nI hi) (nI e) = some (0, M') ∧ FN M M' := by
  have fn2 : ∀ x y : Int32, FN M (va_up (va_up M.1 12 x) 13 y, M.2.1, M.2.2) := fun x y => ⟨fun j j1 j2 => (vu_n j2).trans (vu_n j1), rfl⟩
  have tm2 : ∀ x y : Int32, TM (va_up (va_up M.1 12 x) 13 y, M.2.1, M.2.2) tx sz := fun x y => H
  have tm1 : ∀ x : Int32, TM (va_up M.1 12 x, M.2.1, M.2.2) tx sz := fun x => H
  unfold nuC nuA fX10_number
  rw [isFigure_s H (by omega) h12, Option.bind_some]
  cases h1 : fg tx sz i with
  | none => exact ⟨M, rfl, fun _ _ _ => rfl, rfl⟩
  | some a =>
    have a1 := fg_lt h1
    rw [here_s H (by omega) h12, h12, Option.bind_some, if_pos a1.1, nI_1, isFigure_s (M := (va_up M.1 12 (nI (i + 1)), M.2.1, M.2.2)) (tm1 _) (i := i + 1) (by omega) rfl, Option.bind_some, show nI (tx i) - 48 = nI a by rw [a1.2.2]; exact pk_sub (a := a + 48) (b := 48) (by omega)]
    have s1 : ∀ x : Nat, ¬ (if (some x).isSome = true then (1 : Int32) else 0) = 0 := fun x => by
      show ¬ (1 : Int32) = 0
      decide
    rw [if_pos (s1 a)]
    cases h2 : fg tx sz (i + 1) with
    | none =>
      rw [if_pos (show (if (none : Option Nat).isSome = true then (1 : Int32) else 0) = 0 by decide), here_s (M := (va_up (va_up M.1 12 (nI (i + 1))) 13 (nI a), M.2.1, M.2.2)) (tm2 _ _) (i := i + 1) (by omega) rfl, Option.bind_some, nI_1]
      dsimp only
      by_cases c : i + 1 < sz
      · rw [if_pos c]
        have := (H.2.2 _ c).2
        by_cases c2 : tx (i + 1) = e
        · rw [if_neg (show ¬ ¬ nI (tx (i + 1)) = nI e from fun q => q (by rw [c2])), if_pos (show i + 1 < sz ∧ tx (i + 1) = e from ⟨c, c2⟩), in_s (by omega) (by omega) (by omega)]
          dsimp only
          by_cases c3 : lo ≤ a ∧ a ≤ hi
          · rw [if_pos c3, if_pos c3, if_pos (show ¬ (1 : Int32) = 0 by decide)]
          · rw [if_neg c3, if_neg c3, if_neg (show ¬ ¬ (0 : Int32) = 0 by decide)]
            exact ⟨_, rfl, fn2 _ _⟩
        · rw [if_pos (show ¬ nI (tx (i + 1)) = nI e from fun q => c2 ((nI_eq (by omega) (by omega)).mp q)), if_neg (show ¬ (i + 1 < sz ∧ tx (i + 1) = e) from fun q => c2 q.2)]
          exact ⟨_, rfl, fn2 _ _⟩
      · rw [if_neg c, if_neg (show ¬ (i + 1 < sz ∧ tx (i + 1) = e) from fun q => c q.1), if_pos (show ¬ (0 : Int32) = nI e from fun q => nI_ne0 he.1 (by omega) q.symm)]
        exact ⟨_, rfl, fn2 _ _⟩
    | some b =>
      have b1 := fg_lt h2
      rw [if_neg (s1 b), here_s (M := (va_up M.1 12 (nI (i + 1)), M.2.1, M.2.2)) (tm1 _) (i := i + 1) (by omega) rfl, Option.bind_some, if_pos b1.1, nI_1]
      rw [show (10 : Int32) * nI a = nI (10 * a) from pk_mul 10 a, nI_add, b1.2.2, show nI (10 * a + (b + 48)) - 48 = nI (10 * a + b) from pk_sub (a := 10 * a + (b + 48)) (b := 48) (by omega)]
      rw [here_s (M := (va_up (va_up M.1 12 (nI (i + 1 + 1))) 13 (nI (10 * a + b)), M.2.1, M.2.2)) (tm2 _ _) (i := i + 2) (by omega) rfl, Option.bind_some, nI_1]
      dsimp only
      by_cases c : i + 2 < sz
      · rw [if_pos c]
        have := (H.2.2 _ c).2
        by_cases c2 : tx (i + 2) = e
        · rw [if_neg (show ¬ ¬ nI (tx (i + 2)) = nI e from fun q => q (by rw [c2])), if_pos (show i + 2 < sz ∧ tx (i + 2) = e from ⟨c, c2⟩), in_s (by omega) (by omega) (by omega)]
          dsimp only
          by_cases c3 : lo ≤ 10 * a + b ∧ 10 * a + b ≤ hi
          · rw [if_pos c3, if_pos c3, if_pos (show ¬ (1 : Int32) = 0 by decide)]
          · rw [if_neg c3, if_neg c3, if_neg (show ¬ ¬ (0 : Int32) = 0 by decide)]
            exact ⟨_, rfl, fn2 _ _⟩
        · rw [if_pos (show ¬ nI (tx (i + 2)) = nI e from fun q => c2 ((nI_eq (by omega) (by omega)).mp q)), if_neg (show ¬ (i + 2 < sz ∧ tx (i + 2) = e) from fun q => c2 q.2)]
          exact ⟨_, rfl, fn2 _ _⟩
      · rw [if_neg c, if_neg (show ¬ (i + 2 < sz ∧ tx (i + 2) = e) from fun q => c q.1), if_pos (show ¬ (0 : Int32) = nI e from fun q => nI_ne0 he.1 (by omega) q.symm)]
        exact ⟨_, rfl, fn2 _ _⟩
end TEXT
