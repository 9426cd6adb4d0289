/-! both trees by one relation; figures of a key -/
def RR (b : Int32) (P K : Nat → Int32) (r0 : Int32) (th : Nat → Bool) (pa ky : Nat → Nat) : Prop := (∀ v, v < 24 → th v = bt b v) ∧ (∀ v, 24 ≤ v → th v = false) ∧ (∀ v, 1 ≤ v → th v = true → P v = nI (pa v) ∧ K v = nI (ky v) ∧ pa v < 24 ∧ 0 < ky v ∧ ky v < 1000000000) ∧ (th 0 = true → P 0 = r0 ∧ K 0 = 0)
theorem RT_RR {T : tT} {th : Nat → Bool} {pa ky : Nat → Nat} : RT T th pa ky ↔ RR T.2.2.2.1 T.2.1 T.2.2.1 (-1) th pa ky := Iff.rfl
theorem RM_RR {M : tM} {th : Nat → Bool} {pa ky : Nat → Nat} : RM M th pa ky ↔ RR (M.1 0) (M.2.1 4) (M.2.1 5) (-4) th pa ky := Iff.rfl
theorem RR_add {b : Int32} {P K : Nat → Int32} {r0 : Int32} {th : Nat → Bool} {pa ky : Nat → Nat} (R : RR b P K r0 th pa ky) {c p r : Nat} (hc0 : 1 ≤ c) (hc : c < 24) (hp : p < 24) (hr : 0 < r ∧ r < 1000000000) : RR (b ||| (1 <<< (nI c &&& 31))) (upd P c (nI p)) (upd K c (nI r)) r0 (thA th c) (fnA pa c p) (fnA ky c r) := by
  refine ⟨fun v hv => ?_, fun v hv => ?_, fun v h1 hv => ?_, fun h0 => ?_⟩
  · rw [bt_set _ (by omega) (by omega), ← R.1 v hv]
    rfl
  · unfold thA
    rw [R.2.1 v hv, decide_eq_false (by omega)]
    rfl
  · by_cases e : v = c
    · subst e
      unfold fnA
      rw [if_pos rfl, if_pos rfl]
      exact ⟨pk_us, pk_us, hp, hr⟩
    · have hv2 : th v = true := by
        unfold thA at hv
        rw [decide_eq_false e, Bool.or_false] at hv
        exact hv
      have h := R.2.2.1 v h1 hv2
      unfold fnA
      rw [if_neg e, if_neg e]
      exact ⟨(pk_un e).trans h.1, (pk_un e).trans h.2.1, h.2.2⟩
  · have hv2 : th 0 = true := by
      unfold thA at h0
      rw [decide_eq_false (by omega), Bool.or_false] at h0
      exact h0
    have h := R.2.2.2 hv2
    exact ⟨(pk_un (by omega)).trans h.1, (pk_un (by omega)).trans h.2⟩
/-- fewer nodes: the same data -/
theorem RR_sub {b b' : Int32} {P K : Nat → Int32} {r0 : Int32} {th th' : Nat → Bool} {pa ky : Nat → Nat} (R : RR b P K r0 th pa ky) (hb : ∀ v, v < 24 → th' v = bt b' v) (h24 : ∀ v, 24 ≤ v → th' v = false) (hs : ∀ v, th' v = true → th v = true) : RR b' P K r0 th' pa ky :=
  ⟨hb, h24, fun v h1 hv => R.2.2.1 v h1 (hs v hv), fun h0 => R.2.2.2 (hs 0 h0)⟩
/-! figures -/
def lenN : Nat → Nat → Nat
  | 0, _ => 0
  | 1, _ => 1
  | j + 2, r => if r % 10 = 0 then lenN (j + 1) (r / 10) else j + 2
def cutN : Nat → Nat → Nat
  | 0, r => r
  | 1, r => r
  | j + 2, r => if r % 10 = 0 then cutN (j + 1) (r / 10) else r
theorem rem10 {r : Nat} (h : r < 2147483648) : nI r - nI r / 10 * 10 = nI (r % 10) := pk_rem (d := 10) h (by decide) (by decide)
theorem div10 {r : Nat} (h : r < 2147483648) : nI r / 10 = nI (r / 10) := pk_div (d := 10) h (by decide) (by decide)
theorem rem0 {r : Nat} : nI (r % 10) = 0 ↔ r % 10 = 0 := by
  have := nI_eq (a := r % 10) (b := 0) (by omega) (by decide)
  exact this
theorem llen {n : Nat} : ∀ m j r, 1 ≤ j → j < m → j ≤ 9 → r < 2147483648 → lX0_length_5 n m (nI j) (nI r) = some (nI (lenN j r))
  | 0, _, _, _, h, _, _ => absurd h (Nat.not_lt_zero _)
  | m + 1, 0, _, h, _, _, _ => absurd h (by decide)
  | m + 1, 1, r, _, _, _, _ => by
    rw [lX0_length_5, if_pos (show nI 1 ≤ 1 by decide)]
    rfl
  | m + 1, j + 2, r, _, hm, hj, hr => by
    rw [lX0_length_5, if_neg (show ¬ nI (j + 2) ≤ 1 from nI_ge (a := 1) (by omega) (by omega)), rem10 hr, div10 hr, show nI (j + 2) + (-1) = nI (j + 1) from pk_m1 (j + 1)]
    unfold lenN
    by_cases c : r % 10 = 0
    · rw [if_neg (fun q => q (rem0.mpr c)), if_pos c]
      exact llen m (j + 1) (r / 10) (by omega) (by omega) (by omega) (by omega)
    · rw [if_pos (fun q => c (rem0.mp q)), if_neg c]
theorem X0_length {n r : Nat} (hn : 100 ≤ n) (hr : r < 2147483648) : fX0_length n (nI r) = some (nI (lenN 9 r)) := llen n 9 r (by decide) (by omega) (by decide) hr
theorem lenN_in : ∀ j r, 1 ≤ j → 1 ≤ lenN j r ∧ lenN j r ≤ j
  | 0, _, h => absurd h (by decide)
  | 1, _, _ => ⟨Nat.le_refl 1, Nat.le_refl 1⟩
  | j + 2, r, _ => by
    unfold lenN
    split
    · have := lenN_in (j + 1) (r / 10) (by omega)
      omega
    · omega
theorem lfig {n : Nat} : ∀ m i r, i ≤ 9 → 9 - i < m → r < 2147483648 → lX0_figures_7 n m (nI r) (nI i) = some (nI (r / 10 ^ (9 - i)))
  | 0, _, _, _, h, _ => absurd h (Nat.not_lt_zero _)
  | m + 1, i, r, hi, hm, hr => by
    rw [lX0_figures_7]
    by_cases c : i = 9
    · subst c
      rw [if_pos (show (9 : Int32) ≤ nI 9 by decide)]
      simp
    · rw [if_neg (show ¬ (9 : Int32) ≤ nI i from nI_ge (b := 9) (by omega) (by decide)), div10 hr, nI_1, lfig m (i + 1) (r / 10) (by omega) (by omega) (by omega)]
      rw [show 9 - i = (9 - (i + 1)) + 1 by omega, Nat.pow_succ, Nat.mul_comm, Nat.div_div_eq_div_mul]
theorem cut_len : ∀ j r, 1 ≤ j → cutN j r = r / 10 ^ (j - lenN j r)
  | 0, _, h => absurd h (by decide)
  | 1, r, _ => by simp [cutN, lenN]
  | j + 2, r, _ => by
    unfold cutN lenN
    split
    · have h := lenN_in (j + 1) (r / 10) (by omega)
      rw [cut_len (j + 1) (r / 10) (by omega), Nat.div_div_eq_div_mul, show j + 2 - lenN (j + 1) (r / 10) = (j + 1 - lenN (j + 1) (r / 10)) + 1 by omega, Nat.pow_succ, Nat.mul_comm]
    · simp
theorem X0_figures {n r : Nat} (hn : 100 ≤ n) (hr : r < 2147483648) : fX0_figures n (nI r) = some (nI (cutN 9 r)) := by
  unfold fX0_figures
  have h := lenN_in 9 r (by decide)
  rw [X0_length hn hr, Option.bind_some, lfig n (lenN 9 r) r h.2 (by omega) hr, cut_len 9 r (by decide)]
theorem lfo {n : Nat} : ∀ m j r, j < m → j ≤ 9 → 0 < r → r < 10 ^ j → lX10_figuresOf_5 n m (nI j) (nI r) = some (nI (lenN j r))
  | 0, _, _, h, _, _, _ => absurd h (Nat.not_lt_zero _)
  | m + 1, 0, r, _, _, h0, h => by simp at h; omega
  | m + 1, 1, r, _, _, h0, h => by
    have h : r < 10 := by simpa using h
    rw [lX10_figuresOf_5, rem10 (by omega), if_pos (fun q => by have := rem0.mp q; omega)]
    rfl
  | m + 1, j + 2, r, hm, hj, h0, h => by
    have h9 := tenj hj
    rw [lX10_figuresOf_5, rem10 (by omega), div10 (by omega), show nI (j + 2) + (-1) = nI (j + 1) from pk_m1 (j + 1)]
    unfold lenN
    by_cases c : r % 10 = 0
    · rw [if_neg (fun q => q (rem0.mpr c)), if_neg (nI_nle (by omega) (by omega)), if_pos c]
      rw [Nat.pow_succ] at h
      exact lfo m (j + 1) (r / 10) (by omega) (by omega) (by omega) (by omega)
    · rw [if_pos (fun q => c (rem0.mp q)), if_neg c]
theorem X10_figuresOf {n r : Nat} (hn : 100 ≤ n) (h0 : 0 < r) (hr : r < 1000000000) : fX10_figuresOf n (nI r) = some (nI (lenN 9 r)) := lfo n 9 r (by omega) (by decide) h0 (by simpa using hr)
theorem lno {n : Nat} : ∀ m j r, j < m → j ≤ 9 → 0 < r → r < 10 ^ j → lX10_numberOf_2 n m (nI r) = some (nI (cutN j r))
  | 0, _, _, h, _, _, _ => absurd h (Nat.not_lt_zero _)
  | m + 1, 0, r, _, _, h0, h => by simp at h; omega
  | m + 1, 1, r, _, _, h0, h => by
    have h : r < 10 := by simpa using h
    rw [lX10_numberOf_2, rem10 (by omega), if_pos (fun q => by have := rem0.mp q; omega)]
    rfl
  | m + 1, j + 2, r, hm, hj, h0, h => by
    have h9 := tenj hj
    rw [lX10_numberOf_2, rem10 (by omega), div10 (by omega)]
    unfold cutN
    by_cases c : r % 10 = 0
    · rw [if_neg (fun q => q (rem0.mpr c)), if_pos c]
      rw [Nat.pow_succ] at h
      exact lno m (j + 1) (r / 10) (by omega) (by omega) (by omega) (by omega)
    · rw [if_pos (fun q => c (rem0.mp q)), if_neg c]
theorem X10_numberOf {n r : Nat} (hn : 100 ≤ n) (h0 : 0 < r) (hr : r < 1000000000) : fX10_numberOf n (nI r) = some (nI (cutN 9 r)) := lno n 9 r (by omega) (by decide) h0 (by simpa using hr)
