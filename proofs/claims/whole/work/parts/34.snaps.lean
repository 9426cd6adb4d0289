/-! SNAPSHOTS of a tree: three numbers and three rows -/
abbrev tN : Type := Int32 × Int32 × Int32 × (Nat → Int32) × (Nat → Int32) × (Nat → Int32)
def mS (M : tM) : tN := (M.1 0, M.1 1, M.1 2, M.2.1 3, M.2.1 4, M.2.1 5)
def sB (a : Nat → Int32) (b : Nat) : tN := (a b, a (b + 1), a (b + 2), fun v => a (b + 3 + v), fun v => a (b + 27 + v), fun v => a (b + 51 + v))
def eS (s t : tN) : Prop := s.1 = t.1 ∧ s.2.1 = t.2.1 ∧ s.2.2.1 = t.2.2.1 ∧ ∀ v, v < 24 → s.2.2.2.1 v = t.2.2.2.1 v ∧ s.2.2.2.2.1 v = t.2.2.2.2.1 v ∧ s.2.2.2.2.2 v = t.2.2.2.2.2 v
theorem eS.symm {s t : tN} (h : eS s t) : eS t s := ⟨h.1.symm, h.2.1.symm, h.2.2.1.symm, fun v hv => ⟨(h.2.2.2 v hv).1.symm, (h.2.2.2 v hv).2.1.symm, (h.2.2.2 v hv).2.2.symm⟩⟩
theorem eS.trans {s t u : tN} (h : eS s t) (g : eS t u) : eS s u := ⟨h.1.trans g.1, h.2.1.trans g.2.1, h.2.2.1.trans g.2.2.1, fun v hv => ⟨(h.2.2.2 v hv).1.trans (g.2.2.2 v hv).1, (h.2.2.2 v hv).2.1.trans (g.2.2.2 v hv).2.1, (h.2.2.2 v hv).2.2.trans (g.2.2.2 v hv).2.2⟩⟩
theorem eS.refl (s : tN) : eS s s := ⟨rfl, rfl, rfl, fun _ _ => ⟨rfl, rfl, rfl⟩⟩
theorem sB_eq {a a' : Nat → Int32} {b b' : Nat} (h : ∀ i, i < 75 → a (b + i) = a' (b' + i)) : eS (sB a b) (sB a' b') := by
  refine ⟨h 0 (by omega), h 1 (by omega), h 2 (by omega), fun v hv => ⟨?_, ?_, ?_⟩⟩
  · have := h (3 + v) (by omega)
    rw [← Nat.add_assoc, ← Nat.add_assoc] at this
    exact this
  · have := h (27 + v) (by omega)
    rw [← Nat.add_assoc, ← Nat.add_assoc] at this
    exact this
  · have := h (51 + v) (by omega)
    rw [← Nat.add_assoc, ← Nat.add_assoc] at this
    exact this
theorem vu_s {α : Type} {f : Nat → α} {k : Nat} {x : α} : va_up f k x k = x := if_pos rfl
theorem vu_n {α : Type} {f : Nat → α} {k j : Nat} {x : α} (h : j ≠ k) : va_up f k x j = f j := if_neg h
theorem a_n (b d k : Nat) : (nI b + nI d) + nI k = nI (b + d + k) := by rw [nI_add, nI_add]
theorem a_3 (b k : Nat) : (nI b + 3) + nI k = nI (b + 3 + k) := a_n b 3 k
theorem a_27 (b k : Nat) : (nI b + 27) + nI k = nI (b + 27 + k) := a_n b 27 k
theorem a_51 (b k : Nat) : (nI b + 51) + nI k = nI (b + 51 + k) := a_n b 51 k
theorem a_1 (b : Nat) : nI b + 1 = nI (b + 1) := nI_1 b
theorem a_2 (b : Nat) : nI b + 2 = nI (b + 2) := nI_add b 2
theorem llays_77 {n b : Nat} (hb : b + 75 ≤ 600) : ∀ m k M, k ≤ 24 → 24 - k < m → ∃ M', lX10_lays_77_27 n m (nI b) (nI k) M = some M' ∧ M'.1 = M.1 ∧ (∀ j, j ≠ 6 → M'.2.1 j = M.2.1 j) ∧ (∀ v, k ≤ v → v < 24 → M'.2.1 6 (b + 3 + v) = M.2.1 3 v ∧ M'.2.1 6 (b + 27 + v) = M.2.1 4 v ∧ M'.2.1 6 (b + 51 + v) = M.2.1 5 v) ∧ (∀ i, (∀ v, k ≤ v → v < 24 → i ≠ b + 3 + v ∧ i ≠ b + 27 + v ∧ i ≠ b + 51 + v) → M'.2.1 6 i = M.2.1 6 i)
  | 0, _, _, _, h => absurd h (Nat.not_lt_zero _)
  | m + 1, k, M, hk, hm => by
    rw [lX10_lays_77_27]
    by_cases e : k = 24
    · subst e
      rw [if_pos (show (24 : Int32) ≤ nI 24 by decide)]
      exact ⟨M, rfl, rfl, fun _ _ => rfl, fun v h1 h2 => absurd h1 (by omega), fun _ _ => rfl⟩
    have k24 : k < 24 := by omega
    rw [if_neg (show ¬ (24 : Int32) ≤ nI k from nI_ge (b := 24) k24 (by decide)), if_neg (vi_nI k24), a_3, a_27, a_51, if_neg (nI_in (show b + 3 + k < 600 by omega) (by decide)), if_neg (nI_in (show b + 27 + k < 600 by omega) (by decide)), if_neg (nI_in (show b + 51 + k < 600 by omega) (by decide)), nI_c k24, nI_clamp (show b + 3 + k < 2 ^ 31 by omega), nI_clamp (show b + 27 + k < 2 ^ 31 by omega), nI_clamp (show b + 51 + k < 2 ^ 31 by omega), nI_1]
    obtain ⟨M', h1, h2, h3, h4, h5⟩ := llays_77 hb m (k + 1) (M.1, va_up M.2.1 6 (upd (upd (upd (M.2.1 6) (b + 3 + k) (M.2.1 3 k)) (b + 27 + k) (M.2.1 4 k)) (b + 51 + k) (M.2.1 5 k)), M.2.2) (by omega) (by omega)
    have h5 : ∀ i, (∀ v, k + 1 ≤ v → v < 24 → i ≠ b + 3 + v ∧ i ≠ b + 27 + v ∧ i ≠ b + 51 + v) → M'.2.1 6 i = upd (upd (upd (M.2.1 6) (b + 3 + k) (M.2.1 3 k)) (b + 27 + k) (M.2.1 4 k)) (b + 51 + k) (M.2.1 5 k) i := h5
    refine ⟨M', h1, h2, fun j hj => (h3 j hj).trans (vu_n hj), fun v v1 v2 => ?_, fun i hi => ?_⟩
    · by_cases ev : v = k
      · subst ev
        refine ⟨?_, ?_, ?_⟩
        · rw [h5 _ (fun u u1 u2 => by omega)]
          rw [pk_un (by omega), pk_un (by omega), pk_us]
        · rw [h5 _ (fun u u1 u2 => by omega)]
          rw [pk_un (by omega), pk_us]
        · rw [h5 _ (fun u u1 u2 => by omega)]
          rw [pk_us]
      · have := h4 v (by omega) v2
        exact this
    · rw [h5 i (fun u u1 u2 => hi u (by omega) u2)]
      have := hi k (by omega) k24
      rw [pk_un this.2.2, pk_un this.2.1, pk_un this.1]
theorem X10_lays_77 {n b : Nat} (hn : 100 ≤ n) (hb : b + 75 ≤ 600) (M : tM) : ∃ M', fX10_lays_77 n M (nI b) = some M' ∧ M'.1 = M.1 ∧ (∀ j, j ≠ 6 → M'.2.1 j = M.2.1 j) ∧ eS (sB (M'.2.1 6) b) (mS M) ∧ (∀ i, (i < b ∨ b + 75 ≤ i) → M'.2.1 6 i = M.2.1 6 i) := by
  unfold fX10_lays_77
  rw [a_1, a_2, if_neg (nI_in (show b < 600 by omega) (by decide)), if_neg (nI_in (show b + 1 < 600 by omega) (by decide)), if_neg (nI_in (show b + 2 < 600 by omega) (by decide)), nI_clamp (show b < 2 ^ 31 by omega), nI_clamp (show b + 1 < 2 ^ 31 by omega), nI_clamp (show b + 2 < 2 ^ 31 by omega)]
  obtain ⟨M', h1, h2, h3, h4, h5⟩ := llays_77 (n := n) hb n 0 (M.1, va_up M.2.1 6 (upd (upd (upd (M.2.1 6) b (M.1 0)) (b + 1) (M.1 1)) (b + 2) (M.1 2)), M.2.2) (by omega) (by omega)
  have h5 : ∀ i, (∀ v, 0 ≤ v → v < 24 → i ≠ b + 3 + v ∧ i ≠ b + 27 + v ∧ i ≠ b + 51 + v) → M'.2.1 6 i = upd (upd (upd (M.2.1 6) b (M.1 0)) (b + 1) (M.1 1)) (b + 2) (M.1 2) i := h5
  refine ⟨M', h1, h2, fun j hj => (h3 j hj).trans (vu_n hj), ⟨?_, ?_, ?_, fun v hv => h4 v (by omega) hv⟩, fun i hi => ?_⟩
  · show M'.2.1 6 b = M.1 0
    rw [h5 _ (fun u u1 u2 => by omega)]
    rw [pk_un (by omega), pk_un (by omega), pk_us]
  · show M'.2.1 6 (b + 1) = M.1 1
    rw [h5 _ (fun u u1 u2 => by omega)]
    rw [pk_un (by omega), pk_us]
  · show M'.2.1 6 (b + 2) = M.1 2
    rw [h5 _ (fun u u1 u2 => by omega)]
    rw [pk_us]
  · rw [h5 i (fun u u1 u2 => by omega)]
    rw [pk_un (by omega), pk_un (by omega), pk_un (by omega)]
theorem ltakes_77 {n b : Nat} (hb : b + 75 ≤ 600) : ∀ m k M, k ≤ 24 → 24 - k < m → ∃ M', lX10_takes_77_27 n m (nI b) (nI k) M = some M' ∧ M'.1 = M.1 ∧ (∀ j, j ≠ 3 → j ≠ 4 → j ≠ 5 → M'.2.1 j = M.2.1 j) ∧ (∀ v, k ≤ v → v < 24 → M'.2.1 3 v = M.2.1 6 (b + 3 + v) ∧ M'.2.1 4 v = M.2.1 6 (b + 27 + v) ∧ M'.2.1 5 v = M.2.1 6 (b + 51 + v)) ∧ (∀ v, v < k → M'.2.1 3 v = M.2.1 3 v ∧ M'.2.1 4 v = M.2.1 4 v ∧ M'.2.1 5 v = M.2.1 5 v)
  | 0, _, _, _, h => absurd h (Nat.not_lt_zero _)
  | m + 1, k, M, hk, hm => by
    rw [lX10_takes_77_27]
    by_cases e : k = 24
    · subst e
      rw [if_pos (show (24 : Int32) ≤ nI 24 by decide)]
      exact ⟨M, rfl, rfl, fun _ _ _ _ => rfl, fun v h1 h2 => absurd h1 (by omega), fun _ _ => ⟨rfl, rfl, rfl⟩⟩
    have k24 : k < 24 := by omega
    rw [if_neg (show ¬ (24 : Int32) ≤ nI k from nI_ge (b := 24) k24 (by decide)), if_neg (vi_nI k24), a_3, a_27, a_51, if_neg (nI_in (show b + 3 + k < 600 by omega) (by decide)), if_neg (nI_in (show b + 27 + k < 600 by omega) (by decide)), if_neg (nI_in (show b + 51 + k < 600 by omega) (by decide)), nI_c k24, nI_clamp (show b + 3 + k < 2 ^ 31 by omega), nI_clamp (show b + 27 + k < 2 ^ 31 by omega), nI_clamp (show b + 51 + k < 2 ^ 31 by omega), nI_1]
    obtain ⟨M', h1, h2, h3, h4, h5⟩ := ltakes_77 hb m (k + 1) (M.1, va_up (va_up (va_up M.2.1 3 (upd (M.2.1 3) k (M.2.1 6 (b + 3 + k)))) 4 (upd (M.2.1 4) k (M.2.1 6 (b + 27 + k)))) 5 (upd (M.2.1 5) k (M.2.1 6 (b + 51 + k))), M.2.2) (by omega) (by omega)
    refine ⟨M', h1, h2, fun j j3 j4 j5 => (h3 j j3 j4 j5).trans ?_, fun v v1 v2 => ?_, fun v hv => ?_⟩
    · show va_up (va_up (va_up M.2.1 3 _) 4 _) 5 _ j = _
      rw [vu_n j5, vu_n j4, vu_n j3]
    · by_cases ev : v = k
      · subst ev
        obtain ⟨g1, g2, g3⟩ := h5 v (by omega)
        rw [g1, g2, g3]
        exact ⟨pk_us, pk_us, pk_us⟩
      · have := h4 v (by omega) v2
        exact this
    · obtain ⟨g1, g2, g3⟩ := h5 v (by omega)
      rw [g1, g2, g3]
      exact ⟨pk_un (by omega), pk_un (by omega), pk_un (by omega)⟩
theorem X10_takes_77 {n b : Nat} (hn : 100 ≤ n) (hb : b + 75 ≤ 600) (M : tM) : ∃ M', fX10_takes_77 n M (nI b) = some M' ∧ (∀ j, 3 ≤ j → M'.1 j = M.1 j) ∧ (∀ j, j ≠ 3 → j ≠ 4 → j ≠ 5 → M'.2.1 j = M.2.1 j) ∧ eS (mS M') (sB (M.2.1 6) b) := by
  unfold fX10_takes_77
  rw [a_1, a_2, if_neg (nI_in (show b < 600 by omega) (by decide)), if_neg (nI_in (show b + 1 < 600 by omega) (by decide)), if_neg (nI_in (show b + 2 < 600 by omega) (by decide)), nI_clamp (show b < 2 ^ 31 by omega), nI_clamp (show b + 1 < 2 ^ 31 by omega), nI_clamp (show b + 2 < 2 ^ 31 by omega)]
  obtain ⟨M', h1, h2, h3, h4, h5⟩ := ltakes_77 (n := n) hb n 0 (va_up (va_up (va_up M.1 0 (M.2.1 6 b)) 1 (M.2.1 6 (b + 1))) 2 (M.2.1 6 (b + 2)), M.2.1, M.2.2) (by omega) (by omega)
  refine ⟨M', h1, fun j hj => ?_, h3, ?_, ?_, ?_, fun v hv => h4 v (by omega) hv⟩
  · rw [h2]
    show va_up (va_up (va_up M.1 0 _) 1 _) 2 _ j = _
    rw [vu_n (by omega), vu_n (by omega), vu_n (by omega)]
  · show M'.1 0 = _
    rw [h2]
    rfl
  · show M'.1 1 = _
    rw [h2]
    rfl
  · show M'.1 2 = _
    rw [h2]
    rfl
theorem llays_78 {n b : Nat} (hb : b + 75 ≤ 150) : ∀ m k M, k ≤ 24 → 24 - k < m → ∃ M', lX10_lays_78_27 n m (nI b) (nI k) M = some M' ∧ M'.1 = M.1 ∧ (∀ j, j ≠ 8 → M'.2.1 j = M.2.1 j) ∧ (∀ v, k ≤ v → v < 24 → M'.2.1 8 (b + 3 + v) = M.2.1 3 v ∧ M'.2.1 8 (b + 27 + v) = M.2.1 4 v ∧ M'.2.1 8 (b + 51 + v) = M.2.1 5 v) ∧ (∀ i, (∀ v, k ≤ v → v < 24 → i ≠ b + 3 + v ∧ i ≠ b + 27 + v ∧ i ≠ b + 51 + v) → M'.2.1 8 i = M.2.1 8 i)
  | 0, _, _, _, h => absurd h (Nat.not_lt_zero _)
  | m + 1, k, M, hk, hm => by
    rw [lX10_lays_78_27]
    by_cases e : k = 24
    · subst e
      rw [if_pos (show (24 : Int32) ≤ nI 24 by decide)]
      exact ⟨M, rfl, rfl, fun _ _ => rfl, fun v h1 h2 => absurd h1 (by omega), fun _ _ => rfl⟩
    have k24 : k < 24 := by omega
    rw [if_neg (show ¬ (24 : Int32) ≤ nI k from nI_ge (b := 24) k24 (by decide)), if_neg (vi_nI k24), a_3, a_27, a_51, if_neg (nI_in (show b + 3 + k < 150 by omega) (by decide)), if_neg (nI_in (show b + 27 + k < 150 by omega) (by decide)), if_neg (nI_in (show b + 51 + k < 150 by omega) (by decide)), nI_c k24, nI_clamp (show b + 3 + k < 2 ^ 31 by omega), nI_clamp (show b + 27 + k < 2 ^ 31 by omega), nI_clamp (show b + 51 + k < 2 ^ 31 by omega), nI_1]
    obtain ⟨M', h1, h2, h3, h4, h5⟩ := llays_78 hb m (k + 1) (M.1, va_up M.2.1 8 (upd (upd (upd (M.2.1 8) (b + 3 + k) (M.2.1 3 k)) (b + 27 + k) (M.2.1 4 k)) (b + 51 + k) (M.2.1 5 k)), M.2.2) (by omega) (by omega)
    have h5 : ∀ i, (∀ v, k + 1 ≤ v → v < 24 → i ≠ b + 3 + v ∧ i ≠ b + 27 + v ∧ i ≠ b + 51 + v) → M'.2.1 8 i = upd (upd (upd (M.2.1 8) (b + 3 + k) (M.2.1 3 k)) (b + 27 + k) (M.2.1 4 k)) (b + 51 + k) (M.2.1 5 k) i := h5
    refine ⟨M', h1, h2, fun j hj => (h3 j hj).trans (vu_n hj), fun v v1 v2 => ?_, fun i hi => ?_⟩
    · by_cases ev : v = k
      · subst ev
        refine ⟨?_, ?_, ?_⟩
        · rw [h5 _ (fun u u1 u2 => by omega)]
          rw [pk_un (by omega), pk_un (by omega), pk_us]
        · rw [h5 _ (fun u u1 u2 => by omega)]
          rw [pk_un (by omega), pk_us]
        · rw [h5 _ (fun u u1 u2 => by omega)]
          rw [pk_us]
      · have := h4 v (by omega) v2
        exact this
    · rw [h5 i (fun u u1 u2 => hi u (by omega) u2)]
      have := hi k (by omega) k24
      rw [pk_un this.2.2, pk_un this.2.1, pk_un this.1]
theorem X10_lays_78 {n b : Nat} (hn : 100 ≤ n) (hb : b + 75 ≤ 150) (M : tM) : ∃ M', fX10_lays_78 n M (nI b) = some M' ∧ M'.1 = M.1 ∧ (∀ j, j ≠ 8 → M'.2.1 j = M.2.1 j) ∧ eS (sB (M'.2.1 8) b) (mS M) ∧ (∀ i, (i < b ∨ b + 75 ≤ i) → M'.2.1 8 i = M.2.1 8 i) := by
  unfold fX10_lays_78
  rw [a_1, a_2, if_neg (nI_in (show b < 150 by omega) (by decide)), if_neg (nI_in (show b + 1 < 150 by omega) (by decide)), if_neg (nI_in (show b + 2 < 150 by omega) (by decide)), nI_clamp (show b < 2 ^ 31 by omega), nI_clamp (show b + 1 < 2 ^ 31 by omega), nI_clamp (show b + 2 < 2 ^ 31 by omega)]
  obtain ⟨M', h1, h2, h3, h4, h5⟩ := llays_78 (n := n) hb n 0 (M.1, va_up M.2.1 8 (upd (upd (upd (M.2.1 8) b (M.1 0)) (b + 1) (M.1 1)) (b + 2) (M.1 2)), M.2.2) (by omega) (by omega)
  have h5 : ∀ i, (∀ v, 0 ≤ v → v < 24 → i ≠ b + 3 + v ∧ i ≠ b + 27 + v ∧ i ≠ b + 51 + v) → M'.2.1 8 i = upd (upd (upd (M.2.1 8) b (M.1 0)) (b + 1) (M.1 1)) (b + 2) (M.1 2) i := h5
  refine ⟨M', h1, h2, fun j hj => (h3 j hj).trans (vu_n hj), ⟨?_, ?_, ?_, fun v hv => h4 v (by omega) hv⟩, fun i hi => ?_⟩
  · show M'.2.1 8 b = M.1 0
    rw [h5 _ (fun u u1 u2 => by omega)]
    rw [pk_un (by omega), pk_un (by omega), pk_us]
  · show M'.2.1 8 (b + 1) = M.1 1
    rw [h5 _ (fun u u1 u2 => by omega)]
    rw [pk_un (by omega), pk_us]
  · show M'.2.1 8 (b + 2) = M.1 2
    rw [h5 _ (fun u u1 u2 => by omega)]
    rw [pk_us]
  · rw [h5 i (fun u u1 u2 => by omega)]
    rw [pk_un (by omega), pk_un (by omega), pk_un (by omega)]
theorem ltakes_78 {n b : Nat} (hb : b + 75 ≤ 150) : ∀ m k M, k ≤ 24 → 24 - k < m → ∃ M', lX10_takes_78_27 n m (nI b) (nI k) M = some M' ∧ M'.1 = M.1 ∧ (∀ j, j ≠ 3 → j ≠ 4 → j ≠ 5 → M'.2.1 j = M.2.1 j) ∧ (∀ v, k ≤ v → v < 24 → M'.2.1 3 v = M.2.1 8 (b + 3 + v) ∧ M'.2.1 4 v = M.2.1 8 (b + 27 + v) ∧ M'.2.1 5 v = M.2.1 8 (b + 51 + v)) ∧ (∀ v, v < k → M'.2.1 3 v = M.2.1 3 v ∧ M'.2.1 4 v = M.2.1 4 v ∧ M'.2.1 5 v = M.2.1 5 v)
  | 0, _, _, _, h => absurd h (Nat.not_lt_zero _)
  | m + 1, k, M, hk, hm => by
    rw [lX10_takes_78_27]
    by_cases e : k = 24
    · subst e
      rw [if_pos (show (24 : Int32) ≤ nI 24 by decide)]
      exact ⟨M, rfl, rfl, fun _ _ _ _ => rfl, fun v h1 h2 => absurd h1 (by omega), fun _ _ => ⟨rfl, rfl, rfl⟩⟩
    have k24 : k < 24 := by omega
    rw [if_neg (show ¬ (24 : Int32) ≤ nI k from nI_ge (b := 24) k24 (by decide)), if_neg (vi_nI k24), a_3, a_27, a_51, if_neg (nI_in (show b + 3 + k < 150 by omega) (by decide)), if_neg (nI_in (show b + 27 + k < 150 by omega) (by decide)), if_neg (nI_in (show b + 51 + k < 150 by omega) (by decide)), nI_c k24, nI_clamp (show b + 3 + k < 2 ^ 31 by omega), nI_clamp (show b + 27 + k < 2 ^ 31 by omega), nI_clamp (show b + 51 + k < 2 ^ 31 by omega), nI_1]
    obtain ⟨M', h1, h2, h3, h4, h5⟩ := ltakes_78 hb m (k + 1) (M.1, va_up (va_up (va_up M.2.1 3 (upd (M.2.1 3) k (M.2.1 8 (b + 3 + k)))) 4 (upd (M.2.1 4) k (M.2.1 8 (b + 27 + k)))) 5 (upd (M.2.1 5) k (M.2.1 8 (b + 51 + k))), M.2.2) (by omega) (by omega)
    refine ⟨M', h1, h2, fun j j3 j4 j5 => (h3 j j3 j4 j5).trans ?_, fun v v1 v2 => ?_, fun v hv => ?_⟩
    · show va_up (va_up (va_up M.2.1 3 _) 4 _) 5 _ j = _
      rw [vu_n j5, vu_n j4, vu_n j3]
    · by_cases ev : v = k
      · subst ev
        obtain ⟨g1, g2, g3⟩ := h5 v (by omega)
        rw [g1, g2, g3]
        exact ⟨pk_us, pk_us, pk_us⟩
      · have := h4 v (by omega) v2
        exact this
    · obtain ⟨g1, g2, g3⟩ := h5 v (by omega)
      rw [g1, g2, g3]
      exact ⟨pk_un (by omega), pk_un (by omega), pk_un (by omega)⟩
theorem X10_takes_78 {n b : Nat} (hn : 100 ≤ n) (hb : b + 75 ≤ 150) (M : tM) : ∃ M', fX10_takes_78 n M (nI b) = some M' ∧ (∀ j, 3 ≤ j → M'.1 j = M.1 j) ∧ (∀ j, j ≠ 3 → j ≠ 4 → j ≠ 5 → M'.2.1 j = M.2.1 j) ∧ eS (mS M') (sB (M.2.1 8) b) := by
  unfold fX10_takes_78
  rw [a_1, a_2, if_neg (nI_in (show b < 150 by omega) (by decide)), if_neg (nI_in (show b + 1 < 150 by omega) (by decide)), if_neg (nI_in (show b + 2 < 150 by omega) (by decide)), nI_clamp (show b < 2 ^ 31 by omega), nI_clamp (show b + 1 < 2 ^ 31 by omega), nI_clamp (show b + 2 < 2 ^ 31 by omega)]
  obtain ⟨M', h1, h2, h3, h4, h5⟩ := ltakes_78 (n := n) hb n 0 (va_up (va_up (va_up M.1 0 (M.2.1 8 b)) 1 (M.2.1 8 (b + 1))) 2 (M.2.1 8 (b + 2)), M.2.1, M.2.2) (by omega) (by omega)
  refine ⟨M', h1, fun j hj => ?_, h3, ?_, ?_, ?_, fun v hv => h4 v (by omega) hv⟩
  · rw [h2]
    show va_up (va_up (va_up M.1 0 _) 1 _) 2 _ j = _
    rw [vu_n (by omega), vu_n (by omega), vu_n (by omega)]
  · show M'.1 0 = _
    rw [h2]
    rfl
  · show M'.1 1 = _
    rw [h2]
    rfl
  · show M'.1 2 = _
    rw [h2]
    rfl
theorem llays_80 {n b : Nat} (hb : b + 75 ≤ 75) : ∀ m k M, k ≤ 24 → 24 - k < m → ∃ M', lX10_lays_80_27 n m (nI b) (nI k) M = some M' ∧ M'.1 = M.1 ∧ (∀ j, j ≠ 14 → M'.2.1 j = M.2.1 j) ∧ (∀ v, k ≤ v → v < 24 → M'.2.1 14 (b + 3 + v) = M.2.1 3 v ∧ M'.2.1 14 (b + 27 + v) = M.2.1 4 v ∧ M'.2.1 14 (b + 51 + v) = M.2.1 5 v) ∧ (∀ i, (∀ v, k ≤ v → v < 24 → i ≠ b + 3 + v ∧ i ≠ b + 27 + v ∧ i ≠ b + 51 + v) → M'.2.1 14 i = M.2.1 14 i)
  | 0, _, _, _, h => absurd h (Nat.not_lt_zero _)
  | m + 1, k, M, hk, hm => by
    rw [lX10_lays_80_27]
    by_cases e : k = 24
    · subst e
      rw [if_pos (show (24 : Int32) ≤ nI 24 by decide)]
      exact ⟨M, rfl, rfl, fun _ _ => rfl, fun v h1 h2 => absurd h1 (by omega), fun _ _ => rfl⟩
    have k24 : k < 24 := by omega
    rw [if_neg (show ¬ (24 : Int32) ≤ nI k from nI_ge (b := 24) k24 (by decide)), if_neg (vi_nI k24), a_3, a_27, a_51, if_neg (nI_in (show b + 3 + k < 75 by omega) (by decide)), if_neg (nI_in (show b + 27 + k < 75 by omega) (by decide)), if_neg (nI_in (show b + 51 + k < 75 by omega) (by decide)), nI_c k24, nI_clamp (show b + 3 + k < 2 ^ 31 by omega), nI_clamp (show b + 27 + k < 2 ^ 31 by omega), nI_clamp (show b + 51 + k < 2 ^ 31 by omega), nI_1]
    obtain ⟨M', h1, h2, h3, h4, h5⟩ := llays_80 hb m (k + 1) (M.1, va_up M.2.1 14 (upd (upd (upd (M.2.1 14) (b + 3 + k) (M.2.1 3 k)) (b + 27 + k) (M.2.1 4 k)) (b + 51 + k) (M.2.1 5 k)), M.2.2) (by omega) (by omega)
    have h5 : ∀ i, (∀ v, k + 1 ≤ v → v < 24 → i ≠ b + 3 + v ∧ i ≠ b + 27 + v ∧ i ≠ b + 51 + v) → M'.2.1 14 i = upd (upd (upd (M.2.1 14) (b + 3 + k) (M.2.1 3 k)) (b + 27 + k) (M.2.1 4 k)) (b + 51 + k) (M.2.1 5 k) i := h5
    refine ⟨M', h1, h2, fun j hj => (h3 j hj).trans (vu_n hj), fun v v1 v2 => ?_, fun i hi => ?_⟩
    · by_cases ev : v = k
      · subst ev
        refine ⟨?_, ?_, ?_⟩
        · rw [h5 _ (fun u u1 u2 => by omega)]
          rw [pk_un (by omega), pk_un (by omega), pk_us]
        · rw [h5 _ (fun u u1 u2 => by omega)]
          rw [pk_un (by omega), pk_us]
        · rw [h5 _ (fun u u1 u2 => by omega)]
          rw [pk_us]
      · have := h4 v (by omega) v2
        exact this
    · rw [h5 i (fun u u1 u2 => hi u (by omega) u2)]
      have := hi k (by omega) k24
      rw [pk_un this.2.2, pk_un this.2.1, pk_un this.1]
theorem X10_lays_80 {n b : Nat} (hn : 100 ≤ n) (hb : b + 75 ≤ 75) (M : tM) : ∃ M', fX10_lays_80 n M (nI b) = some M' ∧ M'.1 = M.1 ∧ (∀ j, j ≠ 14 → M'.2.1 j = M.2.1 j) ∧ eS (sB (M'.2.1 14) b) (mS M) ∧ (∀ i, (i < b ∨ b + 75 ≤ i) → M'.2.1 14 i = M.2.1 14 i) := by
  unfold fX10_lays_80
  rw [a_1, a_2, if_neg (nI_in (show b < 75 by omega) (by decide)), if_neg (nI_in (show b + 1 < 75 by omega) (by decide)), if_neg (nI_in (show b + 2 < 75 by omega) (by decide)), nI_clamp (show b < 2 ^ 31 by omega), nI_clamp (show b + 1 < 2 ^ 31 by omega), nI_clamp (show b + 2 < 2 ^ 31 by omega)]
  obtain ⟨M', h1, h2, h3, h4, h5⟩ := llays_80 (n := n) hb n 0 (M.1, va_up M.2.1 14 (upd (upd (upd (M.2.1 14) b (M.1 0)) (b + 1) (M.1 1)) (b + 2) (M.1 2)), M.2.2) (by omega) (by omega)
  have h5 : ∀ i, (∀ v, 0 ≤ v → v < 24 → i ≠ b + 3 + v ∧ i ≠ b + 27 + v ∧ i ≠ b + 51 + v) → M'.2.1 14 i = upd (upd (upd (M.2.1 14) b (M.1 0)) (b + 1) (M.1 1)) (b + 2) (M.1 2) i := h5
  refine ⟨M', h1, h2, fun j hj => (h3 j hj).trans (vu_n hj), ⟨?_, ?_, ?_, fun v hv => h4 v (by omega) hv⟩, fun i hi => ?_⟩
  · show M'.2.1 14 b = M.1 0
    rw [h5 _ (fun u u1 u2 => by omega)]
    rw [pk_un (by omega), pk_un (by omega), pk_us]
  · show M'.2.1 14 (b + 1) = M.1 1
    rw [h5 _ (fun u u1 u2 => by omega)]
    rw [pk_un (by omega), pk_us]
  · show M'.2.1 14 (b + 2) = M.1 2
    rw [h5 _ (fun u u1 u2 => by omega)]
    rw [pk_us]
  · rw [h5 i (fun u u1 u2 => by omega)]
    rw [pk_un (by omega), pk_un (by omega), pk_un (by omega)]
theorem ltakes_80 {n b : Nat} (hb : b + 75 ≤ 75) : ∀ m k M, k ≤ 24 → 24 - k < m → ∃ M', lX10_takes_80_27 n m (nI b) (nI k) M = some M' ∧ M'.1 = M.1 ∧ (∀ j, j ≠ 3 → j ≠ 4 → j ≠ 5 → M'.2.1 j = M.2.1 j) ∧ (∀ v, k ≤ v → v < 24 → M'.2.1 3 v = M.2.1 14 (b + 3 + v) ∧ M'.2.1 4 v = M.2.1 14 (b + 27 + v) ∧ M'.2.1 5 v = M.2.1 14 (b + 51 + v)) ∧ (∀ v, v < k → M'.2.1 3 v = M.2.1 3 v ∧ M'.2.1 4 v = M.2.1 4 v ∧ M'.2.1 5 v = M.2.1 5 v)
  | 0, _, _, _, h => absurd h (Nat.not_lt_zero _)
  | m + 1, k, M, hk, hm => by
    rw [lX10_takes_80_27]
    by_cases e : k = 24
    · subst e
      rw [if_pos (show (24 : Int32) ≤ nI 24 by decide)]
      exact ⟨M, rfl, rfl, fun _ _ _ _ => rfl, fun v h1 h2 => absurd h1 (by omega), fun _ _ => ⟨rfl, rfl, rfl⟩⟩
    have k24 : k < 24 := by omega
    rw [if_neg (show ¬ (24 : Int32) ≤ nI k from nI_ge (b := 24) k24 (by decide)), if_neg (vi_nI k24), a_3, a_27, a_51, if_neg (nI_in (show b + 3 + k < 75 by omega) (by decide)), if_neg (nI_in (show b + 27 + k < 75 by omega) (by decide)), if_neg (nI_in (show b + 51 + k < 75 by omega) (by decide)), nI_c k24, nI_clamp (show b + 3 + k < 2 ^ 31 by omega), nI_clamp (show b + 27 + k < 2 ^ 31 by omega), nI_clamp (show b + 51 + k < 2 ^ 31 by omega), nI_1]
    obtain ⟨M', h1, h2, h3, h4, h5⟩ := ltakes_80 hb m (k + 1) (M.1, va_up (va_up (va_up M.2.1 3 (upd (M.2.1 3) k (M.2.1 14 (b + 3 + k)))) 4 (upd (M.2.1 4) k (M.2.1 14 (b + 27 + k)))) 5 (upd (M.2.1 5) k (M.2.1 14 (b + 51 + k))), M.2.2) (by omega) (by omega)
    refine ⟨M', h1, h2, fun j j3 j4 j5 => (h3 j j3 j4 j5).trans ?_, fun v v1 v2 => ?_, fun v hv => ?_⟩
    · show va_up (va_up (va_up M.2.1 3 _) 4 _) 5 _ j = _
      rw [vu_n j5, vu_n j4, vu_n j3]
    · by_cases ev : v = k
      · subst ev
        obtain ⟨g1, g2, g3⟩ := h5 v (by omega)
        rw [g1, g2, g3]
        exact ⟨pk_us, pk_us, pk_us⟩
      · have := h4 v (by omega) v2
        exact this
    · obtain ⟨g1, g2, g3⟩ := h5 v (by omega)
      rw [g1, g2, g3]
      exact ⟨pk_un (by omega), pk_un (by omega), pk_un (by omega)⟩
theorem X10_takes_80 {n b : Nat} (hn : 100 ≤ n) (hb : b + 75 ≤ 75) (M : tM) : ∃ M', fX10_takes_80 n M (nI b) = some M' ∧ (∀ j, 3 ≤ j → M'.1 j = M.1 j) ∧ (∀ j, j ≠ 3 → j ≠ 4 → j ≠ 5 → M'.2.1 j = M.2.1 j) ∧ eS (mS M') (sB (M.2.1 14) b) := by
  unfold fX10_takes_80
  rw [a_1, a_2, if_neg (nI_in (show b < 75 by omega) (by decide)), if_neg (nI_in (show b + 1 < 75 by omega) (by decide)), if_neg (nI_in (show b + 2 < 75 by omega) (by decide)), nI_clamp (show b < 2 ^ 31 by omega), nI_clamp (show b + 1 < 2 ^ 31 by omega), nI_clamp (show b + 2 < 2 ^ 31 by omega)]
  obtain ⟨M', h1, h2, h3, h4, h5⟩ := ltakes_80 (n := n) hb n 0 (va_up (va_up (va_up M.1 0 (M.2.1 14 b)) 1 (M.2.1 14 (b + 1))) 2 (M.2.1 14 (b + 2)), M.2.1, M.2.2) (by omega) (by omega)
  refine ⟨M', h1, fun j hj => ?_, h3, ?_, ?_, ?_, fun v hv => h4 v (by omega) hv⟩
  · rw [h2]
    show va_up (va_up (va_up M.1 0 _) 1 _) 2 _ j = _
    rw [vu_n (by omega), vu_n (by omega), vu_n (by omega)]
  · show M'.1 0 = _
    rw [h2]
    rfl
  · show M'.1 1 = _
    rw [h2]
    rfl
  · show M'.1 2 = _
    rw [h2]
    rfl
/-! notes: where eight are there, the first goes -/
theorem lnotes {n : Nat} : ∀ m k M, k ≤ 525 → 525 - k < m → ∃ M' : tM, lX10_notes_11 n m (nI k) M = ((fX10_lays_77 n (va_up M'.1 7 ((M'.1 7) - 1), M'.2.1, M'.2.2) (75 * ((M'.1 7) - 1))).bind fun y8 => some (va_up y8.1 7 ((y8.1 7) + 1), y8.2.1, y8.2.2)) ∧ M'.1 = M.1 ∧ (∀ j, j ≠ 6 → M'.2.1 j = M.2.1 j) ∧ (∀ i, k ≤ i → i < 525 → M'.2.1 6 i = M.2.1 6 (i + 75)) ∧ (∀ i, i < k → M'.2.1 6 i = M.2.1 6 i)
  | 0, _, _, _, h => absurd h (Nat.not_lt_zero _)
  | m + 1, k, M, hk, hm => by
    rw [lX10_notes_11]
    by_cases e : k = 525
    · subst e
      rw [if_pos (show (525 : Int32) ≤ nI 525 by decide)]
      exact ⟨M, rfl, rfl, fun _ _ => rfl, fun v h1 h2 => absurd h1 (by omega), fun _ _ => rfl⟩
    rw [if_neg (show ¬ (525 : Int32) ≤ nI k from nI_ge (b := 525) (by omega) (by decide)), show nI k + 75 = nI (k + 75) from nI_add k 75, if_neg (nI_in (show k + 75 < 600 by omega) (by decide)), if_neg (nI_in (show k < 600 by omega) (by decide)), nI_clamp (show k + 75 < 2 ^ 31 by omega), nI_clamp (show k < 2 ^ 31 by omega), nI_1]
    obtain ⟨M', h1, h2, h3, h4, h5⟩ := lnotes m (k + 1) (M.1, va_up M.2.1 6 (upd (M.2.1 6) k (M.2.1 6 (k + 75))), M.2.2) (by omega) (by omega)
    refine ⟨M', h1, h2, fun j hj => (h3 j hj).trans (vu_n hj), fun i i1 i2 => ?_, fun i hi => ?_⟩
    · by_cases ei : i = k
      · subst ei
        rw [h5 i (by omega)]
        exact pk_us
      · rw [h4 i (by omega) i2]
        exact pk_un (by omega)
    · rw [h5 i (by omega)]
      exact pk_un (by omega)
theorem X10_notes {n u : Nat} (hn : 3000 ≤ n) (hu : u ≤ 8) {M : tM} (hM : M.1 7 = nI u) : ∃ M' u' d, fX10_notes n M = some M' ∧ u' + d = u ∧ u' ≤ 7 ∧ (d = if u < 8 then 0 else 1) ∧ M'.1 7 = nI (u' + 1) ∧ (∀ j, j ≠ 7 → M'.1 j = M.1 j) ∧ (∀ j, j ≠ 6 → M'.2.1 j = M.2.1 j) ∧ (∀ k, k < u' → eS (sB (M'.2.1 6) (75 * k)) (sB (M.2.1 6) (75 * (k + d)))) ∧ eS (sB (M'.2.1 6) (75 * u')) (mS M) := by
  unfold fX10_notes
  by_cases c : u = 8
  · subst c
    rw [if_neg (fun q => q hM)]
    obtain ⟨M1, h1, h2, h3, h4, h5⟩ := lnotes (n := n) n 0 M (by omega) (by omega)
    have h1 : lX10_notes_11 n n 0 M = _ := h1
    rw [h1, show M1.1 7 = nI 8 by rw [h2, hM], show (75 : Int32) * (nI 8 - 1) = nI 525 by decide +kernel]
    obtain ⟨M2, g1, g2, g3, g4, g5⟩ := X10_lays_77 (n := n) (b := 525) (by omega) (by omega) (va_up M1.1 7 (nI 8 - 1), M1.2.1, M1.2.2)
    rw [g1, Option.bind_some]
    refine ⟨_, 7, 1, rfl, rfl, by omega, rfl, ?_, fun j hj => ?_, fun j hj => (g3 j hj).trans (h3 j hj), fun k hk => ?_, ?_⟩
    · show M2.1 7 + 1 = _
      rw [g2]
      show (nI 8 - 1) + 1 = nI 8
      decide +kernel
    · show va_up M2.1 7 _ j = _
      rw [vu_n hj, g2]
      show va_up M1.1 7 _ j = _
      rw [vu_n hj, h2]
    · refine sB_eq (fun i hi => ?_)
      show M2.2.1 6 _ = _
      rw [g5 _ (by omega)]
      show M1.2.1 6 _ = _
      rw [h4 _ (by omega) (by omega), show 75 * k + i + 75 = 75 * (k + 1) + i by omega]
    · refine g4.trans ?_
      refine ⟨?_, ?_, ?_, fun v hv => ⟨?_, ?_, ?_⟩⟩
      · show M1.1 0 = M.1 0
        rw [h2]
      · show M1.1 1 = M.1 1
        rw [h2]
      · show M1.1 2 = M.1 2
        rw [h2]
      · show M1.2.1 3 v = M.2.1 3 v
        rw [h3 3 (by omega)]
      · show M1.2.1 4 v = M.2.1 4 v
        rw [h3 4 (by omega)]
      · show M1.2.1 5 v = M.2.1 5 v
        rw [h3 5 (by omega)]
  · rw [hM, if_pos (show ¬ nI u = 8 from fun q => c ((nI_eq (a := u) (b := 8) (by omega) (by decide)).mp q)), show (75 : Int32) * nI u = nI (75 * u) from pk_mul 75 u]
    obtain ⟨M2, g1, g2, g3, g4, g5⟩ := X10_lays_77 (n := n) (b := 75 * u) (by omega) (by omega) M
    rw [g1, Option.bind_some]
    refine ⟨_, u, 0, rfl, rfl, by omega, (if_pos (by omega)).symm, ?_, fun j hj => ?_, g3, fun k hk => ?_, g4⟩
    · show M2.1 7 + 1 = _
      rw [g2, hM, nI_1]
    · show va_up M2.1 7 _ j = _
      rw [vu_n hj, g2]
    · refine sB_eq (fun i hi => ?_)
      show M2.2.1 6 _ = _
      rw [g5 _ (by omega)]
      rfl
