/-! the reference's walks: behind, placeOf, deepOf, isOver, belowSet, bits -/
section MOD
variable {th : Nat → Bool} {pa ky : Nat → Nat} {M : tM} {n : Nat}
theorem lbh (w : wfT th pa ky) (R : RM M th pa ky) (hn : 100 ≤ n) : ∀ m u, th u = true → u + 1 < m → lX10_behind_9 n M m (-4) (nI u) = some (e4 (upN th pa ky u))
  | 0, _, _, h => absurd h (Nat.not_lt_zero _)
  | m + 1, u, tu, hm => by
    have u24 := w.lt tu
    rw [lX10_behind_9, if_neg (fun q => q rfl), if_neg (vi_nI u24), nI_c u24]
    by_cases c : u = 0
    · subst c
      rw [(R.2.2.2 tu).1, if_pos rfl]
      rfl
    · have hu := w.1 u (by omega) tu
      have r := R.2.2.1 u (by omega) tu
      have p24 := w.lt hu.2.1
      rw [r.1, r.2.1, if_neg (m4_ne (by omega)), X10_childBehind R hn p24 (by omega), Option.bind_some]
      have us := up_step w (show 1 ≤ u by omega) tu
      cases hc : nk th pa ky (pa u) (ky u) with
      | none =>
        rw [hc] at us
        have us : upN th pa ky u = upN th pa ky (pa u) := us
        rw [us]
        exact lbh w R hn m (pa u) hu.2.1 (by omega)
      | some v =>
        rw [hc] at us
        rw [us]
        have v24 := (nk_spec hc).1
        cases m with
        | zero => omega
        | succ m =>
          rw [lX10_behind_9, if_pos (show ¬ e4 (some v) = -4 from m4_ne (by omega))]
theorem X10_behind (w : wfT th pa ky) (R : RM M th pa ky) (hn : 100 ≤ n) {v : Nat} (tv : th v = true) : fX10_behind n M (nI v) = some (e4 (bh th pa ky v)) := by
  have v24 := w.lt tv
  unfold fX10_behind bh
  rw [show (0 : Int32) = nI 0 from rfl, X10_childBehind R hn v24 (by decide), Option.bind_some]
  cases hc : nk th pa ky v 0 with
  | none => exact lbh w R hn n v tv (by omega)
  | some x =>
    have := (nk_spec hc).1
    cases n with
    | zero => omega
    | succ n => rw [lX10_behind_9, if_pos (show ¬ e4 (some x) = -4 from m4_ne (by omega))]
theorem lpl (w : wfT th pa ky) (h0 : th 0 = true) (R : RM M th pa ky) (hn : 100 ≤ n) {v : Nat} (tv : th v = true) : ∀ m k x, (pre th pa ky 0)[k]? = some x → k ≤ rk th pa ky v → rk th pa ky v - k < m → lX10_placeOf_4 n M m (nI v) (nI k) (nI x) = some (nI (rk th pa ky v))
  | 0, _, _, _, _, h => absurd h (Nat.not_lt_zero _)
  | m + 1, k, x, hx, hk, hm => by
    have tx := L_th w h0 hx
    have x24 := w.lt tx
    have v24 := w.lt tv
    rw [lX10_placeOf_4]
    by_cases c : x = v
    · subst c
      rw [if_pos rfl, rk_get w h0 hx]
    · rw [if_neg (fun q => c ((nI_eq (by omega) (by omega)).mp q)), X10_behind w R hn tx, Option.bind_some, nI_1]
      have hne : k ≠ rk th pa ky v := fun q => by
        have := get_rk w h0 tv
        rw [← q, hx] at this
        exact c (Option.some.inj this)
      have hl := rk_lt w h0 tv
      have hnx := L_next w h0 hx
      have hg := List.getElem?_eq_getElem (show k + 1 < (pre th pa ky 0).length by omega)
      rw [← hnx, hg]
      exact lpl w h0 R hn tv m (k + 1) _ hg (by omega) (by omega)
theorem X10_placeOf (w : wfT th pa ky) (h0 : th 0 = true) (R : RM M th pa ky) (hn : 100 ≤ n) {v : Nat} (tv : th v = true) : fX10_placeOf n M (nI v) = some (nI (rk th pa ky v)) := by
  have h1 := rk_lt w h0 tv
  have h2 := L_len w h0
  exact lpl w h0 R hn tv n 0 0 (L_0 w h0) (by omega) (by omega)
def pv (pa : Nat → Nat) (v : Nat) : Int32 := if v = 0 then -4 else nI (pa v)
theorem pv_M (R : RM M th pa ky) {v : Nat} (tv : th v = true) : M.2.1 4 v = pv pa v := by
  unfold pv
  by_cases c : v = 0
  · subst c
    rw [if_pos rfl, (R.2.2.2 tv).1]
  · rw [if_neg c, (R.2.2.1 v (by omega) tv).1]
theorem ldp (w : wfT th pa ky) (R : RM M th pa ky) : ∀ m v c, th v = true → v < m → lX10_deepOf_9 n M m (nI c) (pv pa v) = some (nI (c + dp pa v))
  | 0, _, _, _, h => absurd h (Nat.not_lt_zero _)
  | m + 1, v, c, tv, hm => by
    rw [lX10_deepOf_9]
    unfold pv
    by_cases c0 : v = 0
    · subst c0
      rw [if_pos rfl, if_pos rfl]
      rfl
    · have hv := w.1 v (by omega) tv
      have p24 := w.lt hv.2.1
      rw [if_neg c0, if_neg (m4_ne (by omega)), if_neg (vi_nI p24), nI_c p24, pv_M R hv.2.1, nI_1, ldp w R m (pa v) (c + 1) hv.2.1 (by omega), dp_step w (by omega) tv]
      congr 2
      omega
theorem X10_deepOf (w : wfT th pa ky) (R : RM M th pa ky) (hn : 100 ≤ n) {v : Nat} (tv : th v = true) : fX10_deepOf n M (nI v) = some (nI (dp pa v)) := by
  have v24 := w.lt tv
  unfold fX10_deepOf
  rw [if_neg (vi_nI v24), nI_c v24, pv_M R tv]
  have := ldp (n := n) w R n v 0 tv (by omega)
  rw [Nat.zero_add] at this
  exact this
theorem lov (w : wfT th pa ky) (R : RM M th pa ky) {v : Nat} (hv : v < 24) : ∀ m x, th x = true → x + 1 < m → lX10_isOver_2 n M m (nI v) (nI x) = some (if ov pa v x = true then 1 else 0)
  | 0, _, _, h => absurd h (Nat.not_lt_zero _)
  | m + 1, x, tx, hm => by
    have x24 := w.lt tx
    rw [lX10_isOver_2, if_neg (m4_ne (by omega))]
    by_cases c : x = v
    · subst c
      rw [if_pos rfl, if_neg (fun q => q rfl), ov_self, if_pos rfl]
    · rw [if_neg (fun q => c ((nI_eq (by omega) (by omega)).mp q)), if_neg (vi_nI x24), nI_c x24, pv_M R tx]
      by_cases c0 : x = 0
      · subst c0
        rw [ov_0 (fun e => c e.symm), if_neg (by decide)]
        cases m with
        | zero => omega
        | succ m =>
          rw [lX10_isOver_2, show pv pa 0 = -4 from rfl, if_pos rfl, if_pos (fun q => m4_ne (by omega) q.symm)]
      · have hx := w.1 x (by omega) tx
        unfold pv
        rw [if_neg c0, ov_step w (by omega) tx c]
        exact lov w R hv m (pa x) hx.2.1 (by omega)
theorem X10_isOver (w : wfT th pa ky) (R : RM M th pa ky) (hn : 100 ≤ n) {v x : Nat} (hv : v < 24) (tx : th x = true) : fX10_isOver n M (nI v) (nI x) = some (if ov pa v x = true then 1 else 0) := by
  have x24 := w.lt tx
  exact lov w R hv n x tx (by omega)
theorem or_zero (x : Int32) : x ||| 0 = x := by
  apply b_ext
  intro i _
  rw [b_or, b_0, Bool.or_false]
theorem lbs (w : wfT th pa ky) (R : RM M th pa ky) (hn : 100 ≤ n) {v : Nat} (hv : v < 24) : ∀ m k g, k ≤ 24 → 24 - k < m → (∀ i, i < 32 → bt g i = (decide (i < k) && (th i && (decide (i ≠ v) && ov pa v i)))) → ∃ g', lX10_belowSet_4 n M m (nI v) g (nI k) = some g' ∧ ∀ i, i < 32 → bt g' i = (decide (i < 24) && (th i && (decide (i ≠ v) && ov pa v i)))
  | 0, _, _, _, h, _ => absurd h (Nat.not_lt_zero _)
  | m + 1, k, g, hk, hm, hg => by
    rw [lX10_belowSet_4, or_zero]
    by_cases c : k = 24
    · subst c
      rw [if_pos ((le24 (Nat.le_refl _)).mpr rfl)]
      exact ⟨g, rfl, hg⟩
    · have hk2 : k < 24 := by omega
      rw [if_neg (by rw [le24 hk]; omega), nI_1]
      have keep : ((th k && (decide (k ≠ v) && ov pa v k)) = false) → ∀ i, i < 32 → bt g i = (decide (i < k + 1) && (th i && (decide (i ≠ v) && ov pa v i))) := fun hf i hi => by
        rw [hg i hi]
        by_cases e : i = k
        · subst e
          rw [hf, Bool.and_false, Bool.and_false]
        · congr 1
          have : (i < k) ↔ (i < k + 1) := by omega
          simp only [this]
      by_cases c1 : k = v
      · rw [if_pos (by rw [c1])]
        exact lbs w R hn hv m (k + 1) g (by omega) (by omega) (keep (by simp [c1]))
      · rw [if_neg (fun q => c1 ((nI_eq (by omega) (by omega)).mp q)), X10_has R hk2]
        by_cases c2 : th k = true
        · rw [if_pos c2, if_neg (by decide), X10_isOver w R hn hv c2, Option.bind_some]
          by_cases c3 : ov pa v k = true
          · rw [if_pos c3, if_neg (by decide)]
            refine lbs w R hn hv m (k + 1) _ (by omega) (by omega) (fun i hi => ?_)
            rw [bt_set g (by omega) hi, hg i hi]
            by_cases e : i = k
            · subst e
              simp [c1, c2, c3]
            · have : (i < k) ↔ (i < k + 1) := by omega
              simp only [this, decide_eq_false e, Bool.or_false]
          · rw [if_neg c3, if_pos rfl]
            exact lbs w R hn hv m (k + 1) g (by omega) (by omega) (keep (by simp [c3]))
        · rw [if_neg c2, if_pos rfl]
          exact lbs w R hn hv m (k + 1) g (by omega) (by omega) (keep (by simp [c2]))
theorem X10_belowSet (w : wfT th pa ky) (R : RM M th pa ky) (hn : 100 ≤ n) {v : Nat} (hv : v < 24) : ∃ g, fX10_belowSet n M (nI v) = some g ∧ ∀ i, i < 32 → bt g i = (decide (i < 24) && (th i && (decide (i ≠ v) && ov pa v i))) :=
  lbs w R hn hv n 0 0 (by omega) (by omega) (fun i _ => by simp [b_0])
end MOD
def cnt (p : Nat → Bool) (k : Nat) : Nat := ((List.range k).filter p).length
theorem cnt_s (p : Nat → Bool) (k : Nat) : cnt p (k + 1) = cnt p k + (if p k = true then 1 else 0) := by
  unfold cnt
  rw [List.range_succ, List.filter_append, List.length_append]
  congr 1
  by_cases c : p k = true
  · rw [if_pos c]
    simp [c]
  · rw [if_neg c]
    simp [c]
theorem bit_val (g : Int32) {k : Nat} (hk : k < 32) : (g >>> (nI k &&& 31)) &&& 1 = if bt g k = true then 1 else 0 := by
  by_cases c : bt g k = true
  · rw [if_pos c]
    exact (tb_iff g hk).mpr c
  · rw [if_neg c]
    apply b_ext
    intro i hi
    rw [b_and, b_sshr k hk g hi, b_0]
    by_cases e : i = 0
    · subst e
      have c' : bt g k = false := by simpa using c
      rw [Nat.add_zero, if_pos hk, c', Bool.false_and]
    · have : bt 1 i = false := (by decide +kernel : ∀ i, i < 32 → i ≠ 0 → bt 1 i = false) i hi e
      rw [this, Bool.and_false]
theorem lbits {n : Nat} (g : Int32) : ∀ m k, k ≤ 24 → 24 - k < m → lX10_bits_4 n m g (nI (cnt (bt g) k)) (nI k) = some (nI (cnt (bt g) 24))
  | 0, _, _, h => absurd h (Nat.not_lt_zero _)
  | m + 1, k, hk, hm => by
    rw [lX10_bits_4]
    by_cases c : k = 24
    · subst c
      rw [if_pos ((le24 (Nat.le_refl _)).mpr rfl)]
    · have ih := lbits (n := n) g m (k + 1) (by omega) (by omega)
      rw [if_neg (by rw [le24 hk]; omega), bit_val g (by omega), nI_1]
      rw [cnt_s] at ih
      by_cases c2 : bt g k = true
      · rw [if_pos c2] at ih ⊢
        rw [nI_1]
        exact ih
      · rw [if_neg c2] at ih ⊢
        rw [Int32.add_zero]
        exact ih
theorem X10_bits {n : Nat} (hn : 100 ≤ n) (g : Int32) : fX10_bits n g = some (nI (cnt (bt g) 24)) := lbits g n 0 (by omega) (by omega)
