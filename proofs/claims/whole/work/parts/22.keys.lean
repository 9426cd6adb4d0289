/-! the i-th child; keys between; figures -/
def wfT (th : Nat → Bool) (pa ky : Nat → Nat) : Prop := (∀ v, 1 ≤ v → th v = true → pa v < v ∧ th (pa v) = true ∧ 0 < ky v ∧ ky v < 1000000000) ∧ (∀ v w, 1 ≤ v → 1 ≤ w → th v = true → th w = true → pa v = pa w → ky v = ky w → v = w) ∧ (∀ v, 24 ≤ v → th v = false)
theorem wfT.lt {th : Nat → Bool} {pa ky : Nat → Nat} (w : wfT th pa ky) {v : Nat} (h : th v = true) : v < 24 := by
  rcases Nat.lt_or_ge v 24 with q | q
  · exact q
  · rw [w.2.2 v q] at h
    cases h
def ca (th : Nat → Bool) (pa ky : Nat → Nat) (p : Nat) : Nat → Option Nat
  | 0 => nk th pa ky p 0
  | i + 1 => (ca th pa ky p i).bind fun v => nk th pa ky p (ky v)
def kcsU (th : Nat → Bool) (pa ky : Nat → Nat) (p s : Nat) : Nat → Nat
  | 0 => 0
  | k + 1 => kcsU th pa ky p s k + (if 1 ≤ k ∧ th k = true ∧ pa k = p ∧ ky k ≤ s then 1 else 0)
section CA
variable {th : Nat → Bool} {pa ky : Nat → Nat} {p s : Nat}
theorem kcs_step (w : wfT th pa ky) {v : Nat} (h : nk th pa ky p s = some v) : ∀ k, k ≤ 24 → kcsU th pa ky p (ky v) k = kcsU th pa ky p s k + (if v < k then 1 else 0)
  | 0, _ => rfl
  | k + 1, hk => by
    have ih := kcs_step w h k (by omega)
    obtain ⟨a1, a2, a3⟩ := nk_spec h
    have hv := a2.2.2.2
    have e1 : (if v < k + 1 then 1 else 0) = (if v < k then 1 else 0) + (if v = k then 1 else 0) := by
      split <;> split <;> split <;> omega
    have e2 : (if 1 ≤ k ∧ th k = true ∧ pa k = p ∧ ky k ≤ ky v then 1 else 0) = (if 1 ≤ k ∧ th k = true ∧ pa k = p ∧ ky k ≤ s then 1 else 0) + (if v = k then 1 else 0) := by
      by_cases c : 1 ≤ k ∧ th k = true ∧ pa k = p
      · by_cases c2 : ky k ≤ s
        · rw [if_pos (show 1 ≤ k ∧ th k = true ∧ pa k = p ∧ ky k ≤ ky v from ⟨c.1, c.2.1, c.2.2, by omega⟩), if_pos (show 1 ≤ k ∧ th k = true ∧ pa k = p ∧ ky k ≤ s from ⟨c.1, c.2.1, c.2.2, c2⟩), if_neg (fun e => by subst e; omega)]
        · have c3 := a3 k (by omega) ⟨c.1, c.2.1, c.2.2, by omega⟩
          rw [if_neg (show ¬ (1 ≤ k ∧ th k = true ∧ pa k = p ∧ ky k ≤ s) from fun q => c2 q.2.2.2)]
          by_cases e : v = k
          · subst e
            rw [if_pos (show 1 ≤ v ∧ th v = true ∧ pa v = p ∧ ky v ≤ ky v from ⟨c.1, c.2.1, c.2.2, Nat.le_refl _⟩), if_pos rfl]
          · have : ¬ ky k ≤ ky v := fun q => e (w.2.1 v k a2.1 c.1 a2.2.1 c.2.1 (a2.2.2.1.trans c.2.2.symm) (by omega))
            rw [if_neg (show ¬ (1 ≤ k ∧ th k = true ∧ pa k = p ∧ ky k ≤ ky v) from fun q => this q.2.2.2), if_neg e]
      · rw [if_neg (show ¬ (1 ≤ k ∧ th k = true ∧ pa k = p ∧ ky k ≤ ky v) from fun q => c ⟨q.1, q.2.1, q.2.2.1⟩), if_neg (show ¬ (1 ≤ k ∧ th k = true ∧ pa k = p ∧ ky k ≤ s) from fun q => c ⟨q.1, q.2.1, q.2.2.1⟩), if_neg (fun e => c (by subst e; exact ⟨a2.1, a2.2.1, a2.2.2.1⟩))]
    show kcsU th pa ky p (ky v) k + _ = kcsU th pa ky p s k + _ + _
    rw [ih, e1, e2]
    omega
theorem kcs_none (h : nk th pa ky p s = none) : ∀ k, k ≤ 24 → kcsU th pa ky p s k = kcU th pa p k
  | 0, _ => rfl
  | k + 1, hk => by
    have ih := kcs_none h k (by omega)
    have h2 := nk_none h k (by omega)
    unfold kcsU kcU
    rw [ih]
    by_cases c : 1 ≤ k ∧ th k = true ∧ pa k = p
    · have : ky k ≤ s := by
        rcases Nat.lt_or_ge s (ky k) with q | q
        · exact absurd ⟨c.1, c.2.1, c.2.2, q⟩ h2
        · exact q
      rw [if_pos (show 1 ≤ k ∧ th k = true ∧ pa k = p ∧ ky k ≤ s from ⟨c.1, c.2.1, c.2.2, this⟩), if_pos c]
    · rw [if_neg (show ¬ (1 ≤ k ∧ th k = true ∧ pa k = p ∧ ky k ≤ s) from fun q => c ⟨q.1, q.2.1, q.2.2.1⟩), if_neg c]
theorem kcs_0 (w : wfT th pa ky) : ∀ k, kcsU th pa ky p 0 k = 0
  | 0 => rfl
  | k + 1 => by
    unfold kcsU
    rw [kcs_0 w k, if_neg]
    intro q
    have := (w.1 k q.1 q.2.1).2.2.1
    omega
theorem kcs_le : ∀ k, kcsU th pa ky p s k ≤ kcU th pa p k
  | 0 => Nat.le_refl _
  | k + 1 => by
    have := kcs_le k
    unfold kcsU kcU
    split
    · rename_i c
      rw [if_pos ⟨c.1, c.2.1, c.2.2.1⟩]
      omega
    · split <;> omega
theorem ca_some (w : wfT th pa ky) : ∀ {i v : Nat}, ca th pa ky p i = some v → v < 24 ∧ 1 ≤ v ∧ th v = true ∧ pa v = p ∧ kcsU th pa ky p (ky v) 24 = i + 1
  | 0, v, h => by
    obtain ⟨a1, a2, a3⟩ := nk_spec h
    have := kcs_step w h 24 (Nat.le_refl _)
    rw [kcs_0 w, if_pos a1] at this
    exact ⟨a1, a2.1, a2.2.1, a2.2.2.1, this⟩
  | i + 1, v, h => by
    obtain ⟨u, h1, h2⟩ := Option.bind_eq_some_iff.mp h
    obtain ⟨a1, a2, a3⟩ := nk_spec h2
    have := kcs_step w h2 24 (Nat.le_refl _)
    rw [(ca_some w h1).2.2.2.2, if_pos a1] at this
    exact ⟨a1, a2.1, a2.2.1, a2.2.2.1, this⟩
theorem ca_lt (w : wfT th pa ky) {i v : Nat} (h : ca th pa ky p i = some v) : i < kc th pa p := by
  have h1 := (ca_some w h).2.2.2.2
  have h2 := kcs_le (th := th) (pa := pa) (ky := ky) (p := p) (s := ky v) 24
  unfold kc
  omega
theorem ca_none (w : wfT th pa ky) : ∀ {i : Nat}, ca th pa ky p i = none → kc th pa p ≤ i
  | 0, h => by
    have h1 := kcs_none h 24 (Nat.le_refl _)
    rw [kcs_0 w] at h1
    unfold kc
    omega
  | i + 1, h => by
    cases hc : ca th pa ky p i with
    | none =>
      have := ca_none w hc
      omega
    | some v =>
      have h2 : nk th pa ky p (ky v) = none := by
        have h3 : (ca th pa ky p i).bind (fun v => nk th pa ky p (ky v)) = none := h
        rw [hc] at h3
        exact h3
      have h1 := kcs_none h2 24 (Nat.le_refl _)
      rw [(ca_some w hc).2.2.2.2] at h1
      unfold kc
      omega
theorem ca_end {i : Nat} (h : ca th pa ky p i = none) : ∀ d, ca th pa ky p (i + d) = none
  | 0 => h
  | d + 1 => by
    show (ca th pa ky p (i + d)).bind _ = none
    rw [ca_end h d]
    rfl
theorem kc_le : kc th pa p ≤ 24 := kcU_le th pa p 24
theorem X7_spot {T : tT} (R : RT T th pa ky) {v : Nat} (h1 : 1 ≤ v) (hv : v < 24) (ht : th v = true) : fX7_spotOf T (nI v) = nI (ky v) := by
  unfold fX7_spotOf
  rw [X7_num hv, if_neg (by decide), nI_c hv]
  exact (R.2.2.1 v h1 ht).2.1
theorem lca7 {T : tT} {n : Nat} (w : wfT th pa ky) (R : RT T th pa ky) (hn : 100 ≤ n) (hp : p < 24) {i : Nat} (hi : i < 2147483648) : ∀ m j, j ≤ i → j ≤ 24 → 25 - j ≤ m → lX7_childAt_10 n T m (nI p) (nI i) (e1 (ca th pa ky p j)) (nI j) = some (e1 (ca th pa ky p i))
  | 0, j, _, h2, h => absurd h (by omega)
  | m + 1, j, h1, h2, h3 => by
    rw [lX7_childAt_10]
    by_cases c : j = i
    · subst c
      rw [if_pos ((nI_leI hi hi).mpr (Nat.le_refl _))]
    · rw [if_neg (fun q => c (by have := (nI_leI hi (by omega)).mp q; omega))]
      cases hc : ca th pa ky p j with
      | none =>
        have := ca_end hc (i - j)
        rw [show j + (i - j) = i by omega] at this
        rw [this, if_pos (show fX7_isNumber (e1 none) = 0 by decide)]
      | some v =>
        obtain ⟨a1, a2, a3, a4, a5⟩ := ca_some w hc
        have hk := ca_lt w hc
        have hk2 := kc_le (th := th) (pa := pa) (p := p)
        have g := w.1 v a2 a3
        rw [show e1 (some v) = nI v from rfl, X7_num a1, if_neg (show ¬ (1 : Int32) = 0 by decide), if_neg (vi_nI a1), nI_c a1, (R.2.2.1 v a2 a3).2.1, X7_nextKid R hn hp (by omega)]
        have ih := lca7 (n := n) w R hn hp hi m (j + 1) (by omega) (by omega) (by omega)
        rw [show ca th pa ky p (j + 1) = nk th pa ky p (ky v) by show (ca th pa ky p j).bind _ = _; rw [hc]; rfl] at ih
        rw [nI_1]
        exact ih
theorem X7_childAt {T : tT} {n : Nat} (w : wfT th pa ky) (R : RT T th pa ky) (hn : 100 ≤ n) (hp : p < 24) {i : Nat} (hi : i < 2147483648) : fX7_childAt n T (nI p) (nI i) = some (e1 (ca th pa ky p i)) := by
  unfold fX7_childAt
  rw [show (0 : Int32) = nI 0 from rfl, X7_nextKid R hn hp (by decide)]
  exact lca7 w R hn hp hi n 0 (by omega) (by omega) (by omega)
theorem lca10 {M : tM} {n : Nat} (w : wfT th pa ky) (R : RM M th pa ky) (hn : 100 ≤ n) (hp : p < 24) {i : Nat} (hi : i < 2147483648) : ∀ m j, j ≤ i → j ≤ 24 → 25 - j ≤ m → lX10_childAt_10 n M m (nI p) (nI i) (e4 (ca th pa ky p j)) (nI j) = some (e4 (ca th pa ky p i))
  | 0, j, _, h2, h => absurd h (by omega)
  | m + 1, j, h1, h2, h3 => by
    rw [lX10_childAt_10]
    by_cases c : j = i
    · subst c
      rw [if_pos ((nI_leI hi hi).mpr (Nat.le_refl _))]
    · rw [if_neg (fun q => c (by have := (nI_leI hi (by omega)).mp q; omega))]
      cases hc : ca th pa ky p j with
      | none =>
        have := ca_end hc (i - j)
        rw [show j + (i - j) = i by omega] at this
        rw [this, if_pos (show e4 none = -4 from rfl)]
      | some v =>
        obtain ⟨a1, a2, a3, a4, a5⟩ := ca_some w hc
        have hk := ca_lt w hc
        have hk2 := kc_le (th := th) (pa := pa) (p := p)
        have g := w.1 v a2 a3
        rw [if_neg (show ¬ e4 (some v) = -4 from m4_ne (by omega)), show e4 (some v) = nI v from rfl, if_neg (vi_nI a1), nI_c a1, (R.2.2.1 v a2 a3).2.1, X10_childBehind R hn hp (by omega)]
        have ih := lca10 (n := n) w R hn hp hi m (j + 1) (by omega) (by omega) (by omega)
        rw [show ca th pa ky p (j + 1) = nk th pa ky p (ky v) by show (ca th pa ky p j).bind _ = _; rw [hc]; rfl] at ih
        rw [nI_1]
        exact ih
theorem X10_childAt {M : tM} {n : Nat} (w : wfT th pa ky) (R : RM M th pa ky) (hn : 100 ≤ n) (hp : p < 24) {i : Nat} (hi : i < 2147483648) : fX10_childAt n M (nI p) (nI i) = some (e4 (ca th pa ky p i)) := by
  unfold fX10_childAt
  rw [show (0 : Int32) = nI 0 from rfl, X10_childBehind R hn hp (by decide)]
  exact lca10 w R hn hp hi n 0 (by omega) (by omega) (by omega)
end CA
/-! keys between -/
def pkN (kd l g : Nat) : Nat := if kd = 1 then l else if kd = 2 then g else if kd = 3 then (if g < l + 1 then g else l + 1) else l + (g - l) / 2
def kbN (kd a b : Nat) : Nat → Nat
  | 0 => 0
  | j + 1 => if a / 10 ^ j + 1 ≤ (b - 1) / 10 ^ j then pkN kd (a / 10 ^ j + 1) ((b - 1) / 10 ^ j) * 10 ^ j else kbN kd a b j
theorem pkN_in (kd : Nat) {l g : Nat} (h : l ≤ g) : l ≤ pkN kd l g ∧ pkN kd l g ≤ g := by
  unfold pkN
  split
  · omega
  · split
    · omega
    · split
      · split <;> omega
      · omega
theorem kbN_in (kd a b : Nat) (hb : 1 ≤ b) : ∀ j, kbN kd a b j = 0 ∨ (a < kbN kd a b j ∧ kbN kd a b j < b)
  | 0 => Or.inl rfl
  | j + 1 => by
    unfold kbN
    split
    · rename_i h
      right
      obtain ⟨h1, h2⟩ := pkN_in kd h
      have hu : 0 < 10 ^ j := Nat.pow_pos (by decide)
      have e1 : a < (a / 10 ^ j + 1) * 10 ^ j := by
        have := Nat.div_add_mod a (10 ^ j)
        have := Nat.mod_lt a hu
        rw [Nat.add_mul, Nat.one_mul, Nat.mul_comm]
        omega
      have e2 : (b - 1) / 10 ^ j * 10 ^ j ≤ b - 1 := Nat.div_mul_le_self _ _
      have e3 := Nat.mul_le_mul_right (10 ^ j) h1
      have e4 := Nat.mul_le_mul_right (10 ^ j) h2
      omega
    · exact kbN_in kd a b hb j
theorem tenj {j : Nat} (h : j ≤ 9) : 10 ^ j ≤ 1000000000 := by
  have := Nat.pow_le_pow_right (show 0 < 10 by decide) h
  simpa using this
theorem nI_ten {j : Nat} (h : j ≤ 9) : nI (10 ^ (j + 1)) / 10 = nI (10 ^ j) ∨ j = 9 := by
  by_cases e : j = 9
  · exact Or.inr e
  · left
    have h1 := tenj (show j + 1 ≤ 9 by omega)
    rw [show (10 : Int32) = nI 10 from rfl, pk_div (by omega) (by decide) (by decide), Nat.pow_succ, Nat.mul_div_cancel _ (by decide)]
theorem X0_pick {kd l g : Nat} (hk : kd < 4) (hl : l ≤ 1000000001) (hg : g ≤ 1000000000) (hlg : l ≤ g) : fX0_pick (nI kd) (nI l) (nI g) = nI (pkN kd l g) := by
  have q1 : nI kd = 1 ↔ kd = 1 := nI_eq (b := 1) (by omega) (by decide)
  have q2 : nI kd = 2 ↔ kd = 2 := nI_eq (b := 2) (by omega) (by decide)
  have q3 : nI kd = 3 ↔ kd = 3 := nI_eq (b := 3) (by omega) (by decide)
  unfold fX0_pick pkN
  by_cases c1 : kd = 1
  · rw [if_pos (q1.mpr c1), if_pos c1]
  · rw [if_neg (fun q => c1 (q1.mp q)), if_neg c1]
    by_cases c2 : kd = 2
    · rw [if_pos (q2.mpr c2), if_pos c2]
    · rw [if_neg (fun q => c2 (q2.mp q)), if_neg c2]
      by_cases c3 : kd = 3
      · rw [if_pos (q3.mpr c3), if_pos c3, nI_1]
        by_cases c4 : g < l + 1
        · rw [if_pos ((nI_ltI (by omega) (by omega)).mpr c4), if_pos c4]
        · rw [if_neg (fun q => c4 ((nI_ltI (by omega) (by omega)).mp q)), if_neg c4]
      · rw [if_neg (fun q => c3 (q3.mp q)), if_neg c3]
        rw [pk_sub hlg, show (2 : Int32) = nI 2 from rfl, pk_div (by omega) (by decide) (by decide), nI_add]
section KB
variable {kd a b : Nat}
theorem lkb0 {n : Nat} (hk : kd < 4) (ha : a ≤ 1000000000) (hb1 : 1 ≤ b) (hb : b ≤ 1000000000) : ∀ m j, j ≤ 9 → j < m → lX0_choose_3 n m (nI kd) (nI a) (nI b) (if j = 0 then 0 else nI (10 ^ (j - 1))) = some (nI (kbN kd a b j))
  | 0, _, _, h => absurd h (Nat.not_lt_zero _)
  | m + 1, 0, _, _ => by
    rw [lX0_choose_3, if_pos rfl, if_pos (by decide)]
    rfl
  | m + 1, j + 1, hj, hm => by
    have ih := lkb0 (n := n) hk ha hb1 hb m j (by omega) (by omega)
    rw [if_neg (by omega), show j + 1 - 1 = j by omega]
    have h10 := tenj (show j ≤ 9 by omega)
    have hu : 0 < 10 ^ j := Nat.pow_pos (by decide)
    rw [lX0_choose_3, if_neg (nI_nle hu (by omega)), if_neg (nI_ne0 hu (by omega)), if_neg (nI_ne0 hu (by omega))]
    rw [show (1 : Int32) = nI 1 from rfl, pk_sub hb1, pk_div (by omega) hu (by omega), pk_div (by omega) hu (by omega), nI_add]
    have hd1 := Nat.div_le_self a (10 ^ j)
    have hd2 := Nat.div_le_self (b - 1) (10 ^ j)
    unfold kbN
    by_cases c : a / 10 ^ j + 1 ≤ (b - 1) / 10 ^ j
    · rw [if_neg (fun q => by have := (nI_ltI (by omega) (by omega)).mp q; omega), if_pos c, X0_pick hk (by omega) (by omega) c, pk_mul]
    · rw [if_pos ((nI_ltI (by omega) (by omega)).mpr (by omega)), if_neg c]
      have e : nI (10 ^ j) / 10 = if j = 0 then 0 else nI (10 ^ (j - 1)) := by
        cases j with
        | zero => rfl
        | succ i =>
          rw [if_neg (by omega), show i + 1 - 1 = i by omega]
          rcases nI_ten (show i ≤ 9 by omega) with h | h
          · exact h
          · omega
      rw [e]
      exact ih
theorem X0_choose {n : Nat} (hn : 100 ≤ n) (hk : kd < 4) (ha : a ≤ 1000000000) (hb1 : 1 ≤ b) (hb : b ≤ 1000000000) : fX0_choose n (nI kd) (nI a) (nI b) = some (nI (kbN kd a b 9)) := by
  unfold fX0_choose
  have := lkb0 (n := n) hk ha hb1 hb n 9 (by decide) (by omega)
  rw [if_neg (by decide)] at this
  exact this
theorem lkb10 {n : Nat} {M : tM} (hM : M.1 2 = nI kd) (hk : kd < 4) (ha : a ≤ 1000000000) (hb1 : 1 ≤ b) (hb : b ≤ 1000000000) : ∀ m j, j ≤ 9 → j < m → lX10_keyBetween_6 n M m (nI a) (nI b) (nI (10 ^ j)) (nI (10 - j)) = some (nI (kbN kd a b j))
  | 0, _, _, h => absurd h (Nat.not_lt_zero _)
  | m + 1, 0, _, _ => by
    rw [lX10_keyBetween_6, if_pos (show (9 : Int32) < nI (10 - 0) by decide)]
    rfl
  | m + 1, j + 1, hj, hm => by
    have ih := lkb10 (n := n) hM hk ha hb1 hb m j (by omega) (by omega)
    have h10 := tenj (show j ≤ 9 by omega)
    have hu : 0 < 10 ^ j := Nat.pow_pos (by decide)
    have e : nI (10 ^ (j + 1)) / 10 = nI (10 ^ j) := by
      rcases nI_ten (show j ≤ 9 by omega) with h | h
      · exact h
      · omega
    rw [lX10_keyBetween_6, if_neg (show ¬ (9 : Int32) < nI (10 - (j + 1)) from nI_nlt (a := 9) (by omega) (by decide)), e, if_neg (nI_ne0 hu (by omega)), if_neg (nI_ne0 hu (by omega))]
    rw [show (1 : Int32) = nI 1 from rfl, pk_sub hb1, pk_div (by omega) hu (by omega), pk_div (by omega) hu (by omega), nI_add, nI_add, hM]
    have hd1 := Nat.div_le_self a (10 ^ j)
    have hd2 := Nat.div_le_self (b - 1) (10 ^ j)
    unfold kbN
    by_cases c : a / 10 ^ j + 1 ≤ (b - 1) / 10 ^ j
    · rw [if_neg (fun q => by have := (nI_ltI (by omega) (by omega)).mp q; omega), if_pos c]
      have q1 : nI kd = nI 1 ↔ kd = 1 := nI_eq (b := 1) (by omega) (by decide)
      have q2 : nI kd = 2 ↔ kd = 2 := nI_eq (b := 2) (by omega) (by decide)
      have q3 : nI kd = 3 ↔ kd = 3 := nI_eq (b := 3) (by omega) (by decide)
      unfold pkN
      by_cases c1 : kd = 1
      · rw [if_neg (fun q => q (q1.mpr c1)), if_pos c1, pk_mul]
      · rw [if_pos (fun q => c1 (q1.mp q)), if_neg c1]
        by_cases c2 : kd = 2
        · rw [if_neg (fun q => q (q2.mpr c2)), if_pos c2, pk_mul]
        · rw [if_pos (show ¬ nI kd = 2 from fun q => c2 (q2.mp q)), if_neg c2]
          by_cases c3 : kd = 3
          · rw [if_neg (fun q => q (q3.mpr c3)), if_pos c3]
            by_cases c4 : (b - 1) / 10 ^ j < a / 10 ^ j + 1 + 1
            · rw [if_pos ((nI_leI (by omega) (by omega)).mpr (by omega)), if_pos c4, pk_mul]
              have : a / 10 ^ j + 1 = (b - 1) / 10 ^ j := by omega
              rw [this]
            · rw [if_neg (fun q => c4 (by have := (nI_leI (by omega) (by omega)).mp q; omega)), if_neg c4, nI_add, pk_mul]
          · rw [if_pos (show ¬ nI kd = 3 from fun q => c3 (q3.mp q)), if_neg c3]
            have hz := Nat.sub_le ((b - 1) / 10 ^ j) (a / 10 ^ j + 1)
            rw [pk_sub c, show (2 : Int32) = nI 2 from rfl, pk_div (show (b - 1) / 10 ^ j - (a / 10 ^ j + 1) < 2147483648 from Nat.lt_of_le_of_lt hz (by omega)) (by decide) (by decide), nI_add, pk_mul]
    · rw [if_pos ((nI_ltI (by omega) (by omega)).mpr (by omega)), if_neg c]
      rw [show 10 - (j + 1) + 1 = 10 - j by omega]
      exact ih
theorem X10_keyBetween {n : Nat} {M : tM} (hn : 100 ≤ n) (hM : M.1 2 = nI kd) (hk : kd < 4) (ha : a ≤ 1000000000) (hb1 : 1 ≤ b) (hb : b ≤ 1000000000) : fX10_keyBetween n M (nI a) (nI b) = some (nI (kbN kd a b 9)) := by
  unfold fX10_keyBetween
  exact lkb10 hM hk ha hb1 hb n 9 (by decide) (by omega)
end KB
