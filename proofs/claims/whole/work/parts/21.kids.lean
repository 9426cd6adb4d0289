/-! children: the class's and the reference's searches are nk, kc, ca -/
def ek (ky : Nat → Nat) (o : Option Nat) : Int32 := match o with
  | none => 1000000000
  | some v => nI (ky v)
section KIDS
variable {th : Nat → Bool} {pa ky : Nat → Nat} {p s : Nat}
theorem nkU_skip {k : Nat} (h : ¬ (kdB th pa ky p s k ∧ ∀ b ∈ nkU th pa ky p s k, ky k < ky b)) : nkU th pa ky p s (k + 1) = nkU th pa ky p s k := by
  show (if _ then _ else _) = _
  rw [if_neg]
  exact fun q => h ⟨⟨q.1, q.2.1, q.2.2.1, q.2.2.2.1⟩, q.2.2.2.2⟩
theorem nkU_take {k : Nat} (h : kdB th pa ky p s k) (h2 : ∀ b ∈ nkU th pa ky p s k, ky k < ky b) : nkU th pa ky p s (k + 1) = some k := by
  show (if _ then _ else _) = _
  rw [if_pos ⟨h.1, h.2.1, h.2.2.1, h.2.2.2, h2⟩]
theorem nk_spec {v : Nat} (h : nk th pa ky p s = some v) : v < 24 ∧ kdB th pa ky p s v ∧ ∀ w, w < 24 → kdB th pa ky p s w → ky v ≤ ky w := (nkU_spec th pa ky p s 24).1 v h
theorem nk_none (h : nk th pa ky p s = none) : ∀ w, w < 24 → ¬ kdB th pa ky p s w := (nkU_spec th pa ky p s 24).2 h
theorem lnk7 {T : tT} {n : Nat} (R : RT T th pa ky) (hp : p < 24) (hs : s < 2147483648) : ∀ m k, 1 ≤ k → k ≤ 24 → 24 - k < m → lX7_nextKid_9 n T m (nI p) (nI s) (e1 (nkU th pa ky p s k)) (ek ky (nkU th pa ky p s k)) (nI k) = some (e1 (nk th pa ky p s))
  | 0, k, _, _, h => absurd h (Nat.not_lt_zero _)
  | m + 1, k, h1, h2, h3 => by
    have ih := lnk7 (n := n) R hp hs m (k + 1) (by omega)
    rw [lX7_nextKid_9]
    by_cases hk : k = 24
    · subst hk
      rw [if_pos ((le24 (Nat.le_refl _)).mpr rfl)]
      rfl
    · have hk : k < 24 := by omega
      have ih := ih (by omega) (by omega)
      rw [← nI_1] at ih
      rw [if_neg (by rw [le24 h2]; omega)]
      by_cases c1 : th k = true
      · have b1 : bt T.2.2.2.1 k = true := by rw [← R.1 k hk]; exact c1
        obtain ⟨g1, g2, g3, g4, g5⟩ := R.2.2.1 k h1 c1
        rw [if_neg (fun q => q ((tb_iff _ (by omega)).mpr b1)), if_neg (vi_nI hk), nI_c hk, g1, g2]
        by_cases c2 : pa k = p
        · rw [if_neg (fun q => q (by rw [c2]))]
          by_cases c3 : ky k ≤ s
          · rw [if_pos ((nI_leI (by omega) (by omega)).mpr c3)]
            rw [nkU_skip (fun q => by have := q.1.2.2.2; omega)] at ih
            exact ih
          · rw [if_neg (fun q => c3 ((nI_leI (by omega) (by omega)).mp q))]
            cases hb : nkU th pa ky p s k with
            | none =>
              rw [if_neg (show ¬ (ek ky none ≤ nI (ky k)) from nI_ge (a := ky k) (b := 1000000000) g5 (by decide))]
              rw [nkU_take ⟨h1, c1, c2, by omega⟩ (fun b q => by rw [hb] at q; cases q)] at ih
              exact ih
            | some b =>
              have sp := (nkU_spec th pa ky p s k).1 b hb
              have g6 := R.2.2.1 b sp.2.1.1 sp.2.1.2.1
              by_cases c4 : ky b ≤ ky k
              · rw [if_pos (show ek ky (some b) ≤ nI (ky k) from (nI_leI (by omega) (by omega)).mpr c4)]
                rw [nkU_skip (fun q => by have := q.2 b hb; omega), hb] at ih
                exact ih
              · rw [if_neg (show ¬ ek ky (some b) ≤ nI (ky k) from fun q => c4 ((nI_leI (by omega) (by omega)).mp q))]
                rw [nkU_take ⟨h1, c1, c2, by omega⟩ (fun b' q => by rw [hb] at q; cases q; omega)] at ih
                exact ih
        · rw [if_pos (fun q => c2 ((nI_eq (by omega) (by omega)).mp q))]
          rw [nkU_skip (fun q => c2 q.1.2.2.1)] at ih
          exact ih
      · have b1 : ¬ bt T.2.2.2.1 k = true := by rw [← R.1 k hk]; exact c1
        rw [if_pos (fun q => b1 ((tb_iff _ (by omega)).mp q))]
        rw [nkU_skip (fun q => c1 q.1.2.1)] at ih
        exact ih
theorem X7_nextKid {T : tT} {n : Nat} (R : RT T th pa ky) (hn : 100 ≤ n) (hp : p < 24) (hs : s < 2147483648) : fX7_nextKid n T (nI p) (nI s) = some (e1 (nk th pa ky p s)) := by
  unfold fX7_nextKid
  exact lnk7 R hp hs n 1 (by decide) (by decide) (by omega)
theorem X10_has {M : tM} (R : RM M th pa ky) {k : Nat} (h : k < 24) : fX10_has (M.1 0) (nI k) = if th k = true then 1 else 0 := by
  unfold fX10_has
  by_cases c : th k = true
  · rw [if_pos c, if_neg]
    rw [R.1 k h] at c
    exact fun q => q ((tb_iff _ (by omega)).mpr c)
  · rw [if_neg c, if_pos]
    rw [R.1 k h] at c
    exact fun q => c ((tb_iff _ (by omega)).mp q)
theorem m4_ne {b : Nat} (h : b < 2147483648) : ¬ nI b = (-4 : Int32) := fun e => by
  have := congrArg Int32.toInt e
  rw [nI_toInt h] at this
  have e4 : (-4 : Int32).toInt = -4 := rfl
  omega
theorem m1_ne {b : Nat} (h : b < 2147483648) : ¬ nI b = (-1 : Int32) := fun e => by
  have := congrArg Int32.toInt e
  rw [nI_toInt h] at this
  have e4 : (-1 : Int32).toInt = -1 := rfl
  omega
theorem lnk10 {M : tM} {n : Nat} (R : RM M th pa ky) (hp : p < 24) (hs : s < 2147483648) : ∀ m k, k ≤ 24 → 24 - k < m → lX10_childBehind_6 n M m (nI p) (nI s) (e4 (nkU th pa ky p s k)) (nI k) = some (e4 (nk th pa ky p s))
  | 0, k, _, h => absurd h (Nat.not_lt_zero _)
  | m + 1, k, h2, h3 => by
    have ih := lnk10 (n := n) R hp hs m (k + 1)
    rw [lX10_childBehind_6]
    by_cases hk : k = 24
    · subst hk
      rw [if_pos ((le24 (Nat.le_refl _)).mpr rfl)]
      rfl
    · have hk : k < 24 := by omega
      have ih := ih (by omega) (by omega)
      rw [← nI_1] at ih
      rw [if_neg (by rw [le24 h2]; omega), X10_has R hk]
      by_cases c1 : th k = true
      · rw [if_pos c1, if_neg (by decide), if_neg (vi_nI hk), nI_c hk]
        by_cases h0 : k = 0
        · subst h0
          rw [(R.2.2.2 c1).1, if_pos (fun q => m4_ne (by omega) q.symm)]
          rw [nkU_skip (fun q => absurd q.1.1 (by decide))] at ih
          exact ih
        have h1 : 1 ≤ k := by omega
        obtain ⟨g1, g2, g3, g4, g5⟩ := R.2.2.1 k h1 c1
        rw [g1, g2]
        by_cases c2 : pa k = p
        · rw [if_neg (fun q => q (by rw [c2]))]
          by_cases c3 : ky k ≤ s
          · rw [if_pos ((nI_leI (by omega) (by omega)).mpr c3)]
            rw [nkU_skip (fun q => by have := q.1.2.2.2; omega)] at ih
            exact ih
          · rw [if_neg (fun q => c3 ((nI_leI (by omega) (by omega)).mp q))]
            cases hb : nkU th pa ky p s k with
            | none =>
              rw [if_pos (show e4 none = -4 from rfl)]
              rw [nkU_take ⟨h1, c1, c2, by omega⟩ (fun b q => by rw [hb] at q; cases q)] at ih
              exact ih
            | some b =>
              have sp := (nkU_spec th pa ky p s k).1 b hb
              have g6 := R.2.2.1 b sp.2.1.1 sp.2.1.2.1
              have hb24 : b < 24 := by omega
              rw [if_neg (show ¬ e4 (some b) = -4 from m4_ne (by omega)), show e4 (some b) = nI b from rfl, if_neg (vi_nI hb24), nI_c hb24, g6.2.1]
              by_cases c4 : ky b ≤ ky k
              · rw [if_pos ((nI_leI (by omega) (by omega)).mpr c4)]
                rw [nkU_skip (fun q => by have := q.2 b hb; omega), hb] at ih
                exact ih
              · rw [if_neg (fun q => c4 ((nI_leI (by omega) (by omega)).mp q))]
                rw [nkU_take ⟨h1, c1, c2, by omega⟩ (fun b' q => by rw [hb] at q; cases q; omega)] at ih
                exact ih
        · rw [if_pos (fun q => c2 ((nI_eq (by omega) (by omega)).mp q))]
          rw [nkU_skip (fun q => c2 q.1.2.2.1)] at ih
          exact ih
      · rw [if_neg c1, if_pos rfl]
        rw [nkU_skip (fun q => c1 q.1.2.1)] at ih
        exact ih
theorem X10_childBehind {M : tM} {n : Nat} (R : RM M th pa ky) (hn : 100 ≤ n) (hp : p < 24) (hs : s < 2147483648) : fX10_childBehind n M (nI p) (nI s) = some (e4 (nk th pa ky p s)) := by
  unfold fX10_childBehind
  exact lnk10 R hp hs n 0 (by decide) (by omega)
theorem lkc7 {T : tT} {n : Nat} (R : RT T th pa ky) (hp : p < 24) : ∀ m k, 1 ≤ k → k ≤ 24 → 24 - k < m → lX7_kidsOf_4 n T m (nI p) (nI (kcU th pa p k)) (nI k) = some (nI (kc th pa p))
  | 0, k, _, _, h => absurd h (Nat.not_lt_zero _)
  | m + 1, k, h1, h2, h3 => by
    have ih := lkc7 (n := n) R hp m (k + 1) (by omega)
    rw [lX7_kidsOf_4]
    by_cases hk : k = 24
    · subst hk
      rw [if_pos ((le24 (Nat.le_refl _)).mpr rfl)]
      rfl
    · have hk : k < 24 := by omega
      have ih := ih (by omega) (by omega)
      rw [← nI_1] at ih
      rw [if_neg (by rw [le24 h2]; omega), X7_there R hk]
      unfold kcU at ih
      by_cases c1 : th k = true
      · obtain ⟨g1, g2, g3, g4, g5⟩ := R.2.2.1 k h1 c1
        rw [if_pos c1, if_neg (by decide), if_neg (vi_nI hk), nI_c hk, g1]
        by_cases c2 : pa k = p
        · rw [if_neg (fun q => q (by rw [c2])), nI_1]
          rw [if_pos ⟨h1, c1, c2⟩] at ih
          exact ih
        · rw [if_pos (fun q => c2 ((nI_eq (by omega) (by omega)).mp q))]
          rw [if_neg (fun q => c2 q.2.2), Nat.add_zero] at ih
          exact ih
      · rw [if_neg c1, if_pos rfl]
        rw [if_neg (fun q => c1 q.2.1), Nat.add_zero] at ih
        exact ih
theorem X7_kidsOf {T : tT} {n : Nat} (R : RT T th pa ky) (hn : 100 ≤ n) (hp : p < 24) : fX7_kidsOf n T (nI p) = some (nI (kc th pa p)) := by
  unfold fX7_kidsOf
  exact lkc7 R hp n 1 (by decide) (by decide) (by omega)
theorem lkc10 {M : tM} {n : Nat} (R : RM M th pa ky) (hp : p < 24) : ∀ m k, k ≤ 24 → 24 - k < m → lX10_childMany_4 n M m (nI p) (nI (kcU th pa p k)) (nI k) = some (nI (kc th pa p))
  | 0, k, _, h => absurd h (Nat.not_lt_zero _)
  | m + 1, k, h2, h3 => by
    have ih := lkc10 (n := n) R hp m (k + 1)
    rw [lX10_childMany_4]
    by_cases hk : k = 24
    · subst hk
      rw [if_pos ((le24 (Nat.le_refl _)).mpr rfl)]
      rfl
    · have hk : k < 24 := by omega
      have ih := ih (by omega) (by omega)
      rw [← nI_1] at ih
      rw [if_neg (by rw [le24 h2]; omega), X10_has R hk, Int32.add_zero]
      unfold kcU at ih
      by_cases c1 : th k = true
      · rw [if_pos c1, if_neg (by decide), if_neg (vi_nI hk), nI_c hk]
        by_cases h0 : k = 0
        · subst h0
          rw [(R.2.2.2 c1).1, if_pos (fun q => m4_ne (by omega) q.symm)]
          rw [if_neg (fun q => absurd q.1 (by decide)), Nat.add_zero] at ih
          exact ih
        have h1 : 1 ≤ k := by omega
        obtain ⟨g1, g2, g3, g4, g5⟩ := R.2.2.1 k h1 c1
        rw [g1]
        by_cases c2 : pa k = p
        · rw [if_neg (fun q => q (by rw [c2])), nI_1]
          rw [if_pos ⟨h1, c1, c2⟩] at ih
          exact ih
        · rw [if_pos (fun q => c2 ((nI_eq (by omega) (by omega)).mp q))]
          rw [if_neg (fun q => c2 q.2.2), Nat.add_zero] at ih
          exact ih
      · rw [if_neg c1, if_pos rfl]
        rw [if_neg (fun q => c1 q.2.1), Nat.add_zero] at ih
        exact ih
theorem X10_childMany {M : tM} {n : Nat} (R : RM M th pa ky) (hn : 100 ≤ n) (hp : p < 24) : fX10_childMany n M (nI p) = some (nI (kc th pa p)) := by
  unfold fX10_childMany
  exact lkc10 R hp n 0 (by decide) (by omega)
end KIDS
