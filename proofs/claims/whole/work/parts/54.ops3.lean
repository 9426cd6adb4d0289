/-! matches, puts, useful, end -/
def MI (X : tX) (T : tT) (O : tO) (S : tS) (G : tG) : Prop := X.2 = 0 ∨ (X.2 = 1 ∧ ∃ s N, VV S O s N ∧ EQ N s (hgC S) (srC S O N) (rcC S) (okC S T O) G.1 ∧ EO N s (hgC S) (srC S O N) (rcC S) (okC S T O) G.1 G.2.2.1)
section OPS3
variable {n s : Nat} {X : tX} {T : tT} {O : tO} {M : tM} {S : tS} {G : tG} {th : Nat → Bool} {pa ky : Nat → Nat} {A C : Nat → Nat → Int64}
/-- what stands, told apart -/
def Ctx (T : tT) (O : tO) (M : tM) (S : tS) (th : Nat → Bool) (pa ky : Nat → Nat) (s : Nat) : Prop := wfT th pa ky ∧ th 0 = true ∧ OR O th pa ky ∧ RM M th pa ky ∧ (∀ v, th v = true → T.1 v = M.2.1 3 v) ∧ M.1 15 = nI s ∧ PR S (M.2.1 17) (M.2.1 18) (M.2.1 19) s
theorem Ctx_of (C : Cu T O M) (h15 : M.1 15 = nI s) (hS : PR S (M.2.1 17) (M.2.1 18) (M.2.1 19) s) : ∃ th pa ky c kd, TI T O M th pa ky c kd ∧ Ctx T O M S th pa ky s := by
  obtain ⟨th, pa, ky, c, kd, g, a, o⟩ := C
  have I := TA_TI g a o
  exact ⟨th, pa, ky, c, kd, I, I.2.2.1, I.2.2.2.1, o, I.2.1, I.2.2.2.2.1, h15, hS⟩
theorem Ctx.N1 (c : Ctx T O M S th pa ky s) : 1 ≤ (pre th pa ky 0).length := by
  rw [pre_eq c.1 c.2.1, List.length_cons]
  omega
theorem matchAll_s (hn : 3000 ≤ n) (c : Ctx T O M S th pa ky s) (s1 : 1 ≤ s) (hI : MI X T O S G) : ∃ X' G', fX9_matchAll n X T O S G = some (X', G') ∧ X'.1 = X.1 ∧ X'.2 = 1 ∧ MI X' T O S G' ∧ EQ (pre th pa ky 0).length s (hgC S) (srC S O (pre th pa ky 0).length) (rcC S) (okC S T O) G'.1 ∧ EO (pre th pa ky 0).length s (hgC S) (srC S O (pre th pa ky 0).length) (rcC S) (okC S T O) G'.1 G'.2.2.1 := by
  have V := VV_of c.1 c.2.1 c.2.2.1 c.2.2.2.2.2.2
  unfold fX9_matchAll
  rcases hI with h | ⟨h, s', N', V', e1, e2⟩
  · obtain ⟨G', g1, g2, g3⟩ := run_s (n := n) (T := T) V (by omega) c.N1 s1 G
    rw [if_neg (fun z => z h), g1, Option.bind_some]
    exact ⟨_, _, rfl, rfl, rfl, Or.inr ⟨rfl, s, _, V, g2, g3⟩, g2, g3⟩
  · have es : s' = s := (nI_eq (by have := V'.2.1; omega) (by have := V.2.1; omega)).mp (V'.1.symm.trans V.1)
    have eN : N' = (pre th pa ky 0).length := (nI_eq (by have := V'.2.2.2.1; omega) (by have := V.2.2.2.1; omega)).mp (V'.2.2.1.symm.trans V.2.2.1)
    subst es
    subst eN
    rw [if_pos (by rw [h]; decide)]
    exact ⟨X, G, rfl, rfl, h, Or.inr ⟨h, _, _, V', e1, e2⟩, e1, e2⟩
theorem ltot {N : Nat} (hO : O.2.2.2.2.2.2.2 = nI N) (hN : N ≤ 24) : ∀ m k, k ≤ N → N - k < m → lX2_total_4 n G O m (sm (fun i => G.1 0 i) k) (nI k) = some (sm (fun i => G.1 0 i) N)
  | 0, _, _, h => absurd h (by omega)
  | m + 1, k, hk, hm => by
    rw [lX2_total_4]
    unfold fX3_size
    rw [hO]
    by_cases e : k = N
    · subst e
      rw [if_pos (nI_le (Nat.le_refl _) (by omega))]
    · rw [if_neg (nI_ge (show k < N by omega) (by omega)), if_neg (vi_nI (show k < 24 by omega)), nI_c (show k < 24 by omega), nI_1]
      exact ltot hO hN m (k + 1) (by omega) (by omega)
theorem ways_s {q k : Nat} (hq : q < 8) (hk : k < 24) : fX2_ways G (nI q) (nI k) = some (G.1 q k * G.2.2.1 q k) := by
  unfold fX2_ways
  rw [if_neg (nI_pos (by omega)), if_neg (show ¬ (8 : Int32) ≤ nI q from nI_ge (b := 8) hq (by decide)), if_neg (nI_pos (by omega)), if_pos (show nI k < 24 from nI_lt (b := 24) hk (by decide)), if_neg (nI_in hq (by decide)), if_neg (vi_nI hk), nI_clamp (show q < 2 ^ 31 by omega), nI_c hk]
/-- the reference, at a STEP and a NODE -/
theorem put_ref (hn : 3000 ≤ n) (c : Ctx T O M S th pa ky s) (hA : EQ (pre th pa ky 0).length s (hgC S) (srC S O (pre th pa ky 0).length) (rcC S) (okC S T O) A) (hC : EO (pre th pa ky 0).length s (hgC S) (srC S O (pre th pa ky 0).length) (rcC S) (okC S T O) A C) {q v : Nat} (hq : q < s) (tv : th v = true) : ∃ W, fX10_waysBy n M (nI q) (nI v) = some (A q (rk th pa ky v) * C q (rk th pa ky v), (M.1, M.2.1, W)) := by
  obtain ⟨w, h0, hO, R, htag, h15, hS⟩ := c
  have hP := PM_of h15 hS
  have s8 := hS.2.1
  obtain ⟨W, a1, a2⟩ := waysBy_s (st := nI q) (nd := nI v) (n := n) w R hn hP (by omega)
  obtain ⟨b1, b2⟩ := EQ_W (T := T) w h0 hO hS h15 htag a2
  have b3 := EQ_ok (ok' := fun q' k => okC S T O q' k && (decide (q' ≠ q) || decide (k = rk th pa ky v))) b1 (fun q' hq' k hk => by
    obtain ⟨k1, tk, rk1⟩ := ndk_s w h0 hk
    unfold okR
    have e1 : decide (¬ nI q' = nI q) = decide (q' ≠ q) := decide_eq_decide.mpr (not_congr (nI_eq (by omega) (by omega)))
    have e2 : decide (nI (ndk th pa ky k) = nI v) = decide (k = rk th pa ky v) := decide_eq_decide.mpr (by
      rw [nI_eq (by have := w.lt tk; omega) (by have := w.lt tv; omega)]
      constructor
      · intro z
        rw [← z, rk1]
      · intro z
        rw [z, rk_nd w h0 tv])
    rw [e1, e2])
  have key := EQ_path (fun q' h1 h2 => (hP.2.2 q' h1 h2).2.1) hA hC hq (rk_lt w h0 tv) b3
  refine ⟨W, ?_⟩
  rw [a1, b2 (by omega), ← key]
theorem match_ref (hn : 3000 ≤ n) (c : Ctx T O M S th pa ky s) (hA : EQ (pre th pa ky 0).length s (hgC S) (srC S O (pre th pa ky 0).length) (rcC S) (okC S T O) A) (s1 : 1 ≤ s) : ∃ W, fX10_waysBy n M (-4) (-4) = some (sm (fun k => A 0 k) (pre th pa ky 0).length, (M.1, M.2.1, W)) := by
  obtain ⟨w, h0, hO, R, htag, h15, hS⟩ := c
  have hP := PM_of h15 hS
  have s8 := hS.2.1
  obtain ⟨W, a1, a2⟩ := waysBy_s (st := -4) (nd := -4) (n := n) w R hn hP s1
  obtain ⟨b1, b2⟩ := EQ_W (T := T) w h0 hO hS h15 htag a2
  have b3 := EQ_ok (ok' := okC S T O) b1 (fun q' hq' k hk => by
    unfold okR
    rw [decide_eq_true (show ¬ nI q' = (-4 : Int32) from m4_ne (by omega)), Bool.true_or, Bool.and_true])
  refine ⟨W, ?_⟩
  rw [a1, b2 s1]
  congr 2
  exact sm_congr _ (fun k hk => EQ_one b3 hA s 0 (by omega) (by omega) k hk)
theorem Ctx.w (c : Ctx T O M S th pa ky s) (W : Nat → Int64) : Ctx T O (M.1, M.2.1, W) S th pa ky s := c
theorem O_matches (hn : 3000 ≤ n) (C : Cu T O M) (HS : SP S M) (hI : MI X T O S G) : ∃ r X' G' M', fX9_matches n X T O S G = some (r, X', G') ∧ fX10_matches n M = some (r, M') ∧ M'.1 = M.1 ∧ M'.2.1 = M.2.1 ∧ X'.1 = X.1 ∧ MI X' T O S G' := by
  obtain ⟨s, h15, hS, _⟩ := HS
  obtain ⟨th, pa, ky, c, kd, I, cx⟩ := Ctx_of C h15 hS
  have s8 := hS.2.1
  unfold fX9_matches fX10_matches fX5_size
  rw [h15, hS.1]
  by_cases s0 : s = 0
  · subst s0
    exact ⟨_, X, G, M, rfl, rfl, rfl, rfl, rfl, hI⟩
  · obtain ⟨X', G', a1, a2, a3, a4, a5, a6⟩ := matchAll_s hn cx (by omega) hI
    obtain ⟨W, b1⟩ := match_ref hn cx a5 (by omega)
    have t := ltot (n := n) (G := G') cx.2.2.1.1 (L_len cx.1 cx.2.1) n 0 (by omega) (by have := L_len cx.1 cx.2.1; omega)
    have t : fX2_total n G' O = _ := t
    rw [if_pos (nI_ne0 (by omega) (by omega)), if_pos (nI_ne0 (by omega) (by omega)), a1, Option.bind_some, t, Option.bind_some, b1, Option.bind_some]
    exact ⟨_, X', G', _, rfl, rfl, rfl, rfl, a2, a4⟩
theorem O_puts (hn : 3000 ≤ n) (C : Cu T O M) (HS : SP S M) (hI : MI X T O S G) (q v : Int32) : ∃ r X' G' M', fX9_puts n X q v T O S G = some (r, X', G') ∧ fX10_puts n M q v = some (r, M') ∧ M'.1 = M.1 ∧ M'.2.1 = M.2.1 ∧ X'.1 = X.1 ∧ MI X' T O S G' := by
  unfold fX9_puts fX10_puts
  rcases step_cases HS q with ⟨e1, e2⟩ | ⟨s, k, h15, hS, ks, rfl, e1, e2⟩
  · rw [e1, e2]
    exact ⟨-1, X, G, M, rfl, rfl, rfl, rfl, rfl, hI⟩
  obtain ⟨th, pa, ky, c, kd, I, cx⟩ := Ctx_of C h15 hS
  have s8 := hS.2.1
  rw [e1, e2, if_neg (show ¬ (1 : Int32) = 0 by decide), Option.bind_some, if_neg (show ¬ (1 : Int32) = 0 by decide)]
  rcases I.arg v with ⟨f1, f2⟩ | ⟨j, j24, rfl, tj, f1, f2⟩
  · rw [f1, f2]
    exact ⟨-1, X, G, M, rfl, rfl, rfl, rfl, rfl, hI⟩
  obtain ⟨X', G', a1, a2, a3, a4, a5, a6⟩ := matchAll_s hn cx (by omega) hI
  obtain ⟨W, b1⟩ := put_ref hn cx a5 a6 ks tj
  have l24 := L_len cx.1 cx.2.1
  have rl := rk_lt cx.1 cx.2.1 tj
  rw [f1, f2, if_pos (show ¬ (1 : Int32) = 0 by decide), if_neg (show ¬ (1 : Int32) = 0 by decide), a1, Option.bind_some, I.rank tj, Option.bind_some, ways_s (by omega) (by omega), Option.bind_some, b1, Option.bind_some]
  exact ⟨_, X', G', _, rfl, rfl, rfl, rfl, a2, a4⟩
/-! useful -/
def Ps (A C : Nat → Nat → Int64) (th : Nat → Bool) (pa ky : Nat → Nat) (q v : Nat) : Bool := decide (¬ lg_cmp (A q (rk th pa ky v) * C q (rk th pa ky v)) 0 ≤ 0)
theorem luse (c : Ctx T O M S th pa ky s) {q : Nat} (hq : q < s) : ∀ m k g, k ≤ (pre th pa ky 0).length → (pre th pa ky 0).length - k < m → (∀ i, i < 32 → bt g i = (th i && (decide (rk th pa ky i < k) && Ps G.1 G.2.2.1 th pa ky q i))) → ∃ g', lX9_useful_21 n T O S m (nI q) g (nI k) X G = some (g', X, G) ∧ ∀ i, i < 32 → bt g' i = (th i && Ps G.1 G.2.2.1 th pa ky q i)
  | 0, _, _, _, h, _ => absurd h (by omega)
  | m + 1, k, g, hk, hm, hg => by
    obtain ⟨w, h0, hO, R, htag, h15, hS⟩ := id c
    have l24 := L_len w h0
    have s8 := hS.2.1
    rw [lX9_useful_21]
    unfold fX3_size
    rw [hO.1]
    by_cases e : k = (pre th pa ky 0).length
    · rw [if_pos (nI_le (by omega) (by omega))]
      refine ⟨g, rfl, fun i hi => ?_⟩
      rw [hg i hi]
      cases ti : th i with
      | false => rfl
      | true => rw [decide_eq_true (by rw [e]; exact rk_lt w h0 ti), Bool.true_and]
    · have kN : k < (pre th pa ky 0).length := by omega
      obtain ⟨k1, tk, rk1⟩ := ndk_s w h0 kN
      have n24 := w.lt tk
      have pk : Ps G.1 G.2.2.1 th pa ky q (ndk th pa ky k) = decide (¬ lg_cmp (G.1 q k * G.2.2.1 q k) 0 ≤ 0) := by
        unfold Ps
        rw [rk1]
      have step : ∀ g', (∀ i, i < 32 → bt g' i = (bt g i || (decide (i = ndk th pa ky k) && Ps G.1 G.2.2.1 th pa ky q i))) → ∃ g'', lX9_useful_21 n T O S m (nI q) g' (nI (k + 1)) X G = some (g'', X, G) ∧ ∀ i, i < 32 → bt g'' i = (th i && Ps G.1 G.2.2.1 th pa ky q i) := by
        intro g' hg'
        refine luse c hq m (k + 1) g' (by omega) (by omega) (fun i hi => ?_)
        rw [hg' i hi, hg i hi]
        cases ti : th i with
        | false =>
          have : i ≠ ndk th pa ky k := fun z => by
            rw [z, tk] at ti
            cases ti
          rw [decide_eq_false this]
          rfl
        | true =>
          rw [Bool.true_and, Bool.true_and]
          have hik : decide (i = ndk th pa ky k) = decide (rk th pa ky i = k) := decide_eq_decide.mpr (by
            constructor
            · intro z
              rw [z, rk1]
            · intro z
              exact rk_inj w h0 ti tk (z.trans rk1.symm))
          rw [hik]
          by_cases c1 : rk th pa ky i = k
          · rw [decide_eq_true c1, decide_eq_false (show ¬ rk th pa ky i < k by omega), decide_eq_true (show rk th pa ky i < k + 1 by omega)]
            rfl
          · rw [decide_eq_false c1, Bool.false_and, Bool.or_false]
            by_cases c2 : rk th pa ky i < k
            · rw [decide_eq_true c2, decide_eq_true (show rk th pa ky i < k + 1 by omega)]
            · rw [decide_eq_false c2, decide_eq_false (show ¬ rk th pa ky i < k + 1 by omega)]
      rw [if_neg (nI_ge kN (by omega)), ways_s (by omega) (by omega), Option.bind_some, nI_1]
      by_cases cp : lg_cmp (G.1 q k * G.2.2.1 q k) 0 ≤ 0
      · rw [if_pos cp]
        refine step g (fun i hi => ?_)
        by_cases ei : i = ndk th pa ky k
        · rw [ei, pk, decide_eq_false (show ¬ ¬ lg_cmp (G.1 q k * G.2.2.1 q k) 0 ≤ 0 from fun z => z cp), Bool.and_false, Bool.or_false]
        · rw [decide_eq_false ei, Bool.false_and, Bool.or_false]
      · rw [if_neg cp, nodeAt_s hO.1 kN l24, Option.bind_some, (hO.2 k _ k1).1.1]
        refine step _ (fun i hi => ?_)
        rw [bt_set _ (by omega) hi]
        by_cases ei : i = ndk th pa ky k
        · rw [ei, pk, decide_eq_true cp, Bool.and_true]
        · rw [decide_eq_false ei, Bool.false_and]
theorem luse10 (hn : 3000 ≤ n) {q : Nat} (hq : q < s) : ∀ m k g M, Ctx T O M S th pa ky s → EQ (pre th pa ky 0).length s (hgC S) (srC S O (pre th pa ky 0).length) (rcC S) (okC S T O) A → EO (pre th pa ky 0).length s (hgC S) (srC S O (pre th pa ky 0).length) (rcC S) (okC S T O) A C → k ≤ 24 → 24 - k < m → (∀ i, i < 32 → bt g i = (decide (i < k) && (th i && Ps A C th pa ky q i))) → ∃ g' W, lX10_usefulSet_4 n m (nI q) g (nI k) M = some (g', (M.1, M.2.1, W)) ∧ ∀ i, i < 32 → bt g' i = (th i && Ps A C th pa ky q i)
  | 0, _, _, _, _, _, _, _, h, _ => absurd h (by omega)
  | m + 1, k, g, M, c, hA, hC, hk, hm, hg => by
    obtain ⟨w, h0, hO, R, htag, h15, hS⟩ := id c
    rw [lX10_usefulSet_4]
    by_cases e : k = 24
    · subst e
      rw [if_pos (show (24 : Int32) ≤ nI 24 by decide)]
      refine ⟨g, M.2.2, rfl, fun i hi => ?_⟩
      rw [hg i hi]
      cases ti : th i with
      | false => rw [Bool.false_and, Bool.and_false]
      | true => rw [decide_eq_true (w.lt ti), Bool.true_and]
    have k24 : k < 24 := by omega
    have step : ∀ g' M', M'.1 = M.1 → M'.2.1 = M.2.1 → (∀ i, i < 32 → bt g' i = (bt g i || (decide (i = k) && (th i && Ps A C th pa ky q i)))) → ∃ g'' W, lX10_usefulSet_4 n m (nI q) g' (nI (k + 1)) M' = some (g'', (M.1, M.2.1, W)) ∧ ∀ i, i < 32 → bt g'' i = (th i && Ps A C th pa ky q i) := by
      intro g' M' e1 e2 hg'
      have c' : Ctx T O M' S th pa ky s := by
        have : M' = (M.1, M.2.1, M'.2.2) := by rw [← e1, ← e2]
        rw [this]
        exact c.w _
      obtain ⟨g'', W, a1, a2⟩ := luse10 hn hq m (k + 1) g' M' c' hA hC (by omega) (by omega) (fun i hi => by
        rw [hg' i hi, hg i hi]
        by_cases c1 : i = k
        · rw [decide_eq_true c1, decide_eq_false (show ¬ i < k by omega), decide_eq_true (show i < k + 1 by omega)]
          rfl
        · rw [decide_eq_false c1, Bool.false_and, Bool.or_false]
          by_cases c2 : i < k
          · rw [decide_eq_true c2, decide_eq_true (show i < k + 1 by omega)]
          · rw [decide_eq_false c2, decide_eq_false (show ¬ i < k + 1 by omega)])
      rw [e1, e2] at a1
      exact ⟨g'', W, a1, a2⟩
    rw [if_neg (show ¬ (24 : Int32) ≤ nI k from nI_ge (b := 24) k24 (by decide)), X10_has R k24, nI_1]
    by_cases tk : th k = true
    · obtain ⟨W, b1⟩ := put_ref hn c hA hC hq tk
      rw [if_pos tk, if_neg (show ¬ (1 : Int32) = 0 by decide), b1, Option.bind_some]
      by_cases cp : lg_cmp (A q (rk th pa ky k) * C q (rk th pa ky k)) 0 ≤ 0
      · rw [if_pos cp, or_zero]
        refine step g _ rfl rfl (fun i hi => ?_)
        by_cases ei : i = k
        · subst ei
          unfold Ps
          rw [decide_eq_false (show ¬ ¬ lg_cmp (A q (rk th pa ky i) * C q (rk th pa ky i)) 0 ≤ 0 from fun z => z cp), Bool.and_false, Bool.and_false, Bool.or_false]
        · rw [decide_eq_false ei, Bool.false_and, Bool.or_false]
      · rw [if_neg cp]
        refine step _ _ rfl rfl (fun i hi => ?_)
        rw [bt_set _ (by omega) hi]
        by_cases ei : i = k
        · subst ei
          unfold Ps
          rw [tk, decide_eq_true cp, Bool.and_true, Bool.and_true]
        · rw [decide_eq_false ei, Bool.false_and]
    · rw [if_neg tk, if_pos (show (0 : Int32) = 0 from rfl), or_zero]
      refine step g M rfl rfl (fun i hi => ?_)
      by_cases ei : i = k
      · subst ei
        rw [show th i = false by cases h : th i with | true => exact absurd h tk | false => rfl]
        simp
      · rw [decide_eq_false ei, Bool.false_and, Bool.or_false]
theorem O_useful (hn : 3000 ≤ n) (C : Cu T O M) (HS : SP S M) (hI : MI X T O S G) (q : Int32) : ∃ r X' G' M', fX9_useful n X q T O S G = some (r, X', G') ∧ fX10_useful n M q = some (r, M') ∧ M'.1 = M.1 ∧ M'.2.1 = M.2.1 ∧ X'.1 = X.1 ∧ MI X' T O S G' := by
  unfold fX9_useful fX10_useful
  rcases step_cases HS q with ⟨e1, e2⟩ | ⟨s, k, h15, hS, ks, rfl, e1, e2⟩
  · rw [e1, e2]
    exact ⟨-1, X, G, M, rfl, rfl, rfl, rfl, rfl, hI⟩
  obtain ⟨th, pa, ky, c, kd, I, cx⟩ := Ctx_of C h15 hS
  have s8 := hS.2.1
  obtain ⟨X', G', a1, a2, a3, a4, a5, a6⟩ := matchAll_s hn cx (by omega) hI
  have l24 := L_len cx.1 cx.2.1
  obtain ⟨g1, b1, b2⟩ := luse (n := n) (X := X') (G := G') cx ks n 0 0 (by omega) (by omega) (fun i hi => by rw [b_0, decide_eq_false (Nat.not_lt_zero _), Bool.false_and, Bool.and_false])
  obtain ⟨g2, W, c1, c2⟩ := luse10 (n := n) hn ks n 0 0 M cx a5 a6 (by omega) (by omega) (fun i hi => by rw [b_0, decide_eq_false (Nat.not_lt_zero _), Bool.false_and])
  have eg : g1 = g2 := b_ext (fun i hi => (b2 i hi).trans (c2 i hi).symm)
  subst eg
  have b1 : lX9_useful_21 n T O S n (nI k) 0 0 X' G' = _ := b1
  have c1 : fX10_usefulSet n M (nI k) = _ := c1
  rw [e1, e2, if_pos (show ¬ (1 : Int32) = 0 by decide), Option.bind_some, if_neg (show ¬ (1 : Int32) = 0 by decide), a1, Option.bind_some, b1, c1, Option.bind_some]
  exact ⟨_, X', G', _, rfl, rfl, rfl, rfl, a2, a4⟩
end OPS3
