/-! hung, rest, other, run -/
section MATCHER2
variable {n s N : Nat} {S : tS} {O : tO} {T : tT} {G : tG}
/-- what is summed of hung when the ranks above j are through -/
def PH (sr : Nat → Option Nat) (rc : Bool) (x : Nat → Int64) (N j r : Nat) : Int64 := sm (fun k => if decide (j < k) = true then (if decide (sr k = some r) = true then (x k + (if rc = true then HS sr rc x N k else 0)) else 0) else 0) N
theorem PH_top (sr : Nat → Option Nat) (rc : Bool) (x : Nat → Int64) (N r : Nat) : PH sr rc x N (N - 1) r = 0 := by
  unfold PH
  rw [sm_congr (g := fun _ => 0) N (fun k hk => by rw [if_neg (fun z => by have := of_decide_eq_true z; omega)]), sm_zero]
theorem PH_full {sr : Nat → Option Nat} {rc : Bool} (hd : ∀ k u, sr k = some u → u < k) (x : Nat → Int64) {N j r : Nat} (h : j ≤ r) : PH sr rc x N j r = HS sr rc x N r := by
  rw [HS_rec hd]
  refine sm_congr N (fun k hk => ?_)
  by_cases c : decide (sr k = some r) = true
  · have := hd k r (of_decide_eq_true c)
    rw [if_pos (decide_eq_true (show j < k by omega))]
  · rw [if_neg c]
    split <;> rfl
theorem PH_step {sr : Nat → Option Nat} {rc : Bool} (x : Nat → Int64) {N j r : Nat} (hj : j + 1 < N) : PH sr rc x N j r = PH sr rc x N (j + 1) r + (if decide (sr (j + 1) = some r) = true then (x (j + 1) + (if rc = true then HS sr rc x N (j + 1) else 0)) else 0) := by
  unfold PH
  have : (if decide (sr (j + 1) = some r) = true then (x (j + 1) + (if rc = true then HS sr rc x N (j + 1) else 0)) else 0) = sm (fun k => if k = j + 1 then (if decide (sr k = some r) = true then (x k + (if rc = true then HS sr rc x N k else 0)) else 0) else 0) N := by
    rw [sm_one, if_pos hj]
  rw [this, ← sm_add]
  refine sm_congr N (fun k hk => ?_)
  by_cases c : k = j + 1
  · rw [if_pos c, if_pos (show decide (j < k) = true from decide_eq_true (by omega)), if_neg (show ¬ decide (j + 1 < k) = true from fun z => by have := of_decide_eq_true z; omega), Int64.zero_add]
  · rw [if_neg c, Int64.add_zero]
    by_cases c2 : j < k
    · rw [if_pos (show decide (j < k) = true from decide_eq_true c2), if_pos (show decide (j + 1 < k) = true from decide_eq_true (by omega))]
    · rw [if_neg (show ¬ decide (j < k) = true from fun z => c2 (of_decide_eq_true z)), if_neg (show ¬ decide (j + 1 < k) = true from fun z => by have := of_decide_eq_true z; omega)]
theorem lhung (V : VV S O s N) {q : Nat} (hq : q < s) : ∀ m j G, j < N → j < m → (∀ r, r < N → G.2.1 q r = PH (srC S O N q) (rcC S q) (G.1 q) N j r) → ∃ G', lX2_countHung_20 n O S m (nI q) (nI j) G = some G' ∧ G'.1 = G.1 ∧ G'.2.2 = G.2.2 ∧ (∀ c, c ≠ q → G'.2.1 c = G.2.1 c) ∧ ∀ r, r < N → G'.2.1 q r = HS (srC S O N q) (rcC S q) (G.1 q) N r
  | 0, _, _, _, h, _ => absurd h (by omega)
  | m + 1, 0, G, hj, hm, hG => by
    rw [lX2_countHung_20, if_pos (show nI 0 ≤ 0 by decide)]
    exact ⟨G, rfl, rfl, rfl, fun _ _ => rfl, fun r hr => (hG r hr).trans (PH_full srC_dec _ (Nat.zero_le r))⟩
  | m + 1, j + 1, G, hj, hm, hG => by
    have s8 := V.2.1
    have hN := V.2.2.2.1
    rw [lX2_countHung_20, if_neg (nI_nle (show 0 < j + 1 by omega) (by omega)), source_s V hq hj, Option.bind_some, pk_m1]
    cases hs : srC S O N q (j + 1) with
    | none =>
      rw [if_pos (show e1 none < 0 by decide)]
      refine lhung V hq m j G (by omega) (by omega) (fun r hr => ?_)
      rw [hG r hr, PH_step _ hj, hs, if_neg (show ¬ decide ((none : Option Nat) = some r) = true by simp), Int64.add_zero]
    | some u =>
      have hu := srC_dec _ _ hs
      rw [if_neg (show ¬ e1 (some u) < 0 from nI_pos (show u < 2 ^ 31 by omega)), if_neg (nI_in (show q < 8 by omega) (by decide)), if_neg (show ¬ (e1 (some u) < 0 ∨ 24 ≤ (e1 (some u)).toNatClampNeg) from vi_nI (show u < 24 by omega)), if_neg (vi_nI (show j + 1 < 24 by omega)), reach_s V hq, Option.bind_some, nI_clamp (show q < 2 ^ 31 by omega), show (e1 (some u)).toNatClampNeg = u from nI_c (by omega), nI_c (show j + 1 < 24 by omega)]
      have go : ∀ y : Int64, y = G.1 q (j + 1) + (if rcC S q = true then HS (srC S O N q) (rcC S q) (G.1 q) N (j + 1) else 0) → ∃ G', lX2_countHung_20 n O S m (nI q) (nI j) (G.1, va_up G.2.1 q (vp_updL (G.2.1 q) u (G.2.1 q u + y)), G.2.2.1, G.2.2.2) = some G' ∧ G'.1 = G.1 ∧ G'.2.2 = G.2.2 ∧ (∀ c, c ≠ q → G'.2.1 c = G.2.1 c) ∧ ∀ r, r < N → G'.2.1 q r = HS (srC S O N q) (rcC S q) (G.1 q) N r := by
        intro y hy
        obtain ⟨G', a1, a2, a3, a4, a5⟩ := lhung V hq m j (G.1, va_up G.2.1 q (vp_updL (G.2.1 q) u (G.2.1 q u + y)), G.2.2.1, G.2.2.2) (by omega) (by omega) (fun r hr => by
          show va_up G.2.1 q (vp_updL (G.2.1 q) u (G.2.1 q u + y)) q r = PH (srC S O N q) (rcC S q) (G.1 q) N j r
          rw [vu_s, PH_step _ hj, hs]
          by_cases e : r = u
          · subst e
            rw [pk_uLs, hG r hr, hy, if_pos (decide_eq_true rfl)]
          · rw [pk_uLn e, hG r hr, if_neg (fun z => e (Option.some.inj (of_decide_eq_true z)).symm), Int64.add_zero])
        exact ⟨G', a1, a2, a3, fun c hc => (a4 c hc).trans (vu_n hc), a5⟩
      by_cases cr : rcC S q = true
      · rw [if_pos cr, if_neg (show ¬ (1 : Int32) = 0 by decide)]
        refine go _ ?_
        rw [hG (j + 1) hj, PH_full srC_dec _ (Nat.le_refl _), if_pos cr]
      · rw [if_neg cr, if_pos (show (0 : Int32) = 0 from rfl)]
        refine go _ ?_
        rw [if_neg cr]
theorem countHung_s (V : VV S O s N) (hn : 100 ≤ n) (N1 : 1 ≤ N) {q : Nat} (hq : q < s) (G : tG) : ∃ G', fX2_countHung n G (nI q) O S = some G' ∧ G'.1 = G.1 ∧ G'.2.2 = G.2.2 ∧ (∀ c, c ≠ q → G'.2.1 c = G.2.1 c) ∧ ∀ r, r < N → G'.2.1 q r = HS (srC S O N q) (rcC S q) (G.1 q) N r := by
  have s8 := V.2.1
  have hN := V.2.2.2.1
  unfold fX2_countHung fX3_size
  rw [if_neg (nI_in (show q < 8 by omega) (by decide)), V.2.2.1, nI_clamp (show q < 2 ^ 31 by omega), show nI N - 1 = nI (N - 1) from pk_sub (b := 1) N1]
  obtain ⟨G', a1, a2, a3, a4, a5⟩ := lhung (n := n) V hq n (N - 1) (G.1, va_up G.2.1 q (p_fill (G.2.1 q) 0), G.2.2.1, G.2.2.2) (by omega) (by omega) (fun r hr => by
    show va_up G.2.1 q (p_fill (G.2.1 q) 0) q r = _
    rw [vu_s, PH_top]
    exact if_pos (by omega))
  exact ⟨G', a1, a2, a3, fun c hc => (a4 c hc).trans (vu_n hc), a5⟩
/-- rows from c on are right -/
def RO (S : tS) (T : tT) (O : tO) (G : tG) (s N c0 : Nat) : Prop := ∀ c, c0 ≤ c → c < s → ∀ k, k < N → G.1 c k = if okC S T O c k = true then PD N s (hgC S) (srC S O N) (rcC S) G.1 c s k else 0
theorem lrun1 (V : VV S O s N) (hn : 100 ≤ n) (N1 : 1 ≤ N) : ∀ m q G, q ≤ s → q < m → HR S O G s N q → RO S T O G s N q → ∃ G', lX2_run_10 n T O S m (nI q + (-1)) G = lX2_run_42 n T O S n 1 (G'.1, G'.2.1, va_up G'.2.2.1 0 (p_fill (G'.2.2.1 0) 1), G'.2.2.2) ∧ HR S O G' s N 0 ∧ RO S T O G' s N 0
  | 0, _, _, _, h, _, _ => absurd h (by omega)
  | m + 1, 0, G, hq, hm, h1, h2 => by
    refine ⟨G, ?_, h1, h2⟩
    show lX2_run_10 n T O S (m + 1) (-1) G = _
    rw [lX2_run_10, if_pos (show (-1 : Int32) < 0 by decide)]
  | m + 1, q + 1, G, hq, hm, h1, h2 => by
    have s8 := V.2.1
    have hN := V.2.2.2.1
    rw [pk_m1, lX2_run_10, if_neg (nI_pos (show q < 2 ^ 31 by omega))]
    obtain ⟨G1, a1, a2, a3, a4, a5⟩ := lown (n := n) (T := T) V hn (show q < s by omega) n 0 G h1 (by omega) (by omega)
    obtain ⟨G2, b1, b2, b3, b4, b5⟩ := countHung_s (n := n) V hn N1 (show q < s by omega) G1
    have a1 : fX2_countOwn n G (nI q) T O S = some G1 := a1
    rw [a1, Option.bind_some, b1, Option.bind_some]
    have g21 : G2.1 = G1.1 := b2
    refine lrun1 V hn N1 m q G2 (by omega) (by omega) (fun c c1 c2 k hk => ?_) (fun c c1 c2 k hk => ?_)
    · by_cases e : c = q
      · subst e
        rw [b5 k hk, g21]
      · rw [b4 c e, g21, a3 c e, show G1.2.1 = G.2.1 from congrArg Prod.fst a2]
        exact h1 c (by omega) c2 k hk
    · have pe : ∀ c, q ≤ c → c < s → PD N s (hgC S) (srC S O N) (rcC S) G2.1 c s k = PD N s (hgC S) (srC S O N) (rcC S) G.1 c s k := fun c c1 c2 => PD_congr (fun d d1 d2 d3 d4 i hi => by rw [g21, a3 d (by omega)]) k
      rw [pe c c1 c2, g21]
      by_cases e : c = q
      · subst e
        exact a5 k (by omega) hk
      · rw [a3 c e]
        exact h2 c (by omega) c2 k hk
theorem lrest (V : VV S O s N) (hn : 100 ≤ n) {p q : Nat} (hp : p < s) (hq : q < s) : ∀ m k G, HR S O G s N 0 → k ≤ N → N - k < m → ∃ G', lX2_countRest_2 n T O S m (nI p) (nI q) (nI k) G = some G' ∧ G'.1 = G.1 ∧ G'.2.1 = G.2.1 ∧ G'.2.2.1 = G.2.2.1 ∧ (∀ j, j < k → G'.2.2.2 j = G.2.2.2 j) ∧ ∀ j, k ≤ j → j < N → G'.2.2.2 j = if okC S T O p j = true then G.2.2.1 p j * PD N s (hgC S) (srC S O N) (rcC S) G.1 p q j else 0
  | 0, _, _, _, _, h => absurd h (by omega)
  | m + 1, k, G, hR, hk, hm => by
    have s8 := V.2.1
    have hN := V.2.2.2.1
    rw [lX2_countRest_2]
    unfold fX3_size
    rw [V.2.2.1]
    by_cases e : k = N
    · subst e
      rw [if_pos (nI_le (Nat.le_refl _) (by omega))]
      exact ⟨G, rfl, rfl, rfl, rfl, fun _ _ => rfl, fun j h1 h2 => absurd h1 (by omega)⟩
    have kN : k < N := by omega
    rw [if_neg (nI_ge kN (by omega)), if_pos (nI_pos' (show p < 2 ^ 31 by omega)), if_neg (nI_in (show p < 8 by omega) (by decide)), if_neg (vi_nI (show k < 24 by omega)), product_s (wo := nI q) (w := q) V hn hp kN (fun c hc => nI_eq (by omega) (by omega)) (fun c c1 c2 => hR c (by omega) c2), Option.bind_some, nI_clamp (show p < 2 ^ 31 by omega), nI_c (show k < 24 by omega), nI_1]
    obtain ⟨G', a1, a2, a3, a4, a5, a6⟩ := lrest V hn hp hq m (k + 1) (G.1, G.2.1, G.2.2.1, vp_updL G.2.2.2 k (G.2.2.1 p k * (if okC S T O p k = true then PD N s (hgC S) (srC S O N) (rcC S) G.1 p q k else 0))) hR (by omega) (by omega)
    refine ⟨G', a1, a2, a3, a4, fun j hj => ?_, fun j h1 h2 => ?_⟩
    · rw [a5 j (by omega)]
      show vp_updL G.2.2.2 k _ j = _
      rw [pk_uLn (by omega)]
    · by_cases ej : j = k
      · subst ej
        rw [a5 j (by omega)]
        show vp_updL G.2.2.2 j _ j = _
        rw [pk_uLs]
        by_cases c : okC S T O p j = true
        · rw [if_pos c, if_pos c]
        · rw [if_neg c, if_neg c, Int64.mul_zero]
      · exact a6 j (by omega) h2
theorem lother (V : VV S O s N) {q : Nat} (hq : q < s) : ∀ m k G, 1 ≤ k → k ≤ N → N - k < m → (∀ j, j < k → G.2.2.1 q j = OS (srC S O N q) (rcC S q) G.2.2.2 N j) → (∀ j, k ≤ j → j < N → G.2.2.1 q j = 0) → ∃ G', lX2_countOther_12 n O S m (nI q) (nI k) G = some G' ∧ G'.1 = G.1 ∧ G'.2.1 = G.2.1 ∧ (∀ c, c ≠ q → G'.2.2.1 c = G.2.2.1 c) ∧ ∀ j, j < N → G'.2.2.1 q j = OS (srC S O N q) (rcC S q) G.2.2.2 N j
  | 0, _, _, _, _, h, _, _ => absurd h (by omega)
  | m + 1, k, G, k1, hk, hm, hlo, hhi => by
    have s8 := V.2.1
    have hN := V.2.2.2.1
    rw [lX2_countOther_12]
    unfold fX3_size
    rw [V.2.2.1]
    by_cases e : k = N
    · subst e
      rw [if_pos (nI_le (Nat.le_refl _) (by omega))]
      exact ⟨G, rfl, rfl, rfl, fun _ _ => rfl, hlo⟩
    have kN : k < N := by omega
    rw [if_neg (nI_ge kN (by omega)), source_s V hq kN, Option.bind_some, nI_1]
    cases hs : srC S O N q k with
    | none =>
      rw [if_pos (show e1 none < 0 by decide)]
      refine lother V hq m (k + 1) G (by omega) (by omega) (by omega) (fun j hj => ?_) (fun j h1 h2 => hhi j (by omega) h2)
      by_cases ej : j = k
      · subst ej
        rw [hhi j (Nat.le_refl _) kN, OS_none hs]
      · exact hlo j (by omega)
    | some u =>
      have hu := srC_dec _ _ hs
      rw [if_neg (show ¬ e1 (some u) < 0 from nI_pos (show u < 2 ^ 31 by omega)), if_neg (nI_in (show q < 8 by omega) (by decide)), if_neg (show ¬ (e1 (some u) < 0 ∨ 24 ≤ (e1 (some u)).toNatClampNeg) from vi_nI (show u < 24 by omega)), reach_s V hq, Option.bind_some, if_neg (vi_nI (show k < 24 by omega)), if_neg (vi_nI (show k < 24 by omega)), nI_clamp (show q < 2 ^ 31 by omega), show (e1 (some u)).toNatClampNeg = u from nI_c (by omega), nI_c (show k < 24 by omega)]
      have go : ∀ y : Int64, y = G.2.2.2 u + (if rcC S q = true then OS (srC S O N q) (rcC S q) G.2.2.2 N u else 0) → ∃ G', lX2_countOther_12 n O S m (nI q) (nI (k + 1)) (G.1, G.2.1, va_up G.2.2.1 q (vp_updL (G.2.2.1 q) k y), G.2.2.2) = some G' ∧ G'.1 = G.1 ∧ G'.2.1 = G.2.1 ∧ (∀ c, c ≠ q → G'.2.2.1 c = G.2.2.1 c) ∧ ∀ j, j < N → G'.2.2.1 q j = OS (srC S O N q) (rcC S q) G.2.2.2 N j := by
        intro y hy
        obtain ⟨G', a1, a2, a3, a4, a5⟩ := lother V hq m (k + 1) (G.1, G.2.1, va_up G.2.2.1 q (vp_updL (G.2.2.1 q) k y), G.2.2.2) (by omega) (by omega) (by omega) (fun j hj => by
          show va_up G.2.2.1 q (vp_updL (G.2.2.1 q) k y) q j = OS (srC S O N q) (rcC S q) G.2.2.2 N j
          rw [vu_s]
          by_cases ej : j = k
          · subst ej
            rw [pk_uLs, hy, OS_some srC_dec hs kN]
          · rw [pk_uLn ej]
            exact hlo j (by omega)) (fun j h1 h2 => by
          show va_up G.2.2.1 q (vp_updL (G.2.2.1 q) k y) q j = 0
          rw [vu_s, pk_uLn (by omega)]
          exact hhi j (by omega) h2)
        exact ⟨G', a1, a2, a3, fun c hc => (a4 c hc).trans (vu_n hc), a5⟩
      by_cases cr : rcC S q = true
      · rw [if_pos cr, if_neg (show ¬ (1 : Int32) = 0 by decide)]
        refine go _ ?_
        rw [hlo u hu, if_pos cr]
      · rw [if_neg cr, if_pos (show (0 : Int32) = 0 from rfl)]
        refine go _ ?_
        rw [if_neg cr]
theorem srC_0 {q : Nat} : srC S O N q 0 = none := by
  unfold srC
  exact if_neg (fun z => by omega)
theorem lrun2 (V : VV S O s N) (hn : 100 ≤ n) (N1 : 1 ≤ N) : ∀ m q G, 1 ≤ q → q ≤ s → s - q < m → HR S O G s N 0 → RO S T O G s N 0 → (∀ k, k < N → G.2.2.1 0 k = 1) → (∀ c, 1 ≤ c → c < q → ∀ k, k < N → G.2.2.1 c k = OS (srC S O N c) (rcC S c) (fun x => if okC S T O (hgC S c) x = true then G.2.2.1 (hgC S c) x * PD N s (hgC S) (srC S O N) (rcC S) G.1 (hgC S c) c x else 0) N k) → ∃ G', lX2_run_42 n T O S m (nI q) G = some G' ∧ EQ N s (hgC S) (srC S O N) (rcC S) (okC S T O) G'.1 ∧ EO N s (hgC S) (srC S O N) (rcC S) (okC S T O) G'.1 G'.2.2.1
  | 0, _, _, _, _, h, _, _, _, _ => absurd h (by omega)
  | m + 1, q, G, q1, hq, hm, h1, h2, h3, h4 => by
    have s8 := V.2.1
    have hN := V.2.2.2.1
    rw [lX2_run_42]
    unfold fX5_size
    rw [V.1]
    by_cases e : q = s
    · subst e
      rw [if_pos (nI_le (Nat.le_refl _) (by omega))]
      exact ⟨G, rfl, fun c hc k hk => h2 c (Nat.zero_le _) hc k hk, h3, fun c c1 c2 k hk => h4 c c1 c2 k hk⟩
    have qs : q < s := by omega
    obtain ⟨p, hp, ep⟩ := V.2.2.2.2.1 q q1 qs
    have ehg : hgC S q = p := by
      unfold hgC
      rw [ep]
      exact nI_clamp (by omega)
    rw [if_neg (nI_ge qs (by omega)), hang5 V qs, Option.bind_some, ep, nI_1]
    obtain ⟨G1, a1, a2, a3, a4, a5, a6⟩ := lrest (n := n) (T := T) V hn (show p < s by omega) qs n 0 G h1 (by omega) (by omega)
    have a1 : fX2_countRest n G (nI p) (nI q) T O S = some G1 := a1
    rw [a1, Option.bind_some]
    obtain ⟨G2, b1, b2, b3, b4, b5⟩ := lother (n := n) V qs n 1 (G1.1, G1.2.1, va_up G1.2.2.1 q (p_fill (G1.2.2.1 q) 0), G1.2.2.2) (by omega) N1 (by omega) (fun j hj => by
      have : j = 0 := by omega
      subst this
      rw [OS_none srC_0]
      show va_up G1.2.2.1 q (p_fill (G1.2.2.1 q) 0) q 0 = 0
      rw [vu_s]
      exact if_pos (by omega)) (fun j j1 j2 => by
      show va_up G1.2.2.1 q (p_fill (G1.2.2.1 q) 0) q j = 0
      rw [vu_s]
      exact if_pos (by omega))
    have b1 : fX2_countOther n G1 (nI q) O S = some G2 := by
      unfold fX2_countOther
      rw [if_neg (nI_in (show q < 8 by omega) (by decide)), nI_clamp (show q < 2 ^ 31 by omega)]
      exact b1
    rw [b1, Option.bind_some]
    have g1 : G2.1 = G.1 := b2.trans a2
    have g2 : G2.2.1 = G.2.1 := b3.trans a3
    have g3 : ∀ c, c ≠ q → G2.2.2.1 c = G.2.2.1 c := fun c hc => (b4 c hc).trans ((vu_n hc).trans (congrFun a4 c))
    refine lrun2 V hn N1 m (q + 1) G2 (by omega) (by omega) (by omega) (fun c c1 c2 k hk => ?_) (fun c c1 c2 k hk => ?_) (fun k hk => ?_) (fun c c1 c2 k hk => ?_)
    · rw [g1, g2]
      exact h1 c c1 c2 k hk
    · rw [g1]
      exact h2 c c1 c2 k hk
    · rw [g3 0 (by omega)]
      exact h3 k hk
    · rw [g1]
      by_cases ec : c = q
      · subst ec
        rw [b5 k hk, ehg, g3 p (by omega)]
        refine sm_congr N (fun x hx => ?_)
        show (if cl (srC S O N c) (rcC S c) x k = true then G1.2.2.2 x else 0) = _
        rw [a6 x (by omega) hx]
      · obtain ⟨p2, hp2, ep2⟩ := V.2.2.2.2.1 c c1 (by omega)
        have ehg2 : hgC S c = p2 := by
          unfold hgC
          rw [ep2]
          exact nI_clamp (by omega)
        rw [g3 c ec, ehg2, g3 p2 (by omega), ← ehg2]
        exact h4 c c1 (by omega) k hk
theorem run_s (V : VV S O s N) (hn : 100 ≤ n) (N1 : 1 ≤ N) (s1 : 1 ≤ s) (G : tG) : ∃ G', fX2_run n G T O S = some G' ∧ EQ N s (hgC S) (srC S O N) (rcC S) (okC S T O) G'.1 ∧ EO N s (hgC S) (srC S O N) (rcC S) (okC S T O) G'.1 G'.2.2.1 := by
  have s8 := V.2.1
  have hN := V.2.2.2.1
  unfold fX2_run fX5_size
  obtain ⟨G1, a1, a2, a3⟩ := lrun1 (n := n) (T := T) V hn N1 n s G (Nat.le_refl _) (by omega) (fun c c1 c2 => absurd c1 (by omega)) (fun c c1 c2 => absurd c1 (by omega))
  obtain ⟨G2, b1, b2, b3⟩ := lrun2 (n := n) (T := T) V hn N1 n 1 (G1.1, G1.2.1, va_up G1.2.2.1 0 (p_fill (G1.2.2.1 0) 1), G1.2.2.2) (by omega) s1 (by omega) a2 a3 (fun k hk => by
    show va_up G1.2.2.1 0 (p_fill (G1.2.2.1 0) 1) 0 k = 1
    rw [vu_s]
    exact if_pos (by omega)) (fun c c1 c2 => absurd c1 (by omega))
  refine ⟨G2, ?_, b2, b3⟩
  rw [V.1, show nI s - 1 = nI s + (-1) by obtain ⟨t, rfl⟩ : ∃ t, s = t + 1 := ⟨s - 1, by omega⟩; rw [nI_pred, pk_m1], a1]
  exact b1
end MATCHER2
