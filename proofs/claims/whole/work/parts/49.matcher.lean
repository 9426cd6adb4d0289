/-! the class's MATCHER fills its rows as EQ and EO ask -/
def hgC (S : tS) (c : Nat) : Nat := (S.2.1 c).toNatClampNeg
def sxC (S : tS) (O : tO) (q k : Nat) : Int32 := if S.2.2.1 q = 0 ∨ S.2.2.1 q = 1 then O.2.2.1 k else O.2.2.2.1 k
def srC (S : tS) (O : tO) (N q k : Nat) : Option Nat := if k < N ∧ ¬ sxC S O q k < 0 ∧ (sxC S O q k).toNatClampNeg < k then some (sxC S O q k).toNatClampNeg else none
def rcC (S : tS) (q : Nat) : Bool := decide (S.2.2.1 q = 1 ∨ S.2.2.1 q = 3)
def okC (S : tS) (T : tT) (O : tO) (q k : Nat) : Bool := decide (S.1 q = 6 ∨ S.1 q = T.1 (O.2.1 k).toNatClampNeg)
def VV (S : tS) (O : tO) (s N : Nat) : Prop := S.2.2.2.1 = nI s ∧ s ≤ 8 ∧ O.2.2.2.2.2.2.2 = nI N ∧ N ≤ 24 ∧ (∀ q, 1 ≤ q → q < s → ∃ h, h < q ∧ S.2.1 q = nI h) ∧ (∀ k, k < N → (∃ v, v < 24 ∧ O.2.1 k = nI v) ∧ (O.2.2.1 k = -1 ∨ ∃ u, u < k ∧ O.2.2.1 k = nI u) ∧ (O.2.2.2.1 k = -1 ∨ ∃ u, u < k ∧ O.2.2.2.1 k = nI u))
section MATCHER
variable {n s N : Nat} {S : tS} {O : tO} {T : tT} {G : tG}
theorem srC_dec {q : Nat} : ∀ k u, srC S O N q k = some u → u < k := fun k u h => by
  unfold srC at h
  split at h
  · rename_i c
    cases h
    exact c.2.2
  · cases h
theorem has5 (V : VV S O s N) {q : Nat} (hq : q < s) : fX5_has S (nI q) = 1 := by
  have := V.2.1
  unfold fX5_has
  rw [if_neg (nI_pos (by omega)), V.1, if_neg (nI_ge hq (by omega))]
theorem hang5 (V : VV S O s N) {q : Nat} (hq : q < s) : fX5_hangOf S (nI q) = some (S.2.1 q) := by
  have := V.2.1
  unfold fX5_hangOf
  rw [has5 V hq, if_neg (by decide), if_neg (nI_in (show q < 8 by omega) (by decide)), nI_clamp (by omega)]
theorem axis5 (V : VV S O s N) {q : Nat} (hq : q < s) : fX5_axisOf S (nI q) = some (S.2.2.1 q) := by
  have := V.2.1
  unfold fX5_axisOf
  rw [has5 V hq, if_neg (by decide), if_neg (nI_in (show q < 8 by omega) (by decide)), nI_clamp (by omega)]
theorem source_s (V : VV S O s N) {q k : Nat} (hq : q < s) (hk : k < N) : fX2_sourceOf G (nI q) (nI k) O S = some (e1 (srC S O N q k)) := by
  have hN := V.2.2.2.1
  have hx : fX2_sourceOf G (nI q) (nI k) O S = some (sxC S O q k) := by
    unfold fX2_sourceOf sxC
    rw [axis5 V hq, Option.bind_some, parentAt_s V.2.2.1 hk hN, elderAt_s V.2.2.1 hk hN]
    by_cases c0 : S.2.2.1 q = 0
    · rw [if_pos c0, if_pos (Or.inl c0)]
      rfl
    · rw [if_neg c0]
      by_cases c1 : S.2.2.1 q = 1
      · rw [if_neg (fun z => z c1), if_pos (Or.inr c1)]
        rfl
      · rw [if_pos c1, if_neg (fun z => z.elim c0 c1)]
        rfl
  rw [hx]
  obtain ⟨_, h1, h2⟩ := V.2.2.2.2.2 k hk
  have h3 : sxC S O q k = -1 ∨ ∃ u, u < k ∧ sxC S O q k = nI u := by
    unfold sxC
    split
    · exact h1
    · exact h2
  unfold srC
  rcases h3 with h3 | ⟨u, hu, h3⟩
  · rw [h3, if_neg (fun z => z.2.1 (by decide))]
    rfl
  · rw [h3, nI_clamp (show u < 2 ^ 31 by omega), if_pos ⟨hk, nI_pos (by omega), hu⟩]
    rfl
theorem reach_s (V : VV S O s N) {q : Nat} (hq : q < s) : fX2_reachesOn G (nI q) S = some (if rcC S q = true then 1 else 0) := by
  unfold fX2_reachesOn rcC
  rw [axis5 V hq, Option.bind_some]
  by_cases c1 : S.2.2.1 q = 1
  · rw [if_pos c1, if_pos (decide_eq_true (Or.inl c1))]
  · rw [if_neg c1]
    by_cases c3 : S.2.2.1 q = 3
    · rw [if_neg (fun z => z c3), if_pos (decide_eq_true (Or.inr c3))]
    · rw [if_pos c3, if_neg (fun z => (of_decide_eq_true z).elim c1 c3)]
/-- the rows of hung from c on -/
def HR (S : tS) (O : tO) (G : tG) (s N c0 : Nat) : Prop := ∀ c, c0 ≤ c → c < s → ∀ k, k < N → G.2.1 c k = HS (srC S O N c) (rcC S c) (G.1 c) N k
theorem lprod (V : VV S O s N) {q k w : Nat} {wo : Int32} (hq : q < s) (hk : k < N) (hw : ∀ c, c < s → (nI c = wo ↔ c = w)) (hR : HR S O G s N (q + 1)) : ∀ m c, q < c → c ≤ s → s - c < m → lX2_product_36 n G T O S m (nI q) wo (nI k) (pr (fun c => if q < c ∧ hgC S c = q ∧ c ≠ w then HS (srC S O N c) (rcC S c) (G.1 c) N k else 1) c) (nI c) = some (PD N s (hgC S) (srC S O N) (rcC S) G.1 q w k)
  | 0, _, _, _, h => absurd h (by omega)
  | m + 1, c, h1, h2, hm => by
    have s8 := V.2.1
    have hN := V.2.2.2.1
    rw [lX2_product_36]
    unfold fX5_size
    rw [V.1]
    by_cases e : c = s
    · subst e
      rw [if_pos (nI_le (Nat.le_refl _) (by omega))]
      rfl
    have cs : c < s := by omega
    rw [if_neg (nI_ge cs (by omega)), hang5 V cs, Option.bind_some, nI_1]
    obtain ⟨h, hh, eh⟩ := V.2.2.2.2.1 c (by omega) cs
    have ehg : hgC S c = h := by
      unfold hgC
      rw [eh]
      exact nI_clamp (by omega)
    have rec_ := lprod V hq hk hw hR m (c + 1) (by omega) (by omega) (by omega)
    have ps : pr (fun c => if q < c ∧ hgC S c = q ∧ c ≠ w then HS (srC S O N c) (rcC S c) (G.1 c) N k else 1) (c + 1) = pr (fun c => if q < c ∧ hgC S c = q ∧ c ≠ w then HS (srC S O N c) (rcC S c) (G.1 c) N k else 1) c * (if q < c ∧ hgC S c = q ∧ c ≠ w then HS (srC S O N c) (rcC S c) (G.1 c) N k else 1) := rfl
    rw [ps] at rec_
    by_cases cw : c = w
    · rw [if_pos ((hw c cs).mpr cw)]
      rw [if_neg (fun z => z.2.2 cw), Int64.mul_one] at rec_
      exact rec_
    · rw [if_neg (fun z => cw ((hw c cs).mp z)), eh]
      by_cases ch : h = q
      · rw [if_pos ⟨h1, ehg.trans ch, cw⟩] at rec_
        rw [if_neg (fun z => z (by rw [ch])), if_neg (nI_in (show c < 8 by omega) (by decide)), if_neg (vi_nI (show k < 24 by omega)), nI_clamp (show c < 2 ^ 31 by omega), nI_c (show k < 24 by omega), hR c (by omega) cs k hk]
        exact rec_
      · rw [if_neg (fun z => ch (ehg.symm.trans z.2.1)), Int64.mul_one] at rec_
        rw [if_pos (show ¬ nI h = nI q from fun z => ch ((nI_eq (by omega) (by omega)).mp z))]
        exact rec_
theorem pr_ones {f : Nat → Int64} : ∀ c, (∀ i, i < c → f i = 1) → pr f c = 1
  | 0, _ => rfl
  | c + 1, h => by
    unfold pr
    rw [pr_ones c (fun i hi => h i (by omega)), h c (by omega), Int64.mul_one]
theorem product_s (V : VV S O s N) (hn : 100 ≤ n) {q k w : Nat} {wo : Int32} (hq : q < s) (hk : k < N) (hw : ∀ c, c < s → (nI c = wo ↔ c = w)) (hR : HR S O G s N (q + 1)) : fX2_product n G (nI q) wo (nI k) T O S = some (if okC S T O q k = true then PD N s (hgC S) (srC S O N) (rcC S) G.1 q w k else 0) := by
  have s8 := V.2.1
  have hN := V.2.2.2.1
  obtain ⟨⟨v, v24, ev⟩, _⟩ := V.2.2.2.2.2 k hk
  unfold fX2_product okC
  rw [nodeAt_s V.2.2.1 hk hN, Option.bind_some, ev, nI_clamp (show v < 2 ^ 31 by omega)]
  have ft : fX5_fits S (nI q) (fX7_tagOf T (nI v)) = some (if S.1 q = 6 ∨ S.1 q = T.1 v then 1 else 0) := by
    have tg : fX7_tagOf T (nI v) = T.1 v := by
      unfold fX7_tagOf
      rw [X7_num v24, if_neg (by decide), nI_c v24]
    unfold fX5_fits
    rw [tg, has5 V hq, if_neg (show ¬ (1 : Int32) = 0 by decide), if_neg (nI_in (show q < 8 by omega) (by decide)), nI_clamp (show q < 2 ^ 31 by omega)]
    by_cases c6 : S.1 q = 6
    · rw [if_pos c6, if_pos (Or.inl c6)]
    · rw [if_neg c6]
      by_cases ct : S.1 q = T.1 v
      · rw [if_neg (fun z => z ct), if_pos (Or.inr ct)]
      · rw [if_pos ct, if_neg (fun z => z.elim c6 ct)]
  rw [ft, Option.bind_some]
  by_cases c : S.1 q = 6 ∨ S.1 q = T.1 v
  · rw [if_pos c, if_pos (show ¬ (1 : Int32) = 0 by decide), if_pos (decide_eq_true c), nI_1]
    have := lprod (n := n) (T := T) V hq hk hw hR n (q + 1) (by omega) (by omega) (by omega)
    rw [pr_ones (q + 1) (fun i hi => if_neg (fun z => by omega))] at this
    exact this
  · rw [if_neg c, if_neg (show ¬ ¬ (0 : Int32) = 0 from fun z => z rfl), if_neg (fun z => c (of_decide_eq_true z))]
theorem lown (V : VV S O s N) (hn : 100 ≤ n) {q : Nat} (hq : q < s) : ∀ m k G, HR S O G s N (q + 1) → k ≤ N → N - k < m → ∃ G', lX2_countOwn_2 n T O S m (nI q) (nI k) G = some G' ∧ G'.2 = G.2 ∧ (∀ c, c ≠ q → G'.1 c = G.1 c) ∧ (∀ j, j < k → G'.1 q j = G.1 q j) ∧ ∀ j, k ≤ j → j < N → G'.1 q j = if okC S T O q j = true then PD N s (hgC S) (srC S O N) (rcC S) G.1 q s j else 0
  | 0, _, _, _, _, h => absurd h (by omega)
  | m + 1, k, G, hR, hk, hm => by
    have s8 := V.2.1
    have hN := V.2.2.2.1
    rw [lX2_countOwn_2]
    unfold fX3_size
    rw [V.2.2.1]
    by_cases e : k = N
    · subst e
      rw [if_pos (nI_le (Nat.le_refl _) (by omega))]
      exact ⟨G, rfl, rfl, fun _ _ => rfl, fun _ _ => rfl, fun j h1 h2 => absurd h1 (by omega)⟩
    have kN : k < N := by omega
    rw [if_neg (nI_ge kN (by omega)), if_neg (nI_in (show q < 8 by omega) (by decide)), product_s (wo := -1) (w := s) V hn hq kN (fun c hc => ⟨fun z => absurd z (m1_ne (by omega)), fun z => absurd z (by omega)⟩) hR, Option.bind_some, if_neg (vi_nI (show k < 24 by omega)), nI_clamp (show q < 2 ^ 31 by omega), nI_c (show k < 24 by omega), nI_1]
    have PDe : ∀ (x : Int64) j, PD N s (hgC S) (srC S O N) (rcC S) (va_up G.1 q (vp_updL (G.1 q) k x)) q s j = PD N s (hgC S) (srC S O N) (rcC S) G.1 q s j := fun x j => PD_congr (fun c h1 h2 h3 h4 i hi => by rw [vu_n (by omega)]) j
    obtain ⟨G', a1, a2, a3, a4, a5⟩ := lown V hn hq m (k + 1) (va_up G.1 q (vp_updL (G.1 q) k (if okC S T O q k = true then PD N s (hgC S) (srC S O N) (rcC S) G.1 q s k else 0)), G.2.1, G.2.2.1, G.2.2.2) (fun c h1 h2 i hi => by
      show G.2.1 c i = HS (srC S O N c) (rcC S c) (va_up G.1 q _ c) N i
      rw [vu_n (by omega)]
      exact hR c h1 h2 i hi) (by omega) (by omega)
    refine ⟨G', a1, a2, fun c hc => (a3 c hc).trans (vu_n hc), fun j hj => ?_, fun j h1 h2 => ?_⟩
    · rw [a4 j (by omega)]
      show va_up G.1 q _ q j = _
      rw [vu_s, pk_uLn (by omega)]
    · by_cases ej : j = k
      · subst ej
        rw [a4 j (by omega)]
        show va_up G.1 q _ q j = _
        rw [vu_s, pk_uLs]
      · rw [a5 j (by omega) h2]
        show (if okC S T O q j = true then PD N s (hgC S) (srC S O N) (rcC S) (va_up G.1 q _) q s j else 0) = _
        rw [PDe]
end MATCHER
