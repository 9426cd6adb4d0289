/-! cut -/
section CUT
variable {n : Nat} {X : tX} {T A B : tT} {O : tO} {M : tM} {P : tP} {th : Nat → Bool} {pa ky : Nat → Nat} {c kd : Nat}
theorem rk_inj (w : wfT th pa ky) (h0 : th 0 = true) {v x : Nat} (tv : th v = true) (tx : th x = true) (e : rk th pa ky v = rk th pa ky x) : v = x := by
  have h1 := get_rk w h0 tv
  rw [e, get_rk w h0 tx] at h1
  cases h1
  rfl
theorem lbf (w : wfT th pa ky) (h0 : th 0 = true) (hO : OR O th pa ky) {v : Nat} (tv : th v = true) : ∀ m k g, rk th pa ky v ≤ k → k ≤ rk th pa ky v + (pre th pa ky v).length → rk th pa ky v + (pre th pa ky v).length - k < m → (∀ i, i < 32 → bt g i = (th i && (decide (rk th pa ky v ≤ rk th pa ky i) && decide (rk th pa ky i < k)))) → ∃ g', lX3_bitsFrom_4 n O m (nI (rk th pa ky v)) g (nI k) = some g' ∧ ∀ i, i < 32 → bt g' i = (th i && ov pa v i)
  | 0, _, _, _, _, h, _ => absurd h (Nat.not_lt_zero _)
  | m + 1, k, g, hk1, hk2, hm, hg => by
    have hl := L_len w h0
    have hv := rk_lt w h0 tv
    obtain ⟨Aa, Bb, es⟩ := pre_split w h0 v tv
    have hlen : 1 ≤ (pre th pa ky v).length := by
      rw [pre_eq w tv, List.length_cons]
      omega
    have hle : rk th pa ky v + (pre th pa ky v).length ≤ (pre th pa ky 0).length := by
      have hx : (pre th pa ky v).getLast? ≠ none := by
        rw [Ne, List.getLast?_eq_none_iff]
        intro q
        rw [q] at hlen
        exact absurd hlen (by decide)
      have e0 : (pre th pa ky 0)[Aa.length]? = some v := by
        rw [es, List.getElem?_append_right (Nat.le_refl _), Nat.sub_self, pre_eq w tv]
        rfl
      have := rk_get w h0 e0
      rw [this]
      have := congrArg List.length es
      rw [List.length_append, List.length_append] at this
      omega
    rw [lX3_bitsFrom_4, belowAt_s hO.1 hv hl, Option.bind_some, (hO.2 _ v (get_rk w h0 tv)).2.2, nI_add]
    by_cases e : k = rk th pa ky v + (pre th pa ky v).length
    · subst e
      rw [if_pos (nI_lt (by omega) (by omega))]
      refine ⟨g, rfl, fun i hi => ?_⟩
      rw [hg i hi]
      cases ti : th i with
      | false => rfl
      | true =>
        rw [Bool.true_and, Bool.true_and]
        have sp := rk_span w h0 tv ti
        cases ho : ov pa v i with
        | true =>
          have := sp.mp ho
          rw [decide_eq_true this.1, decide_eq_true this.2]
          rfl
        | false =>
          by_cases q : rk th pa ky v ≤ rk th pa ky i
          · rw [decide_eq_true q, Bool.true_and, decide_eq_false]
            intro q2
            have := sp.mpr ⟨q, q2⟩
            rw [ho] at this
            cases this
          · rw [decide_eq_false q]
            rfl
    · have hk : k < (pre th pa ky 0).length := by omega
      have k24 : k < 24 := by omega
      have hx := List.getElem?_eq_getElem hk
      have tx := L_th w h0 hx
      have rx := rk_get w h0 hx
      have x24 := w.lt tx
      rw [if_neg (nI_nlt (by omega) (by omega)), isRank_s hO.1 hk hl, if_neg (by decide), if_neg (vi_nI k24), nI_c k24, (hO.2 k _ hx).1.1, nI_1]
      refine lbf w h0 hO tv m (k + 1) _ (by omega) (by omega) (by omega) (fun i hi => ?_)
      rw [bt_set _ (by omega) hi, hg i hi]
      by_cases ei : i = (pre th pa ky 0)[k]
      · rw [← ei] at tx rx
        rw [decide_eq_true ei, Bool.or_true, tx, rx, decide_eq_true (by omega), decide_eq_true (by omega)]
        rfl
      · rw [decide_eq_false ei, Bool.or_false]
        cases ti : th i with
        | false => rfl
        | true =>
          have : rk th pa ky i ≠ k := fun q => ei (rk_inj w h0 ti tx (by omega))
          by_cases q : rk th pa ky i < k
          · rw [decide_eq_true q, decide_eq_true (show rk th pa ky i < k + 1 by omega)]
          · rw [decide_eq_false q, decide_eq_false (show ¬ rk th pa ky i < k + 1 by omega)]
theorem bitsFrom_s (hn : 100 ≤ n) (w : wfT th pa ky) (h0 : th 0 = true) (hO : OR O th pa ky) {v : Nat} (tv : th v = true) : ∃ g, fX3_bitsFrom n O (nI (rk th pa ky v)) = some g ∧ ∀ i, i < 32 → bt g i = (th i && ov pa v i) := by
  have hl := L_len w h0
  have hv := rk_lt w h0 tv
  have hlen2 : (pre th pa ky v).length ≤ 24 := by
    obtain ⟨A, B, e⟩ := pre_split w h0 v tv
    rw [e, List.length_append, List.length_append] at hl
    omega
  refine lbf w h0 hO tv n _ 0 (Nat.le_refl _) (by omega) (by omega) (fun i hi => ?_)
  rw [b_0]
  by_cases q : rk th pa ky v ≤ rk th pa ky i
  · rw [decide_eq_false (show ¬ rk th pa ky i < rk th pa ky v by omega), Bool.and_false, Bool.and_false]
  · rw [decide_eq_false q, Bool.false_and, Bool.and_false]
theorem wf_cut (w : wfT th pa ky) {v : Nat} : wfT (fun i => th i && !ov pa v i) pa ky := by
  refine ⟨fun i i1 h => ?_, fun a b a1 b1 ha hb => ?_, fun i hi => ?_⟩
  · have h2 := (Bool.and_eq_true _ _).mp h
    have q := w.1 i i1 h2.1
    refine ⟨q.1, ?_, q.2.2⟩
    have ne : i ≠ v := fun e => by
      subst e
      rw [ov_self] at h2
      exact absurd h2.2 (by decide)
    show (th (pa i) && !ov pa v (pa i)) = true
    rw [q.2.1, ← ov_step w i1 h2.1 ne]
    exact h2.2
  · exact w.2.1 a b a1 b1 ((Bool.and_eq_true _ _).mp ha).1 ((Bool.and_eq_true _ _).mp hb).1
  · show (th i && !ov pa v i) = false
    rw [w.2.2 i hi]
    rfl
theorem O_cut (hn : 3000 ≤ n) (v : Int32) (C : Cu T O M) (H : HU P M) (K : KP X A B M) : ∃ r X' T' O' P' M', fX9_cut n X v T O P = some (r, X', T', O', P') ∧ fX10_cut n M v = some (r, M') ∧ AOK X T O A B M X' T' O' P' M' := by
  obtain ⟨th, pa, ky, c, kd, g, a, o⟩ := id C
  have I := TA_TI g a o
  unfold fX9_cut fX10_cut
  rcases I.arg v with ⟨e1, e2⟩ | ⟨k, k24, rfl, tk, e1, e2⟩
  · rw [e1, e2]
    exact ⟨-1, X, T, O, P, M, rfl, rfl, AOK.same C H K⟩
  rw [e1, e2, if_pos (show ¬ (1 : Int32) = 0 by decide), if_pos (show ¬ (1 : Int32) = 0 by decide)]
  by_cases ck : k = 0
  · subst ck
    exact ⟨-2, X, T, O, P, M, rfl, rfl, AOK.same C H K⟩
  have w := g.2.1
  have h0 := g.2.2.1
  rw [if_pos (nI_ne0 (by omega) (by omega)), if_pos (nI_ne0 (by omega) (by omega))]
  obtain ⟨P', M1, q1, q2, q3, q4, q5⟩ := record_s hn H a.1 a.2.1 (-1)
  have em := mS_eq q3 q4
  have g1 : GS (mS M1) th pa ky c kd := by
    rw [em]
    exact g
  obtain ⟨gs, b1, b2⟩ := X10_belowSet (n := n) w (show RM M1 th pa ky from g1.1) (by omega) k24
  obtain ⟨gn, c1, c2⟩ := bitsFrom_s (n := n) (by omega) w h0 o tk
  have eg : gs ||| (1 <<< (nI k &&& 31)) = gn := by
    apply b_ext
    intro i hi
    rw [bt_set _ (by omega) hi, b2 i hi, c2 i hi]
    by_cases e : i = k
    · subst e
      rw [tk, ov_self, decide_eq_true rfl, Bool.or_true]
      rfl
    · rw [decide_eq_false e, Bool.or_false, decide_eq_true e, Bool.true_and]
      cases ti : th i with
      | false => simp
      | true => rw [decide_eq_true (w.lt ti), Bool.true_and]
  have hbc : fJ6_bitCount_0f7a4 gn = nI (cnt (bt gn) 24) := bitCount_s (fun i i1 i2 => by rw [c2 i i2, w.2.2 i i1]; rfl)
  have e0 : M1.1 0 = T.2.2.2.1 := (q3 0 (by omega)).trans a.1.symm
  have e3 : mS (va_up M1.1 0 (M1.1 0 &&& (gn ^^^ (-1))), M1.2.1, M1.2.2) = (M.1 0 &&& (gn ^^^ (-1)), M.1 1, M.1 2, M.2.1 3, M.2.1 4, M.2.1 5) := by
    have : mS (va_up M1.1 0 (M1.1 0 &&& (gn ^^^ (-1))), M1.2.1, M1.2.2) = (M1.1 0 &&& (gn ^^^ (-1)), M1.1 1, M1.1 2, M1.2.1 3, M1.2.1 4, M1.2.1 5) := rfl
    rw [this, q3 0 (by omega), q3 1 (by omega), q3 2 (by omega), q4 3 (by omega), q4 4 (by omega), q4 5 (by omega)]
  have g' : GS (mS (va_up M1.1 0 (M1.1 0 &&& (gn ^^^ (-1))), M1.2.1, M1.2.2)) (fun i => th i && !ov pa k i) pa ky c kd := by
    rw [e3]
    refine ⟨RR_sub g.1 (fun i hi => ?_) (fun i hi => ?_) (fun i h => ((Bool.and_eq_true _ _).mp h).1), wf_cut w, ?_, ⟨g.2.2.2.1.1, g.2.2.2.1.2.1, fun i h => g.2.2.2.1.2.2 i ((Bool.and_eq_true _ _).mp h).1⟩, g.2.2.2.2⟩
    · have r1 := g.1.1 i hi
      have r1 : th i = bt (M.1 0) i := r1
      show (th i && !ov pa k i) = bt (M.1 0 &&& (gn ^^^ (-1))) i
      rw [bt_clear _ _ (by omega), ← r1, c2 i (by omega)]
      cases th i with
      | false => rfl
      | true => rfl
    · show (th i && !ov pa k i) = false
      rw [w.2.2 i hi]
      rfl
    · show (th 0 && !ov pa k 0) = true
      rw [h0, ov_0 ck]
      rfl
  have a' : TA (T.1, T.2.1, T.2.2.1, T.2.2.2.1 &&& (gn ^^^ (-1)), T.2.2.2.2.1, T.2.2.2.2.2) (mS (va_up M1.1 0 (M1.1 0 &&& (gn ^^^ (-1))), M1.2.1, M1.2.2)) c := by
    rw [e3, a.1]
    exact ⟨rfl, a.2⟩
  obtain ⟨O', o1, o2⟩ := settle_s (n := n) (by omega) g' a' X O
  rw [q1, q2, Option.bind_some, Option.bind_some, I.rank tk, Option.bind_some, c1, Option.bind_some, b1, Option.bind_some, eg, X10_bits (by omega), Option.bind_some]
  unfold fX7_remove
  rw [Option.bind_some, o1, Option.bind_some, hbc]
  refine ⟨_, _, _, _, _, _, rfl, rfl, ⟨_, _, _, _, _, g', a', o2⟩, q5 _ ?_ rfl ?_, K.fr rfl ?_ (q4 8 (by omega)), fun i hi => ⟨?_, q4 i (by omega)⟩, Or.inr rfl⟩
  · rfl
  · refine ⟨th, pa, ky, c, c, kd, g, g'.2.2.2.1.1, g.2.2.2.1.2.1, Nat.le_refl _, ?_, fun i hi => ?_⟩
    · rw [e3]
      rfl
    · have := g.2.2.2.1.2.1
      rw [e3, if_neg (fun z => m1_ne (show i < 2147483648 by omega) z.symm)]
      exact ⟨fun _ => ⟨rfl, rfl⟩, rfl⟩
  · exact q3 9 (by omega)
  · show va_up M1.1 0 (M1.1 0 &&& (gn ^^^ (-1))) i = _
    rw [vu_n (by omega), q3 i (by omega)]
end CUT
