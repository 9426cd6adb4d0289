/-! tag, grow -/
section ACTS3
variable {n : Nat} {X : tX} {T A B : tT} {O : tO} {M : tM} {P : tP} {th : Nat → Bool} {pa ky : Nat → Nat} {c kd : Nat}
theorem mS_eq {M1 : tM} (h6 : ∀ j, j ≠ 7 → M1.1 j = M.1 j) (h7 : ∀ j, j ≠ 6 → M1.2.1 j = M.2.1 j) : mS M1 = mS M := by
  unfold mS
  rw [h6 0 (by omega), h6 1 (by omega), h6 2 (by omega), h7 3 (by omega), h7 4 (by omega), h7 5 (by omega)]
theorem O_tag (hn : 3000 ≤ n) (v tag : Int32) (C : Cu T O M) (H : HU P M) (K : KP X A B M) : ∃ r X' T' O' P' M', fX9_tag n X v tag T O P = some (r, X', T', O', P') ∧ fX10_tag n M v tag = some (r, M') ∧ AOK X T O A B M X' T' O' P' M' := by
  obtain ⟨th, pa, ky, c, kd, g, a, o⟩ := id C
  have I := TA_TI g a o
  unfold fX9_tag fX10_tag
  rcases I.arg v with ⟨e1, e2⟩ | ⟨k, k24, rfl, tk, e1, e2⟩
  · rw [e1, e2]
    exact ⟨-1, X, T, O, P, M, rfl, rfl, AOK.same C H K⟩
  rcases tag_cases tag with ⟨f1, f2⟩ | ⟨f1, f2, j, j6, rfl⟩
  · rw [e1, e2, f1, f2]
    exact ⟨-1, X, T, O, P, M, rfl, rfl, AOK.same C H K⟩
  have hc := g.2.2.2.1
  have kc := hc.2.2 k tk
  have ht : fX7_tagOf T (nI k) = M.2.1 3 k := by
    unfold fX7_tagOf
    rw [X7_num k24, if_neg (by decide), nI_c k24]
    exact (a.2.2.2.2.2 k kc).1
  rw [e1, e2, f1, f2, if_neg (show ¬ (1 : Int32) = 0 by decide), if_neg (show ¬ (1 : Int32) = 0 by decide), Option.bind_some, if_pos (show ¬ (1 : Int32) = 0 by decide), if_pos (show ¬ (1 : Int32) = 0 by decide), if_neg (vi_nI k24), nI_c k24, ht]
  by_cases ct : M.2.1 3 k = nI j
  · rw [if_neg (fun q => q ct), if_neg (fun q => q ct)]
    exact ⟨-2, X, T, O, P, M, rfl, rfl, AOK.same C H K⟩
  rw [if_pos ct, if_pos ct]
  obtain ⟨P', M1, q1, q2, q3, q4, q5⟩ := record_s hn H a.1 a.2.1 (nI k)
  have em := mS_eq q3 q4
  have hs : fX7_setTag T (nI k) (nI j) = some (upd T.1 k (nI j), T.2.1, T.2.2.1, T.2.2.2.1, T.2.2.2.2.1, T.2.2.2.2.2) := by
    unfold fX7_setTag
    rw [X7_num k24, if_neg (by decide), if_neg (vi_nI k24), nI_c k24]
  have e3 : mS (M1.1, va_up M1.2.1 3 (upd (M1.2.1 3) k (nI j)), M1.2.2) = (M.1 0, M.1 1, M.1 2, upd (M.2.1 3) k (nI j), M.2.1 4, M.2.1 5) := by
    have : mS (M1.1, va_up M1.2.1 3 (upd (M1.2.1 3) k (nI j)), M1.2.2) = (M1.1 0, M1.1 1, M1.1 2, upd (M1.2.1 3) k (nI j), M1.2.1 4, M1.2.1 5) := rfl
    rw [this, q3 0 (by omega), q3 1 (by omega), q3 2 (by omega), q4 3 (by omega), q4 4 (by omega), q4 5 (by omega)]
  have g' : GS (mS (M1.1, va_up M1.2.1 3 (upd (M1.2.1 3) k (nI j)), M1.2.2)) th pa ky c kd := by
    rw [e3]
    exact g
  have a' : TA (upd T.1 k (nI j), T.2.1, T.2.2.1, T.2.2.2.1, T.2.2.2.2.1, T.2.2.2.2.2) (mS (M1.1, va_up M1.2.1 3 (upd (M1.2.1 3) k (nI j)), M1.2.2)) c := by
    rw [e3]
    obtain ⟨a1, a2, a3, a4, a5, a6⟩ := a
    refine ⟨a1, a2, a3, a4, a5, fun v hv => ⟨?_, (a6 v hv).2⟩⟩
    show upd T.1 k (nI j) v = upd (M.2.1 3) k (nI j) v
    by_cases e : v = k
    · subst e
      rw [pk_us, pk_us]
    · rw [pk_un e, pk_un e]
      exact (a6 v hv).1
  obtain ⟨O', o1, o2⟩ := settle_s (n := n) (by omega) g' a' X O
  rw [q1, q2, Option.bind_some, Option.bind_some, hs, Option.bind_some, o1, Option.bind_some]
  refine ⟨_, _, _, _, _, _, rfl, rfl, ⟨th, pa, ky, c, kd, g', a', o2⟩, q5 _ rfl rfl ?_, K.fr rfl (q3 9 (by omega)) (q4 8 (by omega)), fun i hi => ⟨q3 i (by omega), ?_⟩, Or.inr rfl⟩
  · refine ⟨th, pa, ky, c, c, kd, g, g'.2.2.2.1.1, hc.2.1, Nat.le_refl _, ?_, fun v hv => ?_⟩
    · rw [e3]
      rfl
    · rw [e3, ht]
      refine ⟨fun _ => ⟨rfl, rfl⟩, ?_⟩
      show M.2.1 3 v = if nI k = nI v then M.2.1 3 k else upd (M.2.1 3) k (nI j) v
      by_cases e : v = k
      · subst e
        rw [if_pos rfl]
      · rw [if_neg (fun z => e ((nI_eq (by omega) (by omega)).mp z).symm), pk_un e]
  · show va_up M1.2.1 3 _ i = _
    rw [vu_n (by omega)]
    exact q4 i (by omega)
/-- one more, on both sides -/
theorem add_s {s : tN} (g : GS s th pa ky c kd) (a : TA T s c) {p j : Nat} (tp : th p = true) (hj : j ≤ kc th pa p) (hs : sfN th pa ky kd p j ≠ 0) (c24 : c < 24) (tag : Int32) : ∃ T', fX7_add T (nI p) (nI (sfN th pa ky kd p j)) tag = some (nI c, T') ∧ GS (s.1 ||| (1 <<< (nI c &&& 31)), nI (c + 1), s.2.2.1, upd s.2.2.2.1 c tag, upd s.2.2.2.2.1 c (nI p), upd s.2.2.2.2.2 c (nI (sfN th pa ky kd p j))) (thA th c) (fnA pa c p) (fnA ky c (sfN th pa ky kd p j)) (c + 1) kd ∧ TA T' (s.1 ||| (1 <<< (nI c &&& 31)), nI (c + 1), s.2.2.1, upd s.2.2.2.1 c tag, upd s.2.2.2.2.1 c (nI p), upd s.2.2.2.2.2 c (nI (sfN th pa ky kd p j))) (c + 1) := by
  obtain ⟨r, w, h0, hc, hk⟩ := g
  obtain ⟨a1, a2, a3, a4, a5, a6⟩ := a
  have p24 := w.lt tp
  have hc0 : 1 ≤ c := hc.2.2 0 h0
  have sin := sfN_in (kd := kd) (p := p) (place := j) w
  have hin := hiN_in (p := p) (place := j) w
  have hr : 0 < sfN th pa ky kd p j ∧ sfN th pa ky kd p j < 1000000000 := by
    rcases sin with h | h
    · exact absurd h hs
    · omega
  have hap : ∀ u, 1 ≤ u → th u = true → pa u = p → ky u ≠ sfN th pa ky kd p j := fun u u1 tu pu e => by
    rcases sf_apart w hj u1 tu pu with q | q
    · rcases sin with h | h <;> omega
    · rcases sin with h | h <;> omega
  refine ⟨(upd T.1 c tag, upd T.2.1 c (nI p), upd T.2.2.1 c (nI (sfN th pa ky kd p j)), s.1 ||| (1 <<< (nI c &&& 31)), nI (c + 1), T.2.2.2.2.2), ?_, ⟨RR_add r hc0 c24 p24 hr, wf_add w hc0 c24 hc.2.2 tp hr hap, ?_, ⟨rfl, by omega, fun v hv => ?_⟩, hk⟩, ?_⟩
  · unfold fX7_add fX7_isFull
    rw [a1, a2, hc.1, if_pos (show nI c < 24 from nI_lt (b := 24) c24 (by decide)), if_pos rfl, if_neg (vi_nI c24), nI_c c24, nI_1]
  · unfold thA
    rw [h0]
    rfl
  · unfold thA at hv
    rcases (Bool.or_eq_true _ _).mp hv with q | q
    · have := hc.2.2 v q
      omega
    · have := of_decide_eq_true q
      omega
  · refine ⟨rfl, rfl, a3, (pk_un (by omega)).trans a4, (pk_un (by omega)).trans a5, fun v hv => ?_⟩
    show upd T.1 c tag v = upd s.2.2.2.1 c tag v ∧ (1 ≤ v → upd T.2.1 c (nI p) v = upd s.2.2.2.2.1 c (nI p) v ∧ upd T.2.2.1 c (nI (sfN th pa ky kd p j)) v = upd s.2.2.2.2.2 c (nI (sfN th pa ky kd p j)) v)
    by_cases e : v = c
    · subst e
      rw [pk_us, pk_us, pk_us, pk_us, pk_us, pk_us]
      exact ⟨rfl, fun _ => ⟨rfl, rfl⟩⟩
    · rw [pk_un e, pk_un e, pk_un e, pk_un e, pk_un e, pk_un e]
      exact a6 v (by omega)
theorem comes_s (hn : 100 ≤ n) (g : GS (mS M) th pa ky c kd) {p j : Nat} (tp : th p = true) (hj : j ≤ kc th pa p) (hs : sfN th pa ky kd p j ≠ 0) (c24 : c < 24) (tag : Int32) : ∃ M', fX10_comes n M (nI p) (nI j) tag = some (nI c, M') ∧ mS M' = (M.1 0 ||| (1 <<< (nI c &&& 31)), nI (c + 1), M.1 2, upd (M.2.1 3) c tag, upd (M.2.1 4) c (nI p), upd (M.2.1 5) c (nI (sfN th pa ky kd p j))) ∧ (∀ i, 2 ≤ i → M'.1 i = M.1 i) ∧ (∀ i, 6 ≤ i → M'.2.1 i = M.2.1 i) := by
  have w := g.2.1
  have hc := g.2.2.2.1.1
  have hc : M.1 1 = nI c := hc
  have R : RM M th pa ky := g.1
  refine ⟨(va_up (va_up M.1 0 (M.1 0 ||| (1 <<< (nI c &&& 31)))) 1 (nI (c + 1)), va_up (va_up (va_up M.2.1 3 (upd (M.2.1 3) c tag)) 4 (upd (M.2.1 4) c (nI p))) 5 (upd (M.2.1 5) c (nI (sfN th pa ky kd p j))), M.2.2), ?_, ?_⟩
  · unfold fX10_comes
    have := sf_lt (kd := kd) w (p := p) (place := j)
    rw [X10_keyFor w R g.2.2.2.2.1 g.2.2.2.2.2 hn (w.lt tp) hj, Option.bind_some, if_pos (nI_ne0 (by omega) (by omega)), hc, if_neg (vi_nI c24), nI_c c24, nI_1]
  · refine ⟨rfl, fun i hi => ?_, fun i hi => ?_⟩
    · show va_up (va_up M.1 0 (M.1 0 ||| (1 <<< (nI c &&& 31)))) 1 (nI (c + 1)) i = _
      rw [vu_n (by omega), vu_n (by omega)]
    · show va_up (va_up (va_up M.2.1 3 (upd (M.2.1 3) c tag)) 4 (upd (M.2.1 4) c (nI p))) 5 (upd (M.2.1 5) c (nI (sfN th pa ky kd p j))) i = _
      rw [vu_n (by omega), vu_n (by omega), vu_n (by omega)]
theorem O_grow (hn : 3000 ≤ n) (p place tag : Int32) (C : Cu T O M) (H : HU P M) (K : KP X A B M) : ∃ r X' T' O' P' M', fX9_grow n X p place tag T O P = some (r, X', T', O', P') ∧ fX10_grow n M p place tag = some (r, M') ∧ AOK X T O A B M X' T' O' P' M' := by
  obtain ⟨th, pa, ky, c, kd, g, a, o⟩ := id C
  have I := TA_TI g a o
  unfold fX9_grow fX10_grow
  rcases isPlace_s (n := n) I (by omega) X p place with ⟨a1, a2⟩ | ⟨k, j, k24, rfl, tk, rfl, hj, a1, a2, y, a3, a4⟩
  · rw [a1]
    refine ⟨-1, X, T, O, P, M, rfl, ?_, AOK.same C H K⟩
    rcases a2 with a2 | ⟨a2, y, a3, a4⟩
    · rw [a2]
      rfl
    · rw [a2, a3, if_neg (by decide), Option.bind_some, a4]
      rfl
  rw [a1, a2, a3, Option.bind_some, if_neg (show ¬ (1 : Int32) = 0 by decide), if_neg (show ¬ (1 : Int32) = 0 by decide), Option.bind_some, a4, if_neg (show ¬ (1 : Int32) = 0 by decide)]
  rcases tag_cases tag with ⟨f1, f2⟩ | ⟨f1, f2, t, t6, rfl⟩
  · rw [f1, f2]
    exact ⟨-1, X, T, O, P, M, rfl, rfl, AOK.same C H K⟩
  have hc := g.2.2.2.1
  have hcT : T.2.2.2.2.1 = nI c := I.2.2.2.2.2.1.1
  have hcM : M.1 1 = nI c := hc.1
  rw [f1, f2, if_pos (show ¬ (1 : Int32) = 0 by decide), Option.bind_some, if_pos (show ¬ (1 : Int32) = 0 by decide)]
  unfold fX7_isFull
  rw [hcT, hcM]
  by_cases c24 : c = 24
  · subst c24
    exact ⟨-3, X, T, O, P, M, rfl, rfl, AOK.same C H K⟩
  have c24 : c < 24 := by omega
  have w := g.2.1
  rw [if_pos (show nI c < 24 from nI_lt (b := 24) c24 (by decide)), if_pos (show (0 : Int32) = 0 from rfl), if_pos (show ¬ nI c = 24 from fun q => by have := (nI_eq (a := c) (b := 24) (by omega) (by decide)).mp q; omega), X7_spotFor w I.1 I.2.2.2.2.2.2.1.1 I.2.2.2.2.2.2.1.2.2 (by omega) k24 hj, X10_keyFor w I.2.1 I.2.2.2.2.2.2.1.2.1 I.2.2.2.2.2.2.1.2.2 (by omega) k24 hj, Option.bind_some, Option.bind_some]
  have sl := sf_lt (kd := kd) w (p := k) (place := j)
  by_cases s0 : sfN th pa ky kd k j = 0
  · rw [s0]
    exact ⟨-2, X, T, O, P, M, rfl, rfl, AOK.same C H K⟩
  rw [if_pos (nI_ne0 (by omega) (by omega)), if_pos (nI_ne0 (by omega) (by omega))]
  obtain ⟨P', M1, q1, q2, q3, q4, q5⟩ := record_s hn H a.1 a.2.1 (-1)
  have em := mS_eq q3 q4
  have g1 : GS (mS M1) th pa ky c kd := by
    rw [em]
    exact g
  obtain ⟨T', t1, t2, t3⟩ := add_s g a tk hj s0 c24 (nI t)
  obtain ⟨M2, m1, m2, m3, m4⟩ := comes_s (n := n) (by omega) g1 tk hj s0 c24 (nI t)
  have m2 : mS M2 = ((mS M).1 ||| (1 <<< (nI c &&& 31)), nI (c + 1), (mS M).2.2.1, upd (mS M).2.2.2.1 c (nI t), upd (mS M).2.2.2.2.1 c (nI k), upd (mS M).2.2.2.2.2 c (nI (sfN th pa ky kd k j))) := by
    rw [m2, q3 0 (by omega), q3 2 (by omega), q4 3 (by omega), q4 4 (by omega), q4 5 (by omega)]
    rfl
  rw [← m2] at t2 t3
  obtain ⟨O', o1, o2⟩ := settle_s (n := n) (by omega) t2 t3 X O
  rw [q1, q2, Option.bind_some, Option.bind_some, t1, m1, Option.bind_some, Option.bind_some, o1, Option.bind_some]
  refine ⟨_, _, _, _, _, _, rfl, rfl, ⟨_, _, _, _, _, t2, t3, o2⟩, q5 _ (m3 7 (by omega)) (m4 6 (by omega)) ?_, K.fr rfl ((m3 9 (by omega)).trans (q3 9 (by omega))) ((m4 8 (by omega)).trans (q4 8 (by omega))), fun i hi => ⟨(m3 i (by omega)).trans (q3 i (by omega)), (m4 i (by omega)).trans (q4 i (by omega))⟩, Or.inr rfl⟩
  refine ⟨th, pa, ky, c, c + 1, kd, g, t2.2.2.2.1.1, by omega, by omega, ?_, fun v hv => ?_⟩
  · rw [m2]
  · rw [m2, if_neg (fun z => m1_ne (show v < 2147483648 by omega) z.symm)]
    refine ⟨fun _ => ⟨(pk_un (by omega)).symm, (pk_un (by omega)).symm⟩, (pk_un (by omega)).symm⟩
end ACTS3
