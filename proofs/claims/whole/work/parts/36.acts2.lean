/-! undo, back, tag, grow -/
def AOK (X : tX) (T : tT) (O : tO) (A B : tT) (M : tM) (X' : tX) (T' : tT) (O' : tO) (P' : tP) (M' : tM) : Prop := Cu T' O' M' ∧ HU P' M' ∧ KP X' A B M' ∧ (∀ j, 10 ≤ j → M'.1 j = M.1 j ∧ M'.2.1 j = M.2.1 j) ∧ ((X' = X ∧ T' = T ∧ O' = O ∧ M' = M) ∨ X'.2 = 0)
section ACTS2
variable {n : Nat} {X : tX} {T A B : tT} {O : tO} {M : tM} {P : tP}
theorem AOK.same (C : Cu T O M) (H : HU P M) (K : KP X A B M) : AOK X T O A B M X T O P M := ⟨C, H, K, fun _ _ => ⟨rfl, rfl⟩, Or.inl ⟨rfl, rfl, rfl, rfl⟩⟩
theorem num_cases (v : Int32) : (fX7_isNumber v = 0 ∧ ∀ k, k < 24 → ¬ v = nI k) ∨ ∃ k, k < 24 ∧ v = nI k ∧ fX7_isNumber v = 1 := by
  rcases pk_ix v (show 24 < 2 ^ 31 by decide) with h | h | ⟨k, hk, rfl⟩
  · left
    unfold fX7_isNumber
    rw [if_pos h]
    refine ⟨rfl, fun k hk e => ?_⟩
    subst e
    exact nI_pos (by omega) h
  · left
    have h0 : ¬ v < 0 := fun q => by
      rw [Int32.lt_iff_toInt_lt] at q
      rw [Int32.le_iff_toInt_le, nI_toInt (by decide)] at h
      have : (0 : Int32).toInt = 0 := rfl
      omega
    unfold fX7_isNumber
    rw [if_neg h0, if_pos (show (24 : Int32) ≤ v from h)]
    refine ⟨rfl, fun k hk e => ?_⟩
    subst e
    exact nI_ge hk (by decide) h
  · exact Or.inr ⟨k, hk, rfl, X7_num hk⟩
theorem tag_cases (t : Int32) : (fX9_isTag t = 0 ∧ fX10_isTag t = some 0) ∨ (fX9_isTag t = 1 ∧ fX10_isTag t = some 1 ∧ ∃ j, j < 6 ∧ t = nI j) := by
  have e10 : ∀ b : Int32, fX10_in t 0 5 = b → (b = 0 ∨ b = 1) → fX10_isTag t = some b := fun b hb hh => by
    unfold fX10_isTag
    rw [hb]
    rcases hh with rfl | rfl <;> rfl
  rcases pk_ix t (show 6 < 2 ^ 31 by decide) with h | h | ⟨k, hk, rfl⟩
  · left
    refine ⟨?_, e10 0 ?_ (Or.inl rfl)⟩
    · unfold fX9_isTag
      rw [if_pos h]
    · unfold fX10_in
      rw [if_pos h]
  · left
    have h0 : ¬ t < 0 := fun q => by
      rw [Int32.lt_iff_toInt_lt] at q
      rw [Int32.le_iff_toInt_le, nI_toInt (by decide)] at h
      have : (0 : Int32).toInt = 0 := rfl
      omega
    have h5 : (5 : Int32) < t := by
      rw [Int32.lt_iff_toInt_lt]
      rw [Int32.le_iff_toInt_le, nI_toInt (by decide)] at h
      have : (5 : Int32).toInt = 5 := rfl
      omega
    refine ⟨?_, e10 0 ?_ (Or.inl rfl)⟩
    · unfold fX9_isTag
      rw [if_neg h0, if_pos (show (6 : Int32) ≤ t from h)]
    · unfold fX10_in
      rw [if_neg h0, if_pos h5]
  · right
    refine ⟨?_, e10 1 ?_ (Or.inr rfl), k, hk, rfl⟩
    · unfold fX9_isTag
      rw [if_neg (nI_pos (by omega)), if_neg (show ¬ (6 : Int32) ≤ nI k from nI_ge (b := 6) hk (by decide))]
    · unfold fX10_in
      rw [if_neg (nI_pos (by omega)), if_neg (show ¬ (5 : Int32) < nI k from nI_nlt (a := 5) (by omega) (by decide))]
/-- one step back -/
theorem back_s {s t : tN} {tg x : Int32} {c' : Nat} (hS : Sc s t tg x) (hc' : t.2.1 = nI c') (h24 : c' ≤ 24) (a : TA T t c') : ∃ T', fX7_setTag (T.1, T.2.1, T.2.2.1, s.1, s.2.1, T.2.2.2.2.2) tg x = some T' ∧ ∃ th pa ky c kd, GS s th pa ky c kd ∧ TA T' s c := by
  obtain ⟨th, pa, ky, c, c2, kd, g, h1, h2, h3, h4, h5⟩ := hS
  have e : c2 = c' := (nI_eq (by omega) (by omega)).mp (h1.symm.trans hc')
  subst e
  obtain ⟨a1, a2, a3, a4, a5, a6⟩ := a
  unfold fX7_setTag
  rcases num_cases tg with ⟨n1, n2⟩ | ⟨k, hk, rfl, n1⟩
  · rw [n1, if_pos rfl]
    refine ⟨_, rfl, th, pa, ky, c, kd, g, rfl, rfl, a3.trans h4.symm, a4, a5, fun v hv => ?_⟩
    have q := h5 v hv
    rw [if_neg (n2 v (by omega))] at q
    have r := a6 v (by omega)
    exact ⟨r.1.trans q.2.symm, fun v1 => ⟨(r.2 v1).1.trans (q.1 v1).1.symm, (r.2 v1).2.trans (q.1 v1).2.symm⟩⟩
  · rw [n1, if_neg (by decide), if_neg (vi_nI hk), nI_c hk]
    refine ⟨_, rfl, th, pa, ky, c, kd, g, rfl, rfl, a3.trans h4.symm, a4, a5, fun v hv => ?_⟩
    have q := h5 v hv
    have r := a6 v (by omega)
    refine ⟨?_, fun v1 => ⟨(r.2 v1).1.trans (q.1 v1).1.symm, (r.2 v1).2.trans (q.1 v1).2.symm⟩⟩
    show upd T.1 k x v = s.2.2.2.1 v
    by_cases e : v = k
    · subst e
      rw [pk_us, q.2, if_pos rfl]
    · rw [pk_un e, q.2, if_neg (fun z => e ((nI_eq (by omega) (by omega)).mp z).symm), r.1]
theorem O_undo (hn : 3000 ≤ n) (C : Cu T O M) (H : HU P M) (K : KP X A B M) : ∃ r X' T' O' P' M', fX9_undo n X T O P = some (r, X', T', O', P') ∧ fX10_undo n M = some (r, M') ∧ AOK X T O A B M X' T' O' P' M' := by
  obtain ⟨u, sn, hu, p1, m1, h1, h2, h3⟩ := id H
  unfold fX9_undo fX10_undo fX4_size
  rw [p1, m1]
  cases u with
  | zero => exact ⟨-2, X, T, O, P, M, rfl, rfl, AOK.same C H K⟩
  | succ u =>
    obtain ⟨th, pa, ky, c, kd, g, a, o⟩ := C
    have g2 := g.congr h2
    have a2 := a.congr g.2.2.2.1.2.1 h2
    obtain ⟨s1, s2, s3⟩ := h3 u (by omega)
    obtain ⟨T', t1, th', pa', ky', c', kd', g', a'⟩ := back_s s3 g2.2.2.2.1.1 g.2.2.2.1.2.1 a2
    have hr : fX4_restore P T = some ((P.1, P.2.1, P.2.2.1, P.2.2.2.1, nI u), T') := by
      unfold fX4_restore fX7_rewind
      rw [p1, if_neg (show ¬ nI (u + 1) ≤ 0 from nI_nle (by omega) (by omega)), nI_pred, if_neg (nI_in (show u < 8 by omega) (by decide)), Option.bind_some, nI_clamp (show u < 2 ^ 31 by omega), s1, s2]
      dsimp only
      rw [t1, if_neg (fun q => q.elim (nI_pos (by omega)) (by omega))]
      rfl
    obtain ⟨M', q1, q2, q3, q4⟩ := X10_takes_77 (n := n) (b := 75 * u) (by omega) (by omega) (va_up M.1 7 (nI u), M.2.1, M.2.2)
    have q4 : eS (mS M') (sB (M.2.1 6) (75 * u)) := q4
    have e1 := q4.trans (h1 u (by omega))
    obtain ⟨O', o1, o2⟩ := settle_s (n := n) (by omega) g' a' X O
    rw [if_pos (nI_ne0 (by omega) (by omega)), if_pos (nI_ne0 (by omega) (by omega)), hr, Option.bind_some, o1, nI_pred, show (75 : Int32) * nI u = nI (75 * u) from pk_mul 75 u, q1]
    have q7 : M'.1 7 = nI u := q2 7 (by omega)
    have q6 : M'.2.1 6 = M.2.1 6 := q3 6 (by omega) (by omega) (by omega)
    refine ⟨nI u, _, _, _, _, M', rfl, ?_, ⟨th', pa', ky', c', kd', g'.congr e1.symm, a'.congr g'.2.2.2.1.2.1 e1.symm, o2⟩, ⟨u, sn, by omega, rfl, q7, fun k hk => ?_, e1, fun k hk => h3 k (by omega)⟩, K.fr rfl ?_ (q3 8 (by omega) (by omega) (by omega)), fun j hj => ⟨?_, q3 j (by omega) (by omega) (by omega)⟩, Or.inr rfl⟩
    · rw [Option.bind_some, q7]
    · rw [q6]
      exact h1 k (by omega)
    · exact q2 9 (by omega)
    · rw [q2 j (by omega)]
      exact vu_n (by omega)
theorem O_back (hn : 3000 ≤ n) (C : Cu T O M) (H : HU P M) (K : KP X A B M) : ∃ r X' T' O' P' M', fX9_back n X T O P A B = some (r, X', T', O', P') ∧ fX10_back n M = some (r, M') ∧ AOK X T O A B M X' T' O' P' M' := by
  obtain ⟨k, k1, k2, k3, k4, k5⟩ := id K
  have go : ∀ (k b : Nat) (U : tT), k < 2 → b = 75 * k → M.1 9 = nI (k + 1) → X.1 = nI (k + 1) → Kt U (sB (M.2.1 8) b) → ∃ T' X' O' M', fX7_copyFrom T U = some T' ∧ fX9_settle n (nI k, X.2) T' O = some (X', O') ∧ X'.1 = nI k ∧ fX10_back n M = some (nI k, M') ∧ AOK X T O A B M X' T' O' (P.1, P.2.1, P.2.2.1, P.2.2.2.1, 0) M' := by
    intro k b U hk hb hm hx hU
    obtain ⟨th, pa, ky, c, kd, g, a⟩ := hU
    obtain ⟨T', t1, t2⟩ := a.copy (A := T) g.2.2.2.1.2.1
    obtain ⟨O', o1, o2⟩ := settle_s (n := n) (by omega) g t2 (nI k, X.2) O
    obtain ⟨M', q1, q2, q3, q4⟩ := X10_takes_78 (n := n) (b := b) (by omega) (by omega) (va_up M.1 9 (nI k), M.2.1, M.2.2)
    have q4 : eS (mS M') (sB (M.2.1 8) b) := q4
    have q9 : M'.1 9 = nI k := q2 9 (by omega)
    have q8 : M'.2.1 8 = M.2.1 8 := q3 8 (by omega) (by omega) (by omega)
    refine ⟨T', _, O', (va_up M'.1 7 0, M'.2.1, M'.2.2), t1, o1, rfl, ?_, ⟨th, pa, ky, c, kd, g.congr q4.symm, t2.congr g.2.2.2.1.2.1 q4.symm, o2⟩, ⟨0, fun _ => mS M', by omega, rfl, rfl, fun j hj => absurd hj (by omega), eS.refl _, fun j hj => absurd hj (by omega)⟩, ⟨k, by omega, rfl, q9, fun h => ?_, fun h => absurd h (by omega)⟩, fun j hj => ⟨?_, q3 j (by omega) (by omega) (by omega)⟩, Or.inr rfl⟩
    · unfold fX10_back
      rw [hm, if_pos (nI_ne0 (by omega) (by omega)), nI_pred, show (75 : Int32) * nI k = nI b by rw [hb]; exact pk_mul 75 k, q1, Option.bind_some, q9]
    · obtain ⟨k', l1, l2, l3, l4, l5⟩ := id K
      have e : k' = k + 1 := (nI_eq (by omega) (by omega)).mp (l2.symm.trans hx)
      show Kt A (sB (M'.2.1 8) 0)
      rw [q8]
      exact l4 (by omega)
    · show va_up M'.1 7 0 j = _
      rw [vu_n (by omega), q2 j (by omega)]
      exact vu_n (by omega)
  rcases (show k = 0 ∨ k = 1 ∨ k = 2 by omega) with e | e | e
  · subst e
    refine ⟨-2, X, T, O, P, M, ?_, ?_, AOK.same C H K⟩
    · unfold fX9_back
      rw [k2, if_neg (by decide)]
    · unfold fX10_back
      rw [k3]
      rfl
  · subst e
    obtain ⟨T', X', O', M', c1, c2, c3, c4, c5⟩ := go 0 0 A (by omega) rfl k3 k2 (k4 (by omega))
    refine ⟨nI 0, X', T', O', _, M', ?_, c4, c5⟩
    unfold fX9_back fX4_clear
    rw [k2, if_pos (show 0 < nI 1 by decide), if_pos (show nI 1 - 1 = 0 by decide), c1, Option.bind_some, Option.bind_some, show nI 1 - 1 = nI 0 by decide, c2, Option.bind_some, c3]
  · subst e
    obtain ⟨T', X', O', M', c1, c2, c3, c4, c5⟩ := go 1 75 B (by omega) rfl k3 k2 (k5 (by omega))
    refine ⟨nI 1, X', T', O', _, M', ?_, c4, c5⟩
    unfold fX9_back fX4_clear
    rw [k2, if_pos (show 0 < nI 2 by decide), if_neg (show ¬ nI 2 - 1 = 0 by decide), c1, Option.bind_some, Option.bind_some, show nI 2 - 1 = nI 1 by decide, c2, Option.bind_some, c3]
end ACTS2
