/-! pattern, step, count -/
def SP (S : tS) (M : tM) : Prop := ∃ s, M.1 15 = nI s ∧ PR S (M.2.1 17) (M.2.1 18) (M.2.1 19) s ∧ (1 ≤ s → S.2.2.2.2 = M.1 16 ∧ ∃ b, b < s ∧ M.1 16 = nI b)
section PAT3
variable {L : tL} {M : tM} {tx : Nat → Nat} {sz n s l i : Nat} {U : tU} {S E : tS} {X : tX} {T A B : tT} {O : tO} {P : tP}
theorem readPat_s (hn : 3000 ≤ n) (H : TX L M) (U : tU) (E : tS) : (∃ U' S' M' s', fX6_read n U L E = some (-1, U', S') ∧ fX10_readsPattern n M = some (-4, M') ∧ FRP M M' ∧ PR S' (M'.2.1 22) (M'.2.1 23) (M'.2.1 24) s' ∧ M'.1 20 = nI s' ∧ 1 ≤ s' ∧ S'.2.2.2.2 = M'.1 21 ∧ ∃ b, b < s' ∧ M'.1 21 = nI b) ∨ (∃ p U' S' M', p ≤ 200 ∧ fX6_read n U L E = some (nI p, U', S') ∧ fX10_readsPattern n M = some (nI p, M') ∧ FRP M M') := by
  obtain ⟨tx, sz, h1, h2⟩ := H
  have hs := h1.2.1
  have f0 : FRP M (va_up (va_up M.1 12 0) 20 0, va_up M.2.1 25 (upd (M.2.1 25) 0 (-4)), M.2.2) := ⟨fun j j12 j20 j21 => (vu_n j20).trans (vu_n j12), fun j hj => vu_n (by omega)⟩
  have ts : TS (U.1, 0, 0, -1, -1) (E.1, E.2.1, E.2.2.1, 0, 0) (va_up (va_up M.1 12 0) 20 0, va_up M.2.1 25 (upd (M.2.1 25) 0 (-4)), M.2.2) 0 0 0 (-4) := ⟨rfl, rfl, Or.inr ⟨rfl, rfl, pk_us (f := M.2.1 25) (k := 0) (x := -4), rfl, rfl⟩, fun j hj => absurd hj (by omega), rfl, rfl, ⟨rfl, by omega, fun q hq => absurd hq (by omega)⟩, by omega, by omega, fun j hj => absurd hj (by omega), fun q => absurd q (by omega)⟩
  obtain ⟨m, hm⟩ : ∃ m, n = m + 1 := ⟨n - 1, by omega⟩
  have st := tag_step (n := n) h1 (h2.frp f0) ts (by omega) m
  rw [← hm] at st
  unfold fX6_read fX10_readsPattern fX5_clear
  rw [Option.bind_some]
  rcases st with ⟨U', S', c1, c2⟩ | ⟨h0, U', S', M', c1, c2, c3, c4⟩
  · right
    have c2 : fX10_readsStep (va_up (va_up M.1 12 0) 20 0, va_up M.2.1 25 (upd (M.2.1 25) 0 (-4)), M.2.2) 0 (-4) = _ := c2
    rw [c2]
    exact ⟨0, U', S', _, by omega, c1, rfl, f0⟩
  · have c2 : fX10_readsStep (va_up (va_up M.1 12 0) 20 0, va_up M.2.1 25 (upd (M.2.1 25) 0 (-4)), M.2.2) 0 (-4) = _ := c2
    rw [c2, Option.bind_some, if_pos (show ¬ (1 : Int32) = 0 by decide)]
    have z := lpat (n := n) h1 n m 1 U' S' M' 1 0 ((h2.frp f0).frp c4) c3 (by omega) (by omega) (by omega)
    have f1 := f0.trans c4
    rcases z with ⟨U2, S2, M2, s', a1, a2, a3, a4⟩ | ⟨p, U2, S2, M2, a0, a1, a2, a3⟩
    · exact Or.inl ⟨U2, S2, M2, s', c1.trans a1, a2, f1.trans a3, a4⟩
    · exact Or.inr ⟨p, U2, S2, M2, a0, c1.trans a1, a2, f1.trans a3⟩
theorem lpat34 {s : Nat} (s8 : s ≤ 8) : ∀ m k M, k ≤ s → s - k < m → M.1 15 = nI s → ∃ M', lX10_pattern_34 n m (nI k) M = some (nI s, M') ∧ M'.1 = M.1 ∧ (∀ j, j < 17 → M'.2.1 j = M.2.1 j) ∧ (∀ q, k ≤ q → q < s → M'.2.1 17 q = M.2.1 22 q ∧ M'.2.1 18 q = M.2.1 23 q ∧ M'.2.1 19 q = M.2.1 24 q) ∧ (∀ q, q < k → M'.2.1 17 q = M.2.1 17 q ∧ M'.2.1 18 q = M.2.1 18 q ∧ M'.2.1 19 q = M.2.1 19 q)
  | 0, _, _, _, h, _ => absurd h (Nat.not_lt_zero _)
  | m + 1, k, M, hk, hm, h15 => by
    rw [lX10_pattern_34, h15]
    by_cases e : k = s
    · subst e
      rw [if_pos (nI_le (Nat.le_refl _) (by omega))]
      exact ⟨M, rfl, rfl, fun _ _ => rfl, fun q a b => absurd a (by omega), fun _ _ => ⟨rfl, rfl, rfl⟩⟩
    rw [if_neg (nI_ge (show k < s by omega) (by omega)), if_neg (nI_in (show k < 8 by omega) (by decide)), nI_clamp (show k < 2 ^ 31 by omega), nI_1]
    obtain ⟨M', h1, h2, h3, h4, h5⟩ := lpat34 s8 m (k + 1) (M.1, va_up (va_up (va_up M.2.1 17 (upd (M.2.1 17) k ((M.2.1 22) k))) 18 (upd (M.2.1 18) k ((M.2.1 23) k))) 19 (upd (M.2.1 19) k ((M.2.1 24) k)), M.2.2) (by omega) (by omega) h15
    refine ⟨M', h1, h2, fun j hj => (h3 j hj).trans ?_, fun q q1 q2 => ?_, fun q hq => ?_⟩
    · show va_up (va_up (va_up M.2.1 17 _) 18 _) 19 _ j = _
      rw [vu_n (by omega), vu_n (by omega), vu_n (by omega)]
    · by_cases eq : q = k
      · subst eq
        obtain ⟨g1, g2, g3⟩ := h5 q (by omega)
        rw [g1, g2, g3]
        exact ⟨pk_us, pk_us, pk_us⟩
      · exact h4 q (by omega) q2
    · obtain ⟨g1, g2, g3⟩ := h5 q (by omega)
      rw [g1, g2, g3]
      exact ⟨pk_un (by omega), pk_un (by omega), pk_un (by omega)⟩
theorem O_pattern (hn : 3000 ≤ n) (H : TX L M) (U : tU) (S E : tS) : ∃ r X' U' S' E' M', fX9_pattern n X L U S E = some (r, X', U', S', E') ∧ fX10_pattern n M = some (r, M') ∧ (∀ j, j < 12 → M'.1 j = M.1 j ∧ M'.2.1 j = M.2.1 j) ∧ ((X' = X ∧ S' = S ∧ (∀ j, j < 20 → j ≠ 12 → M'.1 j = M.1 j ∧ M'.2.1 j = M.2.1 j)) ∨ (X' = (X.1, 0) ∧ SP S' M')) := by
  unfold fX9_pattern fX10_pattern
  rcases readPat_s hn H U E with ⟨U', S', M', s, a1, a2, a3, a4, a5, a6, a7, a8⟩ | ⟨p, U', S', M', a0, a1, a2, a3⟩
  · rw [a1, a2, Option.bind_some, Option.bind_some, if_pos (show (-1 : Int32) < 0 by decide), if_pos (show (-4 : Int32) = -4 from rfl)]
    have s8 := a4.2.1
    obtain ⟨M2, b1, b2, b3, b4, b5⟩ := lpat34 (n := n) s8 n 0 (va_up (va_up M'.1 15 (M'.1 20)) 16 (M'.1 21), M'.2.1, M'.2.2) (by omega) (by omega) a5
    have b1 : lX10_pattern_34 n n 0 (va_up (va_up M'.1 15 (M'.1 20)) 16 (M'.1 21), M'.2.1, M'.2.2) = _ := b1
    refine ⟨nI s, (X.1, 0), U', (va_cpy S'.1 S.1 0 0 8, va_cpy S'.2.1 S.2.1 0 0 8, va_cpy S'.2.2.1 S.2.2.1 0 0 8, S'.2.2.2.1, S'.2.2.2.2), S', M2, ?_, b1, fun j hj => ⟨?_, ?_⟩, Or.inr ⟨rfl, s, ?_, ⟨a4.1, s8, fun q hq => ?_⟩, fun _ => ⟨?_, ?_⟩⟩⟩
    · unfold fX5_copyFrom fX5_size
      rw [Option.bind_some]
      exact congrArg (fun z => some (z, (X.1, (0 : Int32)), U', (va_cpy S'.1 S.1 0 0 8, va_cpy S'.2.1 S.2.1 0 0 8, va_cpy S'.2.2.1 S.2.2.1 0 0 8, S'.2.2.2.1, S'.2.2.2.2), S')) a4.1
    · rw [b2]
      show va_up (va_up M'.1 15 (M'.1 20)) 16 (M'.1 21) j = _
      rw [vu_n (by omega), vu_n (by omega), a3.1 j (by omega) (by omega) (by omega)]
    · rw [b3 j (by omega)]
      exact a3.2 j (by omega)
    · rw [b2]
      exact a5
    · obtain ⟨g1, g2, g3⟩ := b4 q (by omega) hq
      rw [g1, g2, g3]
      show (∃ t, t ≤ 6 ∧ va_cpy S'.1 S.1 0 0 8 q = nI t ∧ M'.2.1 22 q = nI t) ∧ (1 ≤ q → (∃ h, h < q ∧ va_cpy S'.2.1 S.2.1 0 0 8 q = nI h ∧ M'.2.1 23 q = nI h) ∧ ∃ a, a < 4 ∧ va_cpy S'.2.2.1 S.2.2.1 0 0 8 q = nI a ∧ M'.2.1 24 q = nI a) ∧ (q = 0 → va_cpy S'.2.1 S.2.1 0 0 8 q = -1 ∧ M'.2.1 23 q = -4 ∧ va_cpy S'.2.2.1 S.2.2.1 0 0 8 q = -1 ∧ M'.2.1 24 q = -4)
      rw [cpy_all (by omega), cpy_all (by omega), cpy_all (by omega)]
      exact a4.2.2 q hq
    · rw [b2]
      exact a7
    · rw [b2]
      exact a8
  · rw [a1, a2, Option.bind_some, Option.bind_some, if_neg (nI_pos (show p < 2 ^ 31 by omega)), if_neg (show ¬ nI p = (-4 : Int32) from m4_ne (by omega))]
    exact ⟨_, _, _, _, _, _, rfl, rfl, fun j hj => ⟨a3.1 j (by omega) (by omega) (by omega), a3.2 j (by omega)⟩, Or.inl ⟨rfl, rfl, fun j hj h12 => ⟨a3.1 j h12 (by omega) (by omega), a3.2 j (by omega)⟩⟩⟩
/-- is it a STEP -/
theorem step_cases (H : SP S M) (q : Int32) : (fX5_has S q = 0 ∧ fX10_isStep M q = some 0) ∨ ∃ s k, M.1 15 = nI s ∧ PR S (M.2.1 17) (M.2.1 18) (M.2.1 19) s ∧ k < s ∧ q = nI k ∧ fX5_has S q = 1 ∧ fX10_isStep M q = some 1 := by
  obtain ⟨s, h1, h2, h3⟩ := H
  have s8 := h2.2.1
  have hh : ∀ b : Int32, fX10_in q 0 (M.1 15 - 1) = b → (b = 0 ∨ b = 1) → fX10_isStep M q = some b := fun b hb hb2 => by
    unfold fX10_isStep
    rw [hb]
    exact nb01 hb2
  by_cases c0 : q < 0
  · left
    refine ⟨?_, hh 0 ?_ (Or.inl rfl)⟩
    · unfold fX5_has
      rw [if_pos c0]
    · unfold fX10_in
      rw [if_pos c0]
  obtain ⟨k, k31, rfl⟩ := nI_of c0
  by_cases ck : k < s
  · right
    refine ⟨s, k, h1, h2, ck, rfl, ?_, hh 1 ?_ (Or.inr rfl)⟩
    · unfold fX5_has
      rw [if_neg c0, h2.1, if_neg (nI_ge ck (by omega))]
    · unfold fX10_in
      rw [if_neg c0, h1, show nI s - 1 = nI (s - 1) from pk_sub (b := 1) (by omega), if_neg (nI_nlt (by omega) (by omega))]
  · left
    refine ⟨?_, hh 0 ?_ (Or.inl rfl)⟩
    · unfold fX5_has
      rw [if_neg c0, h2.1, if_pos (nI_le (by omega) (by omega))]
    · unfold fX10_in
      rw [if_neg c0, h1]
      by_cases s0 : s = 0
      · subst s0
        rw [if_pos]
        rw [Int32.lt_iff_toInt_lt, nI_toInt k31, show (nI 0 - 1).toInt = -1 by decide]
        omega
      · rw [show nI s - 1 = nI (s - 1) from pk_sub (b := 1) (by omega), if_pos (nI_lt (by omega) (by omega))]
theorem O_step (H : SP S M) (q what : Int32) : ∃ r, fX9_step X q what S = some r ∧ fX10_step M q what = some r := by
  unfold fX9_step fX10_step
  rcases step_cases H q with ⟨e1, e2⟩ | ⟨s, k, h1, h2, ck, rfl, e1, e2⟩
  · rw [e1, e2]
    exact ⟨_, rfl, rfl⟩
  have s8 := h2.2.1
  have k8 : ¬ (nI k < 0 ∨ 8 ≤ (nI k).toNatClampNeg) := nI_in (by omega) (by decide)
  obtain ⟨⟨t, t6, p1, p2⟩, p3, p4⟩ := h2.2.2 k ck
  rw [e1, e2, Option.bind_some, if_pos (show ¬ (1 : Int32) = 0 by decide), if_neg (show ¬ (1 : Int32) = 0 by decide), if_neg k8, if_neg k8, if_neg k8]
  unfold fX5_tagOf fX5_hangOf fX5_axisOf
  rw [e1, if_neg (show ¬ (1 : Int32) = 0 by decide), if_neg (show ¬ (1 : Int32) = 0 by decide), if_neg (show ¬ (1 : Int32) = 0 by decide), if_neg k8, if_neg k8, if_neg k8, nI_clamp (show k < 2 ^ 31 by omega)]
  by_cases c0 : what = 0
  · subst c0
    rw [p1, p2]
    exact ⟨_, rfl, rfl⟩
  by_cases c1 : what = 1
  · subst c1
    by_cases k0 : k = 0
    · subst k0
      rw [(p4 rfl).2.1]
      exact ⟨_, rfl, rfl⟩
    · obtain ⟨⟨h, z1, z2, z3⟩, _⟩ := p3 (by omega)
      rw [z2, z3, if_pos (nI_ne0 (by omega) (by omega))]
      exact ⟨_, rfl, rfl⟩
  by_cases c2 : what = 2
  · subst c2
    by_cases k0 : k = 0
    · subst k0
      rw [(p4 rfl).2.2.2]
      exact ⟨_, rfl, rfl⟩
    · obtain ⟨_, a, z1, z2, z3⟩ := p3 (by omega)
      have kn : ¬ nI k = 0 := nI_ne0 (by omega) (by omega)
      rw [z2, z3, if_pos kn, if_pos kn]
      exact ⟨_, rfl, rfl⟩
  have hin : fX10_in what 0 2 = 0 := by
    unfold fX10_in
    by_cases z : what < 0
    · rw [if_pos z]
    · rw [if_neg z, if_pos]
      have hz := p_sw_0_2 c0 c1 c2
      rw [Int32.lt_iff_toInt_lt] at z ⊢
      have e0 : (0 : Int32).toInt = 0 := rfl
      have e5 : (2 : Int32).toInt = 2 := rfl
      omega
  rw [if_neg c0, if_neg c1, if_neg c2, hin]
  exact ⟨_, rfl, rfl⟩
theorem O_count (hn : 3000 ≤ n) (C : Cu T O M) (H : HU P M) (K : KP X A B M) (HT : TX L M) (HS : SP S M) (what : Int32) : ∃ r, fX9_count n X what L T O P S = some r ∧ fX10_count n M what = some r := by
  obtain ⟨th, pa, ky, c, kd, g, a, o⟩ := id C
  have I := TA_TI g a o
  unfold fX9_count fX10_count
  by_cases c0 : what = 0
  · subst c0
    rw [many_s I (by omega)]
    exact ⟨_, rfl, rfl⟩
  by_cases c1 : what = 1
  · subst c1
    exact ⟨T.2.2.2.2.1, rfl, congrArg some a.2.1.symm⟩
  by_cases c2 : what = 2
  · subst c2
    obtain ⟨s, h1, h2, h3⟩ := HS
    exact ⟨S.2.2.2.1, rfl, congrArg some (h1.trans h2.1.symm)⟩
  by_cases c3 : what = 3
  · subst c3
    obtain ⟨r, h1, h2⟩ := mostFigures_s (n := n) I (by omega) X
    rw [h1, h2]
    exact ⟨_, rfl, rfl⟩
  by_cases c4 : what = 4
  · subst c4
    obtain ⟨r, h1, h2⟩ := mostLevels_s (n := n) I (by omega)
    rw [h1, h2]
    exact ⟨_, rfl, rfl⟩
  by_cases c5 : what = 5
  · subst c5
    exact ⟨T.2.2.2.2.2, rfl, congrArg some a.2.2.1.symm⟩
  by_cases c6 : what = 6
  · subst c6
    obtain ⟨u, sn, hu, p1, m1, _⟩ := H
    exact ⟨P.2.2.2.2, rfl, congrArg some (m1.trans p1.symm)⟩
  by_cases c7 : what = 7
  · subst c7
    obtain ⟨k, k1, k2, k3, _⟩ := K
    exact ⟨X.1, rfl, congrArg some (k3.trans k2.symm)⟩
  by_cases c8 : what = 8
  · subst c8
    obtain ⟨tx, sz, h1, h2⟩ := HT
    exact ⟨L.2, rfl, congrArg some (h2.1.trans h1.1.symm)⟩
  have hin : fX10_in what 0 8 = 0 := by
    unfold fX10_in
    by_cases z : what < 0
    · rw [if_pos z]
    · rw [if_neg z, if_pos]
      have hz := p_sw_0_8 c0 c1 c2 c3 c4 c5 c6 c7 c8
      rw [Int32.lt_iff_toInt_lt] at z ⊢
      have e0 : (0 : Int32).toInt = 0 := rfl
      have e5 : (8 : Int32).toInt = 8 := rfl
      omega
  rw [if_neg c0, if_neg c1, if_neg c2, if_neg c3, if_neg c4, if_neg c5, if_neg c6, if_neg c7, if_neg c8, hin]
  exact ⟨_, rfl, rfl⟩
end PAT3
