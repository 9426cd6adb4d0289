/-! what acts keep: the tree that stands, those that stood, those that are kept -/
def GS (s : tN) (th : Nat → Bool) (pa ky : Nat → Nat) (c kd : Nat) : Prop := RR s.1 s.2.2.2.2.1 s.2.2.2.2.2 (-4) th pa ky ∧ wfT th pa ky ∧ th 0 = true ∧ (s.2.1 = nI c ∧ c ≤ 24 ∧ ∀ v, th v = true → v < c) ∧ s.2.2.1 = nI kd ∧ kd < 4
def TA (T : tT) (s : tN) (c : Nat) : Prop := T.2.2.2.1 = s.1 ∧ T.2.2.2.2.1 = s.2.1 ∧ T.2.2.2.2.2 = s.2.2.1 ∧ T.2.1 0 = -1 ∧ T.2.2.1 0 = 0 ∧ ∀ v, v < c → T.1 v = s.2.2.2.1 v ∧ (1 ≤ v → T.2.1 v = s.2.2.2.2.1 v ∧ T.2.2.1 v = s.2.2.2.2.2 v)
def Cu (T : tT) (O : tO) (M : tM) : Prop := ∃ th pa ky c kd, GS (mS M) th pa ky c kd ∧ TA T (mS M) c ∧ OR O th pa ky
def Kt (A : tT) (s : tN) : Prop := ∃ th pa ky c kd, GS s th pa ky c kd ∧ TA A s c
def KP (X : tX) (A B : tT) (M : tM) : Prop := ∃ k, k ≤ 2 ∧ X.1 = nI k ∧ M.1 9 = nI k ∧ (1 ≤ k → Kt A (sB (M.2.1 8) 0)) ∧ (2 ≤ k → Kt B (sB (M.2.1 8) 75))
def Sc (s t : tN) (tg x : Int32) : Prop := ∃ th pa ky c c' kd, GS s th pa ky c kd ∧ t.2.1 = nI c' ∧ c' ≤ 24 ∧ c ≤ c' ∧ s.2.2.1 = t.2.2.1 ∧ ∀ v, v < c → (1 ≤ v → s.2.2.2.2.1 v = t.2.2.2.2.1 v ∧ s.2.2.2.2.2 v = t.2.2.2.2.2 v) ∧ s.2.2.2.1 v = if tg = nI v then x else t.2.2.2.1 v
def Spp (P : tP) (k : Nat) (s t : tN) : Prop := P.1 k = s.1 ∧ P.2.1 k = s.2.1 ∧ Sc s t (P.2.2.1 k) (P.2.2.2.1 k)
def HU (P : tP) (M : tM) : Prop := ∃ u, ∃ sn : Nat → tN, u ≤ 8 ∧ P.2.2.2.2 = nI u ∧ M.1 7 = nI u ∧ (∀ k, k < u → eS (sB (M.2.1 6) (75 * k)) (sn k)) ∧ eS (mS M) (sn u) ∧ ∀ k, k < u → Spp P k (sn k) (sn (k + 1))
def snA (sn : Nat → tN) (d u : Nat) (s : tN) : Nat → tN := fun k => if k ≤ u then sn (k + d) else s
theorem snA_le {sn : Nat → tN} {d u k : Nat} {s : tN} (h : k ≤ u) : snA sn d u s k = sn (k + d) := if_pos h
theorem snA_gt {sn : Nat → tN} {d u k : Nat} {s : tN} (h : u < k) : snA sn d u s k = s := if_neg (Nat.not_le.mpr h)
section ACTS
variable {th : Nat → Bool} {pa ky : Nat → Nat} {c kd n : Nat} {s t : tN} {T : tT} {O : tO} {M : tM} {P : tP}
theorem GS.congr (h : GS s th pa ky c kd) (e : eS s t) : GS t th pa ky c kd := by
  obtain ⟨⟨r1, r2, r3, r4⟩, w, h0, hc, hk⟩ := h
  obtain ⟨e1, e2, e3, e4⟩ := e
  refine ⟨⟨?_, r2, fun v h1 hv => ?_, fun hv => ?_⟩, w, h0, ?_, ?_⟩
  · rw [← e1]
    exact r1
  · have := e4 v (w.lt hv)
    rw [← this.2.1, ← this.2.2]
    exact r3 v h1 hv
  · have := e4 0 (by omega)
    rw [← this.2.1, ← this.2.2]
    exact r4 hv
  · rw [← e2]
    exact hc
  · rw [← e3]
    exact hk
theorem TA.congr (h : TA T s c) (hc : c ≤ 24) (e : eS s t) : TA T t c := by
  obtain ⟨a1, a2, a3, a4, a5, a6⟩ := h
  obtain ⟨e1, e2, e3, e4⟩ := e
  refine ⟨a1.trans e1, a2.trans e2, a3.trans e3, a4, a5, fun v hv => ?_⟩
  obtain ⟨f1, f2, f3⟩ := e4 v (by omega)
  rw [← f1, ← f2, ← f3]
  exact a6 v hv
theorem Sc.congr {s' t' : tN} {tg x : Int32} (h : Sc s t tg x) (e : eS s s') (f : eS t t') : Sc s' t' tg x := by
  obtain ⟨th, pa, ky, c, c', kd, g, h1, h2, h3, h4, h5⟩ := h
  refine ⟨th, pa, ky, c, c', kd, g.congr e, f.2.1.symm.trans h1, h2, h3, e.2.2.1.symm.trans (h4.trans f.2.2.1), fun v hv => ?_⟩
  obtain ⟨e1, e2, e3⟩ := e.2.2.2 v (by omega)
  obtain ⟨f1, f2, f3⟩ := f.2.2.2 v (by omega)
  rw [← e1, ← e2, ← e3, ← f1, ← f2, ← f3]
  exact h5 v hv
theorem TA_RT (g : GS s th pa ky c kd) (a : TA T s c) : RT T th pa ky := by
  obtain ⟨⟨r1, r2, r3, r4⟩, w, h0, hc, hk⟩ := g
  obtain ⟨a1, a2, a3, a4, a5, a6⟩ := a
  refine ⟨?_, r2, fun v h1 hv => ?_, fun _ => ⟨a4, a5⟩⟩
  · rw [a1]
    exact r1
  · have := (a6 v (hc.2.2 v hv)).2 h1
    rw [this.1, this.2]
    exact r3 v h1 hv
theorem TA_TI (g : GS (mS M) th pa ky c kd) (a : TA T (mS M) c) (o : OR O th pa ky) : TI T O M th pa ky c kd :=
  ⟨TA_RT g a, g.1, g.2.1, g.2.2.1, fun v hv => (a.2.2.2.2.2 v (g.2.2.2.1.2.2 v hv)).1, ⟨a.2.1.trans g.2.2.2.1.1, g.2.2.2.1⟩, ⟨a.2.2.1.trans g.2.2.2.2.1, g.2.2.2.2⟩, o⟩
theorem settle_s (hn : 100 ≤ n) (g : GS s th pa ky c kd) (a : TA T s c) (X : tX) (O : tO) : ∃ O', fX9_settle n X T O = some ((X.1, 0), O') ∧ OR O' th pa ky := by
  obtain ⟨O', h1, h2⟩ := X3_read g.2.1 g.2.2.1 (TA_RT g a) hn O
  unfold fX9_settle
  rw [h1]
  exact ⟨O', rfl, h2⟩
/-- recorded on both sides; what comes then must be a step -/
theorem record_s (hn : 3000 ≤ n) (H : HU P M) (a1 : T.2.2.2.1 = M.1 0) (a2 : T.2.2.2.2.1 = M.1 1) (tg : Int32) : ∃ P' M1, fX4_record P T tg = some P' ∧ fX10_notes n M = some M1 ∧ (∀ j, j ≠ 7 → M1.1 j = M.1 j) ∧ (∀ j, j ≠ 6 → M1.2.1 j = M.2.1 j) ∧ ∀ M2 : tM, M2.1 7 = M1.1 7 → M2.2.1 6 = M1.2.1 6 → Sc (mS M) (mS M2) tg (fX7_tagOf T tg) → HU P' M2 := by
  obtain ⟨u, sn, hu, p1, m1, h1, h2, h3⟩ := H
  obtain ⟨M1, u', d, n1, n2, n3, n4, n5, n6, n7, n8, n9⟩ := X10_notes hn hu m1
  have key : ∀ P' : tP, fX4_record P T tg = some P' → P'.2.2.2.2 = nI (u' + 1) → (∀ k, k < u' → P'.1 k = P.1 (k + d) ∧ P'.2.1 k = P.2.1 (k + d) ∧ P'.2.2.1 k = P.2.2.1 (k + d) ∧ P'.2.2.2.1 k = P.2.2.2.1 (k + d)) → (P'.1 u' = T.2.2.2.1 ∧ P'.2.1 u' = T.2.2.2.2.1 ∧ P'.2.2.1 u' = tg ∧ P'.2.2.2.1 u' = fX7_tagOf T tg) → ∃ P' M1, fX4_record P T tg = some P' ∧ fX10_notes n M = some M1 ∧ (∀ j, j ≠ 7 → M1.1 j = M.1 j) ∧ (∀ j, j ≠ 6 → M1.2.1 j = M.2.1 j) ∧ ∀ M2 : tM, M2.1 7 = M1.1 7 → M2.2.1 6 = M1.2.1 6 → Sc (mS M) (mS M2) tg (fX7_tagOf T tg) → HU P' M2 := by
    intro P' q1 q2 q3 q4
    refine ⟨P', M1, q1, n1, n6, n7, fun M2 c7 c6 hS => ⟨u' + 1, snA sn d u' (mS M2), by omega, q2, c7.trans n5, fun k hk => ?_, ?_, fun k hk => ?_⟩⟩
    · rw [c6, snA_le (by omega)]
      rcases Nat.lt_or_ge k u' with q | q
      · exact (n8 k q).trans (h1 (k + d) (by omega))
      · have e : k = u' := by omega
        subst e
        rw [n2]
        exact n9.trans h2
    · rw [snA_gt (by omega)]
      exact eS.refl _
    · rw [snA_le (by omega)]
      rcases Nat.lt_or_ge k u' with q | q
      · rw [snA_le (by omega), show k + 1 + d = k + d + 1 by omega]
        obtain ⟨r1, r2, r3, r4⟩ := q3 k q
        have := h3 (k + d) (by omega)
        unfold Spp at this ⊢
        rw [r1, r2, r3, r4]
        exact this
      · have e : k = u' := by omega
        subst e
        obtain ⟨r1, r2, r3, r4⟩ := q4
        rw [snA_gt (by omega), n2]
        refine ⟨?_, ?_, ?_⟩
        · rw [r1, a1]
          exact h2.1
        · rw [r2, a2]
          exact h2.2.1
        · rw [r3, r4]
          exact hS.congr h2 (eS.refl _)
  by_cases c : u < 8
  · rw [if_pos c] at n4
    subst n4
    have e : u' = u := by omega
    subst e
    have q : fX4_record P T tg = some (upd P.1 u' T.2.2.2.1, upd P.2.1 u' T.2.2.2.2.1, upd P.2.2.1 u' tg, upd P.2.2.2.1 u' (fX7_tagOf T tg), nI (u' + 1)) := by
      unfold fX4_record fX7_bits fX7_came
      rw [p1, if_pos (show nI u' < 8 from nI_lt (b := 8) c (by decide)), if_neg (nI_in c (by decide)), nI_clamp (by omega), nI_1]
    exact key _ q rfl (fun k hk => ⟨pk_un (by omega), pk_un (by omega), pk_un (by omega), pk_un (by omega)⟩) ⟨pk_us, pk_us, pk_us, pk_us⟩
  · rw [if_neg c] at n4
    subst n4
    have e : u = 8 := by omega
    subst e
    have e : u' = 7 := by omega
    subst e
    have q : fX4_record P T tg = some (upd (va_cpy P.1 P.1 1 0 7) 7 T.2.2.2.1, upd (va_cpy P.2.1 P.2.1 1 0 7) 7 T.2.2.2.2.1, upd (va_cpy P.2.2.1 P.2.2.1 1 0 7) 7 tg, upd (va_cpy P.2.2.2.1 P.2.2.2.1 1 0 7) 7 (fX7_tagOf T tg), nI 8) := by
      unfold fX4_record fX7_bits fX7_came fX4_forgetFirst
      rw [p1, if_neg (show ¬ nI 8 < 8 by decide), Option.bind_some]
      rfl
    have cp : ∀ (f : Nat → Int32) k, k < 7 → va_cpy f f 1 0 7 k = f (k + 1) := fun f k hk => by
      rw [pk_cpy_in (by omega) (by omega)]
      congr 1
      omega
    exact key _ q rfl (fun k hk => ⟨(pk_un (by omega)).trans (cp _ k hk), (pk_un (by omega)).trans (cp _ k hk), (pk_un (by omega)).trans (cp _ k hk), (pk_un (by omega)).trans (cp _ k hk)⟩) ⟨pk_us (f := va_cpy P.1 P.1 1 0 7) (k := 7), pk_us (f := va_cpy P.2.1 P.2.1 1 0 7) (k := 7), pk_us (f := va_cpy P.2.2.1 P.2.2.1 1 0 7) (k := 7) (x := tg), pk_us (f := va_cpy P.2.2.2.1 P.2.2.2.1 1 0 7) (k := 7) (x := fX7_tagOf T tg)⟩
theorem KP.fr {X X' : tX} {A B : tT} {M' : tM} (h : KP X A B M) (hx : X'.1 = X.1) (h9 : M'.1 9 = M.1 9) (h8 : M'.2.1 8 = M.2.1 8) : KP X' A B M' := by
  obtain ⟨k, h1, h2, h3, h4, h5⟩ := h
  refine ⟨k, h1, hx.trans h2, h9.trans h3, ?_, ?_⟩
  · rw [h8]
    exact h4
  · rw [h8]
    exact h5
theorem cpy_all {f g : Nat → Int32} {N v : Nat} (h : v < N) : va_cpy f g 0 0 N v = f v := by
  rw [pk_cpy_in (Nat.zero_le _) (by omega)]
  congr 1
  omega
theorem TA.copy {A : tT} (h : TA T s c) (hc : c ≤ 24) : ∃ A', fX7_copyFrom A T = some A' ∧ TA A' s c := by
  obtain ⟨a1, a2, a3, a4, a5, a6⟩ := h
  refine ⟨_, rfl, a1, a2, a3, ?_, ?_, fun v hv => ?_⟩
  · show va_cpy T.2.1 A.2.1 0 0 24 0 = -1
    rw [cpy_all (by omega)]
    exact a4
  · show va_cpy T.2.2.1 A.2.2.1 0 0 24 0 = 0
    rw [cpy_all (by omega)]
    exact a5
  · show va_cpy T.1 A.1 0 0 24 v = s.2.2.2.1 v ∧ (1 ≤ v → va_cpy T.2.1 A.2.1 0 0 24 v = s.2.2.2.2.1 v ∧ va_cpy T.2.2.1 A.2.2.1 0 0 24 v = s.2.2.2.2.2 v)
    rw [cpy_all (by omega), cpy_all (by omega), cpy_all (by omega)]
    exact a6 v hv
theorem Kt.congr {A : tT} (h : Kt A s) (e : eS s t) : Kt A t := by
  obtain ⟨th, pa, ky, c, kd, g, a⟩ := h
  exact ⟨th, pa, ky, c, kd, g.congr e, a.congr g.2.2.2.1.2.1 e⟩
/-! keep, back, undo -/
theorem O_keep (hn : 3000 ≤ n) {X : tX} {A B : tT} (C : Cu T O M) (H : KP X A B M) : ∃ r X' A' B' M', fX9_keep X T A B = some (r, X', A', B') ∧ fX10_keep n M = some (r, M') ∧ X'.2 = X.2 ∧ KP X' A' B' M' ∧ (∀ j, j ≠ 9 → M'.1 j = M.1 j) ∧ (∀ j, j ≠ 8 → M'.2.1 j = M.2.1 j) := by
  obtain ⟨th, pa, ky, c, kd, g, a, o⟩ := C
  obtain ⟨k, h1, h2, h3, h4, h5⟩ := H
  unfold fX9_keep fX10_keep
  have hc := g.2.2.2.1.2.1
  rcases (show k = 0 ∨ k = 1 ∨ k = 2 by omega) with e | e | e
  · subst e
    obtain ⟨A', c1, c2⟩ := a.copy (A := A) hc
    obtain ⟨M1, q1, q2, q3, q4, q5⟩ := X10_lays_78 (n := n) (b := 0) (by omega) (by omega) M
    rw [h2, h3, if_pos (show nI 0 < 2 by decide), if_pos (show nI 0 = 0 from rfl), if_pos (show ¬ nI 0 = 2 by decide), c1, show (75 : Int32) * nI 0 = nI 0 by decide, q1, Option.bind_some, Option.bind_some]
    refine ⟨nI 0 + 1, _, _, _, (va_up M1.1 9 (M1.1 9 + 1), M1.2.1, M1.2.2), rfl, ?_, rfl, ⟨1, by omega, rfl, ?_, fun _ => ?_, fun q => absurd q (by omega)⟩, fun j hj => ?_, q3⟩
    · rw [q2, h3]
    · show M1.1 9 + 1 = _
      rw [q2, h3]
      rfl
    · exact ⟨th, pa, ky, c, kd, g.congr q4.symm, c2.congr hc q4.symm⟩
    · show va_up M1.1 9 (M1.1 9 + 1) j = _
      rw [vu_n hj, q2]
  · subst e
    obtain ⟨A', c1, c2⟩ := a.copy (A := B) hc
    obtain ⟨M1, q1, q2, q3, q4, q5⟩ := X10_lays_78 (n := n) (b := 75) (by omega) (by omega) M
    rw [h2, h3, if_pos (show nI 1 < 2 by decide), if_neg (show ¬ nI 1 = 0 by decide), if_pos (show ¬ nI 1 = 2 by decide), c1, show (75 : Int32) * nI 1 = nI 75 by decide, q1, Option.bind_some, Option.bind_some]
    refine ⟨nI 1 + 1, _, _, _, (va_up M1.1 9 (M1.1 9 + 1), M1.2.1, M1.2.2), rfl, ?_, rfl, ⟨2, by omega, rfl, ?_, fun _ => ?_, fun _ => ?_⟩, fun j hj => ?_, q3⟩
    · rw [q2, h3]
    · show M1.1 9 + 1 = _
      rw [q2, h3]
      rfl
    · refine (h4 (by omega)).congr (sB_eq (fun i hi => ?_))
      exact (q5 _ (by omega)).symm
    · exact ⟨th, pa, ky, c, kd, g.congr q4.symm, c2.congr hc q4.symm⟩
    · show va_up M1.1 9 (M1.1 9 + 1) j = _
      rw [vu_n hj, q2]
  · subst e
    rw [h2, h3, if_neg (show ¬ nI 2 < 2 by decide), if_neg (show ¬ ¬ nI 2 = 2 from fun q => q rfl)]
    exact ⟨_, _, _, _, _, rfl, rfl, rfl, ⟨2, h1, h2, h3, h4, h5⟩, fun _ _ => rfl, fun _ _ => rfl⟩
end ACTS
