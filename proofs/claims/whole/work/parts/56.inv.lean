/-! THE INVARIANT of both sides, and every call over it -/
def IV (X : tX) (L : tL) (T : tT) (O : tO) (P : tP) (A B : tT) (S : tS) (G : tG) (M : tM) : Prop := Cu T O M ∧ HU P M ∧ KP X A B M ∧ TX L M ∧ SP S M ∧ MI X T O S G
section IVS
variable {n : Nat} {X X' : tX} {L : tL} {K : tK} {U : tU} {T D : tT} {O : tO} {P : tP} {A B : tT} {S E : tS} {G : tG} {M M' : tM}
theorem eS_of (e0 : M'.1 0 = M.1 0) (e1 : M'.1 1 = M.1 1) (e2 : M'.1 2 = M.1 2) (e3 : M'.2.1 3 = M.2.1 3) (e4 : M'.2.1 4 = M.2.1 4) (e5 : M'.2.1 5 = M.2.1 5) : eS (mS M) (mS M') := by
  unfold mS
  rw [e0, e1, e2, e3, e4, e5]
  exact eS.refl _
theorem Cu.congr (C : Cu T O M) (e : eS (mS M) (mS M')) : Cu T O M' := by
  obtain ⟨th, pa, ky, c, kd, g, a, o⟩ := C
  exact ⟨th, pa, ky, c, kd, g.congr e, a.congr g.2.2.2.1.2.1 e, o⟩
theorem HU.congr (H : HU P M) (e : eS (mS M) (mS M')) (e7 : M'.1 7 = M.1 7) (e6 : M'.2.1 6 = M.2.1 6) : HU P M' := by
  obtain ⟨u, sn, a, b, c, d, f, g⟩ := H
  exact ⟨u, sn, a, b, e7.trans c, fun k hk => by rw [e6]; exact d k hk, e.symm.trans f, g⟩
theorem KP.congr (H : KP X A B M) (ex : X'.1 = X.1) (e9 : M'.1 9 = M.1 9) (e8 : M'.2.1 8 = M.2.1 8) : KP X' A B M' := by
  obtain ⟨k, a, b, c, d, f⟩ := H
  exact ⟨k, a, ex.trans b, e9.trans c, fun hk => by rw [e8]; exact d hk, fun hk => by rw [e8]; exact f hk⟩
theorem TX.congr (H : TX L M) (e11 : M'.1 11 = M.1 11) (e10 : M'.2.1 10 = M.2.1 10) : TX L M' := by
  obtain ⟨tx, sz, a, b, c, d⟩ := H
  exact ⟨tx, sz, a, e11.trans b, c, fun i hi => by rw [e10]; exact d i hi⟩
theorem SP.congr (H : SP S M) (e15 : M'.1 15 = M.1 15) (e16 : M'.1 16 = M.1 16) (e17 : M'.2.1 17 = M.2.1 17) (e18 : M'.2.1 18 = M.2.1 18) (e19 : M'.2.1 19 = M.2.1 19) : SP S M' := by
  obtain ⟨s, a, b, c⟩ := H
  refine ⟨s, e15.trans a, by rw [e17, e18, e19]; exact b, fun hs => ?_⟩
  rw [e16]
  exact c hs
theorem MI.congr (H : MI X T O S G) (e : X'.2 = X.2) : MI X' T O S G := by
  unfold MI at H ⊢
  rw [e]
  exact H
theorem IV.W (I : IV X L T O P A B S G M) (e1 : M'.1 = M.1) (e2 : M'.2.1 = M.2.1) {X' : tX} {G' : tG} (ex : X'.1 = X.1) (h : MI X' T O S G') : IV X' L T O P A B S G' M' := by
  obtain ⟨a, b, c, d, e, f⟩ := I
  have es : eS (mS M) (mS M') := by
    unfold mS
    rw [e1, e2]
    exact eS.refl _
  exact ⟨a.congr es, b.congr es (by rw [e1]) (by rw [e2]), c.congr ex (by rw [e1]) (by rw [e2]), d.congr (by rw [e1]) (by rw [e2]), e.congr (by rw [e1]) (by rw [e1]) (by rw [e2]) (by rw [e2]) (by rw [e2]), h⟩
theorem I_write (I : IV X L T O P A B S G M) (a : Int32) : ∃ r L' M', fX9_write X a L = some (r, L') ∧ fX10_write M a = some (r, M') ∧ IV X L' T O P A B S G M' := by
  obtain ⟨i1, i2, i3, i4, i5, i6⟩ := I
  obtain ⟨r, L', M', a1, a2, a3, a4, a5⟩ := O_write (X := X) i4 a
  have es : eS (mS M) (mS M') := eS_of (a4 _ (by decide)) (a4 _ (by decide)) (a4 _ (by decide)) (a5 _ (by decide)) (a5 _ (by decide)) (a5 _ (by decide))
  exact ⟨r, L', M', a1, a2, i1.congr es, i2.congr es (a4 _ (by decide)) (a5 _ (by decide)), i3.congr rfl (a4 _ (by decide)) (a5 _ (by decide)), a3, i5.congr (a4 _ (by decide)) (a4 _ (by decide)) (a5 _ (by decide)) (a5 _ (by decide)) (a5 _ (by decide)), i6⟩
theorem I_wipe (I : IV X L T O P A B S G M) : ∃ r L' M', fX9_wipe X L = some (r, L') ∧ fX10_wipe M = some (r, M') ∧ IV X L' T O P A B S G M' := by
  obtain ⟨i1, i2, i3, i4, i5, i6⟩ := I
  obtain ⟨r, L', M', a1, a2, a3, a4, a5⟩ := O_wipe (X := X) i4
  have es : eS (mS M) (mS M') := eS_of (a4 _ (by decide)) (a4 _ (by decide)) (a4 _ (by decide)) (a5 _) (a5 _) (a5 _)
  exact ⟨r, L', M', a1, a2, i1.congr es, i2.congr es (a4 _ (by decide)) (a5 _), i3.congr rfl (a4 _ (by decide)) (a5 _), a3, i5.congr (a4 _ (by decide)) (a4 _ (by decide)) (a5 _) (a5 _) (a5 _), i6⟩
theorem IV.FX (I : IV X L T O P A B S G M) (f : FX M M') : IV X L T O P A B S G M' := by
  obtain ⟨i1, i2, i3, i4, i5, i6⟩ := I
  obtain ⟨e, a4, a5⟩ := f
  have es := e.symm
  exact ⟨i1.congr es, i2.congr es (a4 _ (by decide) (by decide) (by decide)) (a5 _ (by decide) (by decide)), i3.congr rfl (a4 _ (by decide) (by decide) (by decide)) (a5 _ (by decide) (by decide)), i4.congr (a4 _ (by decide) (by decide) (by decide)) (a5 _ (by decide) (by decide)), i5.congr (a4 _ (by decide) (by decide) (by decide)) (a4 _ (by decide) (by decide) (by decide)) (a5 _ (by decide) (by decide)) (a5 _ (by decide) (by decide)) (a5 _ (by decide) (by decide)), i6⟩
theorem I_fault (hn : 3000 ≤ n) (I : IV X L T O P A B S G M) (K : tK) (D : tT) : ∃ r K' D' M', fX9_fault n X L K D = some (r, K', D') ∧ fX10_fault n M = some (r, M') ∧ IV X L T O P A B S G M' := by
  obtain ⟨r, K', D', M', a1, a2, a3⟩ := O_fault (X := X) hn I.2.2.2.1 K D
  exact ⟨r, K', D', M', a1, a2, I.FX a3⟩
theorem I_lay (hn : 3000 ≤ n) (I : IV X L T O P A B S G M) (K : tK) (D : tT) : ∃ r X' K' T' D' O' P' S' M', fX9_lay n X L K T D O P S = some (r, X', K', T', D', O', P', S') ∧ fX10_lay n M = some (r, M') ∧ IV X' L T' O' P' A B S' G M' := by
  obtain ⟨r, X', K', T', D', O', P', S', M', a1, a2, a3⟩ := O_lay (X := X) hn I.2.2.2.1 K D T O P S A B
  refine ⟨r, X', K', T', D', O', P', S', M', a1, a2, ?_⟩
  rcases a3 with ⟨rfl, rfl, rfl, rfl, rfl, f⟩ | ⟨b1, b2, b3, b4, b5, b6, b7⟩
  · exact I.FX f
  · exact ⟨b1, b2, b3, b4, ⟨0, b7, ⟨b6, by decide, fun q hq => absurd hq (Nat.not_lt_zero _)⟩, fun h => absurd h (by decide)⟩, Or.inl b5⟩
theorem I_node (hn : 3000 ≤ n) (I : IV X L T O P A B S G M) (v what : Int32) : ∃ r, fX9_node X v what T O = some r ∧ fX10_node n M v what = some r := by
  obtain ⟨th, pa, ky, c, kd, g, a, o⟩ := I.1
  exact O_node (TA_TI g a o) (by omega) X v what
theorem I_child (hn : 3000 ≤ n) (I : IV X L T O P A B S G M) (v i : Int32) : ∃ r, fX9_child n X v i T = some r ∧ fX10_child n M v i = some r := by
  obtain ⟨th, pa, ky, c, kd, g, a, o⟩ := I.1
  exact O_child (TA_TI g a o) (by omega) X v i
theorem I_key (hn : 3000 ≤ n) (I : IV X L T O P A B S G M) (v i what : Int32) : ∃ r, fX9_key n X v i what T O = some r ∧ fX10_key n M v i what = some r := by
  obtain ⟨th, pa, ky, c, kd, g, a, o⟩ := I.1
  exact O_key (TA_TI g a o) (by omega) X v i what
theorem I_at (hn : 3000 ≤ n) (I : IV X L T O P A B S G M) (k : Int32) : ∃ r, fX9_at X k O = some r ∧ fX10_at n M k = some r := by
  obtain ⟨th, pa, ky, c, kd, g, a, o⟩ := I.1
  exact O_at (TA_TI g a o) (by omega) X k
theorem I_between (hn : 3000 ≤ n) (I : IV X L T O P A B S G M) (p place what : Int32) : ∃ r, fX9_between n X p place what T = some r ∧ fX10_between n M p place what = some r := by
  obtain ⟨th, pa, ky, c, kd, g, a, o⟩ := I.1
  exact O_between (TA_TI g a o) (by omega) X p place what
theorem I_ahead (hn : 3000 ≤ n) (I : IV X L T O P A B S G M) (v w : Int32) : ∃ r, fX9_ahead X v w T O = some r ∧ fX10_ahead n M v w = some r := by
  obtain ⟨th, pa, ky, c, kd, g, a, o⟩ := I.1
  exact O_ahead (TA_TI g a o) (by omega) X v w
theorem I_above (hn : 3000 ≤ n) (I : IV X L T O P A B S G M) (v w : Int32) : ∃ r, fX9_above X v w T O = some r ∧ fX10_above n M v w = some r := by
  obtain ⟨th, pa, ky, c, kd, g, a, o⟩ := I.1
  exact O_above (TA_TI g a o) (by omega) X v w
theorem I_meet (hn : 3000 ≤ n) (I : IV X L T O P A B S G M) (v w : Int32) : ∃ r, fX9_meet n X v w T O = some r ∧ fX10_meet n M v w = some r := by
  obtain ⟨th, pa, ky, c, kd, g, a, o⟩ := I.1
  exact O_meet (TA_TI g a o) (by omega) X v w
theorem I_step (I : IV X L T O P A B S G M) (q what : Int32) : ∃ r, fX9_step X q what S = some r ∧ fX10_step M q what = some r := O_step I.2.2.2.2.1 q what
theorem I_count (hn : 3000 ≤ n) (I : IV X L T O P A B S G M) (what : Int32) : ∃ r, fX9_count n X what L T O P S = some r ∧ fX10_count n M what = some r := O_count hn I.1 I.2.1 I.2.2.1 I.2.2.2.1 I.2.2.2.2.1 what
theorem IV.act (I : IV X L T O P A B S G M) {X' : tX} {T' : tT} {O' : tO} {P' : tP} (k : AOK X T O A B M X' T' O' P' M') : IV X' L T' O' P' A B S G M' := by
  obtain ⟨i1, i2, i3, i4, i5, i6⟩ := I
  obtain ⟨k1, k2, k3, k4, k5⟩ := k
  refine ⟨k1, k2, k3, i4.congr (k4 _ (by decide)).1 (k4 _ (by decide)).2, i5.congr (k4 _ (by decide)).1 (k4 _ (by decide)).1 (k4 _ (by decide)).2 (k4 _ (by decide)).2 (k4 _ (by decide)).2, ?_⟩
  rcases k5 with ⟨rfl, rfl, rfl, rfl⟩ | h
  · exact i6
  · exact Or.inl h
theorem I_grow (hn : 3000 ≤ n) (I : IV X L T O P A B S G M) (p place tag : Int32) : ∃ r X' T' O' P' M', fX9_grow n X p place tag T O P = some (r, X', T', O', P') ∧ fX10_grow n M p place tag = some (r, M') ∧ IV X' L T' O' P' A B S G M' := by
  obtain ⟨r, X', T', O', P', M', a1, a2, a3⟩ := O_grow hn p place tag I.1 I.2.1 I.2.2.1
  exact ⟨r, X', T', O', P', M', a1, a2, I.act a3⟩
theorem I_cut (hn : 3000 ≤ n) (I : IV X L T O P A B S G M) (v : Int32) : ∃ r X' T' O' P' M', fX9_cut n X v T O P = some (r, X', T', O', P') ∧ fX10_cut n M v = some (r, M') ∧ IV X' L T' O' P' A B S G M' := by
  obtain ⟨r, X', T', O', P', M', a1, a2, a3⟩ := O_cut hn v I.1 I.2.1 I.2.2.1
  exact ⟨r, X', T', O', P', M', a1, a2, I.act a3⟩
theorem I_tag (hn : 3000 ≤ n) (I : IV X L T O P A B S G M) (v tag : Int32) : ∃ r X' T' O' P' M', fX9_tag n X v tag T O P = some (r, X', T', O', P') ∧ fX10_tag n M v tag = some (r, M') ∧ IV X' L T' O' P' A B S G M' := by
  obtain ⟨r, X', T', O', P', M', a1, a2, a3⟩ := O_tag hn v tag I.1 I.2.1 I.2.2.1
  exact ⟨r, X', T', O', P', M', a1, a2, I.act a3⟩
theorem I_undo (hn : 3000 ≤ n) (I : IV X L T O P A B S G M) : ∃ r X' T' O' P' M', fX9_undo n X T O P = some (r, X', T', O', P') ∧ fX10_undo n M = some (r, M') ∧ IV X' L T' O' P' A B S G M' := by
  obtain ⟨r, X', T', O', P', M', a1, a2, a3⟩ := O_undo hn I.1 I.2.1 I.2.2.1
  exact ⟨r, X', T', O', P', M', a1, a2, I.act a3⟩
theorem I_back (hn : 3000 ≤ n) (I : IV X L T O P A B S G M) : ∃ r X' T' O' P' M', fX9_back n X T O P A B = some (r, X', T', O', P') ∧ fX10_back n M = some (r, M') ∧ IV X' L T' O' P' A B S G M' := by
  obtain ⟨r, X', T', O', P', M', a1, a2, a3⟩ := O_back hn I.1 I.2.1 I.2.2.1
  exact ⟨r, X', T', O', P', M', a1, a2, I.act a3⟩
theorem I_keep (hn : 3000 ≤ n) (I : IV X L T O P A B S G M) : ∃ r X' A' B' M', fX9_keep X T A B = some (r, X', A', B') ∧ fX10_keep n M = some (r, M') ∧ IV X' L T O P A' B' S G M' := by
  obtain ⟨i1, i2, i3, i4, i5, i6⟩ := I
  obtain ⟨r, X', A', B', M', a1, a2, a3, a4, a5, a6⟩ := O_keep hn i1 i3
  have es : eS (mS M) (mS M') := eS_of (a5 _ (by decide)) (a5 _ (by decide)) (a5 _ (by decide)) (a6 _ (by decide)) (a6 _ (by decide)) (a6 _ (by decide))
  exact ⟨r, X', A', B', M', a1, a2, i1.congr es, i2.congr es (a5 _ (by decide)) (a6 _ (by decide)), a4, i4.congr (a5 _ (by decide)) (a6 _ (by decide)), i5.congr (a5 _ (by decide)) (a5 _ (by decide)) (a6 _ (by decide)) (a6 _ (by decide)) (a6 _ (by decide)), i6.congr a3⟩
theorem I_pattern (hn : 3000 ≤ n) (I : IV X L T O P A B S G M) (U : tU) (E : tS) : ∃ r X' U' S' E' M', fX9_pattern n X L U S E = some (r, X', U', S', E') ∧ fX10_pattern n M = some (r, M') ∧ IV X' L T O P A B S' G M' := by
  obtain ⟨i1, i2, i3, i4, i5, i6⟩ := I
  obtain ⟨r, X', U', S', E', M', a1, a2, a3, a4⟩ := O_pattern (X := X) hn i4 U S E
  have es : eS (mS M) (mS M') := eS_of (a3 _ (by decide)).1 (a3 _ (by decide)).1 (a3 _ (by decide)).1 (a3 _ (by decide)).2 (a3 _ (by decide)).2 (a3 _ (by decide)).2
  refine ⟨r, X', U', S', E', M', a1, a2, i1.congr es, i2.congr es (a3 _ (by decide)).1 (a3 _ (by decide)).2, i3.congr ?_ (a3 _ (by decide)).1 (a3 _ (by decide)).2, i4.congr (a3 _ (by decide)).1 (a3 _ (by decide)).2, ?_, ?_⟩
  · rcases a4 with ⟨rfl, -, -⟩ | ⟨rfl, -⟩ <;> rfl
  · rcases a4 with ⟨rfl, rfl, h⟩ | ⟨rfl, h⟩
    · exact i5.congr (h _ (by decide) (by decide)).1 (h _ (by decide) (by decide)).1 (h _ (by decide) (by decide)).2 (h _ (by decide) (by decide)).2 (h _ (by decide) (by decide)).2
    · exact h
  · rcases a4 with ⟨rfl, rfl, h⟩ | ⟨rfl, h⟩
    · exact i6
    · exact Or.inl rfl
theorem I_matches (hn : 3000 ≤ n) (I : IV X L T O P A B S G M) : ∃ r X' G' M', fX9_matches n X T O S G = some (r, X', G') ∧ fX10_matches n M = some (r, M') ∧ IV X' L T O P A B S G' M' := by
  obtain ⟨r, X', G', M', a1, a2, a3, a4, a5, a6⟩ := O_matches hn I.1 I.2.2.2.2.1 I.2.2.2.2.2
  exact ⟨r, X', G', M', a1, a2, I.W a3 a4 a5 a6⟩
theorem I_puts (hn : 3000 ≤ n) (I : IV X L T O P A B S G M) (q v : Int32) : ∃ r X' G' M', fX9_puts n X q v T O S G = some (r, X', G') ∧ fX10_puts n M q v = some (r, M') ∧ IV X' L T O P A B S G' M' := by
  obtain ⟨r, X', G', M', a1, a2, a3, a4, a5, a6⟩ := O_puts hn I.1 I.2.2.2.2.1 I.2.2.2.2.2 q v
  exact ⟨r, X', G', M', a1, a2, I.W a3 a4 a5 a6⟩
theorem I_useful (hn : 3000 ≤ n) (I : IV X L T O P A B S G M) (q : Int32) : ∃ r X' G' M', fX9_useful n X q T O S G = some (r, X', G') ∧ fX10_useful n M q = some (r, M') ∧ IV X' L T O P A B S G' M' := by
  obtain ⟨r, X', G', M', a1, a2, a3, a4, a5, a6⟩ := O_useful hn I.1 I.2.2.2.2.1 I.2.2.2.2.2 q
  exact ⟨r, X', G', M', a1, a2, I.W a3 a4 a5 a6⟩
theorem I_end (hn : 3000 ≤ n) (I : IV X L T O P A B S G M) (k : Int32) : ∃ r X' G' M', fX9_end n X k T O S G = some (r, X', G') ∧ fX10_end n M k = some (r, M') ∧ IV X' L T O P A B S G' M' := by
  obtain ⟨r, X', G', M', a1, a2, a3, a4, a5, a6⟩ := O_end hn I.1 I.2.2.2.2.1 I.2.2.2.2.2 k
  exact ⟨r, X', G', M', a1, a2, I.W a3 a4 a5 a6⟩
end IVS
