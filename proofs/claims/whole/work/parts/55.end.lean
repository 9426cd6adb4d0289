/-! end -/
theorem has_bt (g : Int32) {k : Nat} (h : k < 32) : fX10_has g (nI k) = if bt g k = true then 1 else 0 := by
  unfold fX10_has
  by_cases c : bt g k = true
  · rw [if_pos c, if_neg]
    exact fun q => q ((tb_iff _ h).mpr c)
  · rw [if_neg c, if_pos]
    exact fun q => c ((tb_iff _ h).mp q)
section END4
variable {n s : Nat} {X : tX} {T : tT} {O : tO} {M : tM} {S : tS} {G : tG} {th : Nat → Bool} {pa ky : Nat → Nat} {A C : Nat → Nat → Int64}
/-- one by one, from a place in the order on -/
theorem lend (hn : 3000 ≤ n) (c : Ctx T O M S th pa ky s) {b : Nat} (hb : b < 8) (hS : S.2.2.2.2 = nI b) {g : Int32} (hg : ∀ i, i < 32 → bt g i = (th i && Ps G.1 G.2.2.1 th pa ky b i)) {kk : Nat} (k31 : kk < 2147483648) : ∀ m m' r f, r ≤ (pre th pa ky 0).length → f ≤ kk → (pre th pa ky 0).length - r < m → (pre th pa ky 0).length - r < m' → ∃ y, lX9_end_28 n T O S m (nI kk) (nI f) (nI r) X G = some (y, X, G) ∧ lX10_end_41 n m' g (nI (kk - f)) (e4 ((pre th pa ky 0)[r]?)) M = some (y, M)
  | 0, _, _, _, _, _, h, _ => absurd h (by omega)
  | _ + 1, 0, _, _, _, _, _, h => absurd h (by omega)
  | m + 1, m' + 1, r, f, hr, hf, hm, hm' => by
    obtain ⟨w, h0, hO, R, htag, h15, hP⟩ := id c
    have l24 := L_len w h0
    rw [lX9_end_28, lX10_end_41]
    unfold fX3_size fX5_lastOutermost
    rw [hO.1, hS]
    by_cases e : r = (pre th pa ky 0).length
    · rw [if_pos (nI_le (by omega) (by omega)), if_pos (m1_ne k31), List.getElem?_eq_none (by omega), if_pos (show e4 none = -4 from rfl)]
      exact ⟨_, rfl, rfl⟩
    have rN : r < (pre th pa ky 0).length := by omega
    obtain ⟨k1, tk, rk1⟩ := ndk_s w h0 rN
    have n24 := w.lt tk
    have pk : bt g (ndk th pa ky r) = decide (¬ lg_cmp (G.1 b r * G.2.2.1 b r) 0 ≤ 0) := by
      rw [hg _ (by omega), tk, Bool.true_and]
      unfold Ps
      rw [rk1]
    rw [if_neg (nI_ge rN (by omega)), ways_s hb (by omega), Option.bind_some, k1, show e4 (some (ndk th pa ky r)) = nI (ndk th pa ky r) from rfl, if_neg (m4_ne (by omega)), has_bt _ (by omega), pk, nI_1, nI_1, X10_behind w R (by omega) tk, Option.bind_some, Option.bind_some, ← L_next w h0 k1]
    by_cases cp : lg_cmp (G.1 b r * G.2.2.1 b r) 0 ≤ 0
    · rw [if_pos cp, decide_eq_false (fun z => z cp), if_neg (show ¬ (false = true) by decide), if_pos rfl]
      exact lend hn c hb hS hg k31 m m' (r + 1) f (by omega) hf (by omega) (by omega)
    · rw [if_neg cp, decide_eq_true cp, if_pos rfl, if_neg (show ¬ (1 : Int32) = 0 by decide)]
      by_cases ef : f = kk
      · subst ef
        rw [if_neg (fun z => z rfl), Nat.sub_self, if_neg (fun z => z nI_0), nodeAt_s hO.1 rN l24, Option.bind_some, (hO.2 r _ k1).1.1]
        exact ⟨_, rfl, rfl⟩
      · rw [if_pos (fun z => ef ((nI_eq (by omega) (by omega)).mp z)), if_pos (nI_ne0 (by omega) (by omega)), show nI (kk - f) + (-1) = nI (kk - (f + 1)) from by
          rw [show kk - f = kk - (f + 1) + 1 by omega]
          exact pk_m1 _]
        exact lend hn c hb hS hg k31 m m' (r + 1) (f + 1) (by omega) (by omega) (by omega) (by omega)
/-- how many -/
theorem lendc (c : Ctx T O M S th pa ky s) {b : Nat} (hb : b < 8) (hS : S.2.2.2.2 = nI b) : ∀ m r, r ≤ (pre th pa ky 0).length → (pre th pa ky 0).length - r < m → lX9_end_28 n T O S m (-1) (nI (((pre th pa ky 0).take r).filter (Ps G.1 G.2.2.1 th pa ky b)).length) (nI r) X G = some (nI ((pre th pa ky 0).filter (Ps G.1 G.2.2.1 th pa ky b)).length, X, G)
  | 0, _, _, h => absurd h (by omega)
  | m + 1, r, hr, hm => by
    obtain ⟨w, h0, hO, R, htag, h15, hP⟩ := id c
    have l24 := L_len w h0
    rw [lX9_end_28]
    unfold fX3_size fX5_lastOutermost
    rw [hO.1, hS]
    by_cases e : r = (pre th pa ky 0).length
    · rw [if_pos (nI_le (by omega) (by omega)), if_neg (fun z => z rfl), e, List.take_length]
    have rN : r < (pre th pa ky 0).length := by omega
    obtain ⟨k1, tk, rk1⟩ := ndk_s w h0 rN
    have n24 := w.lt tk
    have pk : Ps G.1 G.2.2.1 th pa ky b (ndk th pa ky r) = decide (¬ lg_cmp (G.1 b r * G.2.2.1 b r) 0 ≤ 0) := by
      unfold Ps
      rw [rk1]
    have et : (pre th pa ky 0).take (r + 1) = (pre th pa ky 0).take r ++ [ndk th pa ky r] := by
      rw [List.take_succ, k1]
      rfl
    have ih := lendc c hb hS m (r + 1) (by omega) (by omega)
    rw [et, List.filter_append, List.length_append] at ih
    have fl : (((pre th pa ky 0).take r).filter (Ps G.1 G.2.2.1 th pa ky b)).length ≤ 24 := Nat.le_trans (List.length_filter_le _ _) (by rw [List.length_take]; omega)
    rw [if_neg (nI_ge rN (by omega)), ways_s hb (by omega), Option.bind_some, nI_1, nI_1]
    by_cases cp : lg_cmp (G.1 b r * G.2.2.1 b r) 0 ≤ 0
    · have e0 : ([ndk th pa ky r].filter (Ps G.1 G.2.2.1 th pa ky b)).length = 0 := by
        rw [List.filter_cons, pk, decide_eq_false (fun z => z cp)]
        rfl
      rw [e0, Nat.add_zero] at ih
      rw [if_pos cp]
      exact ih
    · have e0 : ([ndk th pa ky r].filter (Ps G.1 G.2.2.1 th pa ky b)).length = 1 := by
        rw [List.filter_cons, pk, decide_eq_true cp]
        rfl
      rw [e0] at ih
      rw [if_neg cp, if_pos (m1_ne (by omega))]
      exact ih
theorem O_end (hn : 3000 ≤ n) (C : Cu T O M) (HS : SP S M) (hI : MI X T O S G) (k : Int32) : ∃ r X' G' M', fX9_end n X k T O S G = some (r, X', G') ∧ fX10_end n M k = some (r, M') ∧ M'.1 = M.1 ∧ M'.2.1 = M.2.1 ∧ X'.1 = X.1 ∧ MI X' T O S G' := by
  obtain ⟨s, h15, hS, hlast⟩ := HS
  obtain ⟨th, pa, ky, c, kd, I, cx⟩ := Ctx_of C h15 hS
  have s8 := hS.2.1
  unfold fX9_end fX10_end fX5_size
  by_cases ck : (-1 : Int32) ≤ k
  · rw [if_pos ck, if_pos ck, h15, hS.1]
    by_cases s0 : s = 0
    · subst s0
      exact ⟨_, X, G, M, rfl, rfl, rfl, rfl, rfl, hI⟩
    obtain ⟨hl, b, hb, h16⟩ := hlast (by omega)
    rw [h16] at hl
    obtain ⟨X', G', a1, a2, a3, a4, a5, a6⟩ := matchAll_s hn cx (by omega) hI
    have l24 := L_len cx.1 cx.2.1
    obtain ⟨g2, W, c1, c2⟩ := luse10 (n := n) hn hb n 0 0 M cx a5 a6 (by omega) (by omega) (fun i hi => by rw [b_0, decide_eq_false (Nat.not_lt_zero _), Bool.false_and])
    have c1 : fX10_usefulSet n M (nI b) = _ := c1
    rw [if_pos (nI_ne0 (by omega) (by omega)), if_pos (nI_ne0 (by omega) (by omega)), a1, Option.bind_some, h16, c1, Option.bind_some]
    by_cases ek : k = -1
    · subst ek
      have e1 := lendc (n := n) (X := X') (G := G') cx (show b < 8 by omega) hl n 0 (by omega) (by omega)
      have e1 : lX9_end_28 n T O S n (-1) 0 0 X' G' = _ := e1
      have nd : (pre th pa ky 0).Nodup := pre_nodup cx.1 24 0 cx.2.1
      have cl := cnt_list (l := (pre th pa ky 0).filter (Ps G'.1 G'.2.2.1 th pa ky b)) (p := bt g2) (nd.filter _) (fun x => by
        rw [List.mem_filter, pre_mem cx.1 cx.2.1]
        constructor
        · intro h
          have := cx.1.lt h.1.1
          refine ⟨this, ?_⟩
          rw [c2 x (by omega), h.1.1, h.2]
          rfl
        · intro h
          rw [c2 x (by omega)] at h
          simp only [Bool.and_eq_true] at h
          exact ⟨⟨h.2.1, ov_root cx.1 x h.2.1⟩, h.2.2⟩)
      rw [if_neg (fun z => z rfl), X10_bits (by omega), Option.bind_some, e1, cl]
      exact ⟨_, X', G', _, rfl, rfl, rfl, rfl, a2, a4⟩
    · have k0 : ¬ k < 0 := fun q => by
        rw [Int32.lt_iff_toInt_lt] at q
        rw [Int32.le_iff_toInt_le] at ck
        have q : k.toInt < 0 := q
        have ck : (-1 : Int) ≤ k.toInt := ck
        exact ek (Int32.toInt_inj.mp (show k.toInt = (-1 : Int32).toInt by
          have : (-1 : Int32).toInt = -1 := rfl
          omega))
      obtain ⟨kk, k31, rfl⟩ := nI_of k0
      obtain ⟨y, d1, d2⟩ := lend (n := n) (X := X') (G := G') hn (cx.w W) (show b < 8 by omega) hl c2 k31 n n 0 0 (by omega) (by omega) (by omega) (by omega)
      have d1 : lX9_end_28 n T O S n (nI kk) 0 0 X' G' = _ := d1
      rw [L_0 cx.1 cx.2.1, Nat.sub_zero] at d2
      have d2 : lX10_end_41 n n g2 (nI kk) 0 (M.1, M.2.1, W) = _ := d2
      rw [if_pos ek, d1, d2]
      exact ⟨_, X', G', _, rfl, rfl, rfl, rfl, a2, a4⟩
  · rw [if_neg ck, if_neg ck]
    exact ⟨_, X, G, M, rfl, rfl, rfl, rfl, rfl, hI⟩
end END4
