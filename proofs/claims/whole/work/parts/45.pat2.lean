/-! a whole PATTERN -/
def RS (U : tU) (S : tS) (M : tM) (s l i : Nat) : Prop := U.2.1 = nI l ∧ U.2.2.1 = 2 ∧ U.2.2.2.1 = M.2.1 25 l ∧ (∀ j, j < l → U.1 j = M.2.1 25 j) ∧ M.1 12 = nI i ∧ M.1 20 = nI s ∧ PR S (M.2.1 22) (M.2.1 23) (M.2.1 24) s ∧ l + 1 ≤ s ∧ (∀ j, j ≤ l → ∃ h, h < s ∧ M.2.1 25 j = nI h) ∧ S.2.2.2.2 = M.1 21 ∧ ∃ b, b < s ∧ M.1 21 = nI b
def TS (U : tU) (S : tS) (M : tM) (s l i : Nat) (ax : Int32) : Prop := U.2.1 = nI l ∧ U.2.2.1 = 0 ∧ HA U.2.2.2.1 (M.2.1 25 l) U.2.2.2.2 ax s ∧ (∀ j, j < l → U.1 j = M.2.1 25 j) ∧ M.1 12 = nI i ∧ M.1 20 = nI s ∧ PR S (M.2.1 22) (M.2.1 23) (M.2.1 24) s ∧ l ≤ s ∧ l < 10 ∧ (∀ j, j < l → ∃ h, h < s ∧ M.2.1 25 j = nI h) ∧ (1 ≤ s → S.2.2.2.2 = M.1 21 ∧ ∃ b, b < s ∧ M.1 21 = nI b)
def FRP (M M' : tM) : Prop := (∀ j, j ≠ 12 → j ≠ 20 → j ≠ 21 → M'.1 j = M.1 j) ∧ (∀ j, j < 22 → M'.2.1 j = M.2.1 j)
theorem FRP.refl (M : tM) : FRP M M := ⟨fun _ _ _ _ => rfl, fun _ _ => rfl⟩
theorem FRP.trans {M M1 M2 : tM} (h : FRP M M1) (g : FRP M1 M2) : FRP M M2 := ⟨fun j a b c => (g.1 j a b c).trans (h.1 j a b c), fun j a => (g.2 j a).trans (h.2 j a)⟩
theorem TM.frp {M M' : tM} {tx : Nat → Nat} {sz : Nat} (G : TM M tx sz) (h : FRP M M') : TM M' tx sz := by
  refine ⟨(h.1 11 (by omega) (by omega) (by omega)).trans G.1, G.2.1, fun i hi => ?_⟩
  rw [h.2 10 (by omega)]
  exact G.2.2 i hi
section PAT2
variable {L : tL} {M : tM} {tx : Nat → Nat} {sz n s l i : Nat} {U : tU} {S : tS} {ax : Int32}
theorem rsM_frp (v : Nat) : FRP M (rsM M s l i v ax) := by
  refine ⟨fun j j12 j20 j21 => ?_, fun j hj => ?_⟩
  · show (if l = 0 then va_up (va_up (va_up M.1 12 (nI (i + 1))) 20 (nI (s + 1))) 21 (nI s) else va_up (va_up M.1 12 (nI (i + 1))) 20 (nI (s + 1))) j = M.1 j
    split
    · rw [vu_n j21, vu_n j20, vu_n j12]
    · rw [vu_n j20, vu_n j12]
  · show va_up (va_up (va_up (va_up M.2.1 22 (upd (M.2.1 22) s (nI v))) 23 (upd (M.2.1 23) s ((M.2.1 25) l))) 24 (upd (M.2.1 24) s ax)) 25 (upd (M.2.1 25) l (nI s)) j = M.2.1 j
    rw [vu_n (by omega), vu_n (by omega), vu_n (by omega), vu_n (by omega)]
theorem tag_step (H : TL L tx sz) (G : TM M tx sz) (h : TS U S M s l i ax) (hi : i ≤ sz) (m : Nat) : (∃ U' S', lX6_read_26 n L (m + 1) (nI i) U S = some (nI i, U', S') ∧ fX10_readsStep M (nI l) ax = some (0, M)) ∨ (i < sz ∧ ∃ U' S' M', lX6_read_26 n L (m + 1) (nI i) U S = lX6_read_26 n L m (nI (i + 1)) U' S' ∧ fX10_readsStep M (nI l) ax = some (1, M') ∧ RS U' S' M' (s + 1) l (i + 1) ∧ FRP M M') := by
  obtain ⟨h1, h2, h3, h4, h5, h6, h7, h8, h9, h10, h11⟩ := h
  have hs := H.2.1
  by_cases e : i = sz
  · left
    subst e
    refine ⟨U, S, r6_end H (by rw [h2]; decide), ?_⟩
    have hh : fX10_here M = some (nI 0) := by
      rw [here_s G (by omega) h5, if_neg (by omega)]
      rfl
    rw [readsStep_s (by omega) hh h5 h6 h7.2.1 h9]
    rfl
  · have his : i < sz := by omega
    have ht := (H.2.2 i his).2
    have hh : fX10_here M = some (nI (tx i)) := by
      rw [here_s G (by omega) h5, if_pos his]
    have tt := takesTag_s (U := U) (t := tx i) (by omega) h7.1 h7.2.1
    have rs := readsStep_s (ax := ax) (t := tx i) (by omega) hh h5 h6 h7.2.1 h9
    cases hv : tgv (tx i) with
    | none =>
      rw [hv] at tt rs
      exact Or.inl ⟨_, _, r6_n H his (tk_0 h2 tt (Or.inl rfl)), rs⟩
    | some v =>
      rw [hv] at tt rs
      dsimp only at tt rs
      by_cases c8 : s < 8
      · rw [if_pos c8] at tt rs
        refine Or.inr ⟨his, _, _, _, r6_y H his (tk_0 h2 tt (Or.inr rfl)), rs, ?_, rsM_frp v⟩
        have a1 := h7.add c8 (tgv_le hv) h3 (if U.2.1 = 0 then nI s else S.2.2.2.2)
        have l0 : U.2.1 = 0 ↔ l = 0 := by
          rw [h1]
          exact nI_eq (a := l) (b := 0) (by omega) (by decide)
        refine ⟨h1, rfl, ?_, fun j hj => ?_, ?_, ?_, a1, by omega, fun j hj => ?_, ?_, ?_⟩
        · show nI s = upd (M.2.1 25) l (nI s) l
          rw [pk_us]
        · show U.1 j = upd (M.2.1 25) l (nI s) j
          rw [pk_un (by omega), h4 j hj]
        · show (if l = 0 then va_up (va_up (va_up M.1 12 (nI (i + 1))) 20 (nI (s + 1))) 21 (nI s) else va_up (va_up M.1 12 (nI (i + 1))) 20 (nI (s + 1))) 12 = nI (i + 1)
          split <;> rfl
        · show (if l = 0 then va_up (va_up (va_up M.1 12 (nI (i + 1))) 20 (nI (s + 1))) 21 (nI s) else va_up (va_up M.1 12 (nI (i + 1))) 20 (nI (s + 1))) 20 = nI (s + 1)
          split <;> rfl
        · show ∃ h, h < s + 1 ∧ upd (M.2.1 25) l (nI s) j = nI h
          by_cases ej : j = l
          · subst ej
            exact ⟨s, by omega, pk_us⟩
          · obtain ⟨h, z1, z2⟩ := h10 j (by omega)
            exact ⟨h, by omega, (pk_un ej).trans z2⟩
        · show (if U.2.1 = 0 then nI s else S.2.2.2.2) = (if l = 0 then va_up (va_up (va_up M.1 12 (nI (i + 1))) 20 (nI (s + 1))) 21 (nI s) else va_up (va_up M.1 12 (nI (i + 1))) 20 (nI (s + 1))) 21
          by_cases c0 : l = 0
          · rw [if_pos (l0.mpr c0), if_pos c0]
            rfl
          · rw [if_neg (fun q => c0 (l0.mp q)), if_neg c0]
            exact (h11 (by omega)).1
        · show ∃ b, b < s + 1 ∧ (if l = 0 then va_up (va_up (va_up M.1 12 (nI (i + 1))) 20 (nI (s + 1))) 21 (nI s) else va_up (va_up M.1 12 (nI (i + 1))) 20 (nI (s + 1))) 21 = nI b
          by_cases c0 : l = 0
          · rw [if_pos c0]
            exact ⟨s, by omega, rfl⟩
          · rw [if_neg c0]
            obtain ⟨b, z1, z2⟩ := (h11 (by omega)).2
            exact ⟨b, by omega, z2⟩
      · rw [if_neg c8] at tt rs
        exact Or.inl ⟨_, _, r6_n H his (tk_0 h2 tt (Or.inl rfl)), rs⟩
/-- how a PATTERN ends, on both sides -/
def PZ (n : Nat) (L : tL) (m m' : Nat) (i : Int32) (l : Int32) (U : tU) (S : tS) (M : tM) : Prop := (∃ U' S' M' s', lX6_read_26 n L m i U S = some (-1, U', S') ∧ lX10_readsPattern_35 n m' l M = some (-4, M') ∧ FRP M M' ∧ PR S' (M'.2.1 22) (M'.2.1 23) (M'.2.1 24) s' ∧ M'.1 20 = nI s' ∧ 1 ≤ s' ∧ S'.2.2.2.2 = M'.1 21 ∧ ∃ b, b < s' ∧ M'.1 21 = nI b) ∨ (∃ p U' S' M', p ≤ 200 ∧ lX6_read_26 n L m i U S = some (nI p, U', S') ∧ lX10_readsPattern_35 n m' l M = some (nI p, M') ∧ FRP M M')
theorem PZ.step {m m1 m' m1' : Nat} {i i1 l l1 : Int32} {U1 : tU} {S1 : tS} {M1 : tM} (h : PZ n L m1 m1' i1 l1 U1 S1 M1) (e1 : lX6_read_26 n L m i U S = lX6_read_26 n L m1 i1 U1 S1) (e2 : lX10_readsPattern_35 n m' l M = lX10_readsPattern_35 n m1' l1 M1) (f : FRP M M1) : PZ n L m m' i l U S M := by
  rcases h with ⟨U', S', M', s', a1, a2, a3, a4⟩ | ⟨p, U', S', M', a0, a1, a2, a3⟩
  · exact Or.inl ⟨U', S', M', s', e1.trans a1, e2.trans a2, f.trans a3, a4⟩
  · exact Or.inr ⟨p, U', S', M', a0, e1.trans a1, e2.trans a2, f.trans a3⟩
theorem lpat (H : TL L tx sz) : ∀ m' m i U S M s l, TM M tx sz → RS U S M s l i → i ≤ sz → sz - i < m → sz - i < m' → PZ n L m m' (nI i) (nI l) U S M
  | 0, _, _, _, _, _, _, _, _, _, _, _, h => absurd h (Nat.not_lt_zero _)
  | m' + 1, m, i, U, S, M, s, l, G, h, hi, hm, hm' => by
    obtain ⟨h1, h2, h3, h4, h5, h6, h7, h8, h9, h10, h11⟩ := id h
    have hs := H.2.1
    have s8 := h7.2.1
    obtain ⟨m, rfl⟩ : ∃ m0, m = m0 + 1 := ⟨m - 1, by omega⟩
    by_cases e : i = sz
    · subst e
      have er : lX10_readsPattern_35 n (m' + 1) (nI l) M = if ¬ nI l = 0 then some (nI i, M) else some (-4, M) := by
        rw [lX10_readsPattern_35, h5, G.1, if_pos (nI_le (Nat.le_refl _) (by omega))]
      have ec : lX6_read_26 n L (m + 1) (nI i) U S = if ¬ nI l = 0 then some (nI i, U, S) else some (-1, U, S) := by
        rw [lX6_read_26]
        unfold fX1_size
        rw [H.1, if_pos (nI_le (Nat.le_refl _) (by omega)), h2, h1, if_neg (show ¬ ¬ (2 : Int32) = 2 from fun q => q rfl)]
      by_cases c0 : l = 0
      · subst c0
        rw [if_neg (show ¬ ¬ nI 0 = 0 from fun q => q rfl)] at er ec
        exact Or.inl ⟨U, S, M, s, ec, er, FRP.refl M, h7, h6, by omega, h10, h11⟩
      · rw [if_pos (nI_ne0 (by omega) (by omega))] at er ec
        exact Or.inr ⟨i, U, S, M, by omega, ec, er, FRP.refl M⟩
    have his : i < sz := by omega
    have ht := (H.2.2 i his).2
    have hh : fX10_here M = some (nI (tx i)) := by
      rw [here_s G (by omega) h5, if_pos his]
    -- the letter is ]
    by_cases t3 : tx i = 93
    · have er : lX10_readsPattern_35 n (m' + 1) (nI l) M = if ¬ nI l = 0 then lX10_readsPattern_35 n m' (nI l + (-1)) (va_up M.1 12 (nI (i + 1)), M.2.1, M.2.2) else some (nI i, M) := by
        rw [lX10_readsPattern_35, hh, t3, Option.bind_some, if_pos (show ¬ nI 93 = 91 by decide), if_neg (show ¬ ¬ nI 93 = 93 from fun q => q rfl), h5, G.1, if_neg (nI_ge his (by omega)), nI_1]
      by_cases c0 : l = 0
      · subst c0
        rw [if_neg (show ¬ ¬ nI 0 = 0 from fun q => q rfl)] at er
        have ec : fX6_closes U = some (0, U) := by
          unfold fX6_closes
          rw [h1]
          rfl
        have ec := r6_n (n := n) (m := m) (S := S) H his (by rw [t3]; exact tk_c h2 ec (Or.inl rfl))
        exact Or.inr ⟨i, U, S, M, by omega, ec, er, FRP.refl M⟩
      · obtain ⟨l, rfl⟩ : ∃ l0, l = l0 + 1 := ⟨l - 1, by omega⟩
        rw [if_pos (nI_ne0 (by omega) (by omega)), pk_m1] at er
        have ec : fX6_closes U = some (1, (U.1, nI l, U.2.2.1, U.1 l, U.2.2.2.2)) := by
          unfold fX6_closes
          rw [h1, if_pos (show 0 < nI (l + 1) from nI_lt (a := 0) (by omega) (by omega)), nI_pred, if_neg (nI_in (show l < 8 by omega) (by decide)), nI_clamp (show l < 2 ^ 31 by omega)]
        have ec := r6_y (n := n) (m := m) (S := S) H his (by rw [t3]; exact tk_c h2 ec (Or.inr rfl))
        refine (lpat H m' m (i + 1) (U.1, nI l, U.2.2.1, U.1 l, U.2.2.2.2) S (va_up M.1 12 (nI (i + 1)), M.2.1, M.2.2) s l G ⟨rfl, h2, h4 l (by omega), fun j hj => h4 j (by omega), rfl, h6, h7, by omega, fun j hj => h9 j (by omega), h10, h11⟩ (by omega) (by omega) (by omega)).step ec er ⟨fun j j12 _ _ => vu_n j12, fun _ _ => rfl⟩
    -- what comes behind an axis
    have cont : ∀ (k m0 l1 : Nat) (U1 : tU) (M1 : tM) (a : Nat), k ≤ sz → i < k → sz - k < m0 + 1 → TM M1 tx sz → TS U1 S M1 s l1 k (nI a) → FRP M M1 → lX6_read_26 n L (m + 1) (nI i) U S = lX6_read_26 n L (m0 + 1) (nI k) U1 S → lX10_readsPattern_35 n (m' + 1) (nI l) M = ((fX10_readsStep M1 (nI l1) (nI a)).bind fun y18 => (if ¬ y18.1 = 0 then lX10_readsPattern_35 n m' (nI l1) y18.2 else some (y18.2.1 12, y18.2))) → PZ n L (m + 1) (m' + 1) (nI i) (nI l) U S M := by
      intro k m0 l1 U1 M1 a hk hik hm0 G1 ts f1 e1 e2
      rcases tag_step (n := n) H G1 ts hk m0 with ⟨U', S', c1, c2⟩ | ⟨hks, U', S', M', c1, c2, c3, c4⟩
      · refine Or.inr ⟨k, U', S', M1, by omega, e1.trans c1, ?_, f1⟩
        rw [e2, c2, Option.bind_some]
        refine (if_neg (fun q => q rfl)).trans ?_
        show some (M1.1 12, M1) = _
        rw [ts.2.2.2.2.1]
      · refine (lpat H m' m0 (k + 1) U' S' M' (s + 1) l1 (G1.frp c4) c3 (by omega) (by omega) (by omega)).step (e1.trans c1) ?_ (f1.trans c4)
        rw [e2, c2, Option.bind_some]
        exact if_pos (show ¬ (1 : Int32) = 0 by decide)
    -- the letter is [
    by_cases t1 : tx i = 91
    · have eo : fX6_opens U = some (1, (upd U.1 l U.2.2.2.1, nI (l + 1), 1, U.2.2.2.1, U.2.2.2.2)) := by
        unfold fX6_opens
        rw [h1, if_pos (show nI l < 8 from nI_lt (b := 8) (by omega) (by decide)), if_neg (nI_in (show l < 8 by omega) (by decide)), nI_clamp (show l < 2 ^ 31 by omega), nI_1]
      have ec := r6_y (n := n) (m := m) (S := S) H his (by rw [t1]; exact tk_o h2 eo (Or.inr rfl))
      obtain ⟨m, rfl⟩ : ∃ m0, m = m0 + 1 := ⟨m - 1, by omega⟩
      have f1 : FRP M (va_up M.1 12 (nI (i + 1)), va_up M.2.1 25 (upd (M.2.1 25) (l + 1) (M.2.1 25 l)), M.2.2) := ⟨fun j j12 _ _ => vu_n j12, fun j hj => vu_n (by omega)⟩
      have G1 := G.frp f1
      have hh1 := here_s G1 (i := i + 1) (by omega) rfl
      have er : lX10_readsPattern_35 n (m' + 1) (nI l) M = ((fX10_here (va_up M.1 12 (nI (i + 1)), va_up M.2.1 25 (upd (M.2.1 25) (l + 1) (M.2.1 25 l)), M.2.2)).bind fun y27 => ((fX10_axisBy y27).bind fun y29 => (if ¬ y29 = (-4) then ((fX10_readsStep (va_up M.1 12 (nI (i + 1 + 1)), va_up M.2.1 25 (upd (M.2.1 25) (l + 1) (M.2.1 25 l)), M.2.2) (nI (l + 1)) y29).bind fun y32 => (if ¬ y32.1 = 0 then lX10_readsPattern_35 n m' (nI (l + 1)) y32.2 else some (y32.2.1 12, y32.2))) else some (nI (i + 1), (va_up M.1 12 (nI (i + 1)), va_up M.2.1 25 (upd (M.2.1 25) (l + 1) (M.2.1 25 l)), M.2.2))))) := by
        rw [lX10_readsPattern_35, hh, t1, Option.bind_some, if_neg (show ¬ ¬ nI 91 = 91 from fun q => q rfl), if_pos (show ¬ nI 91 = 93 by decide), h5, G.1, if_neg (nI_ge his (by omega)), if_neg (nI_in (show l < 10 by omega) (by decide)), nI_1, nI_1, nI_1, if_neg (nI_in (show l + 1 < 10 by omega) (by decide)), nI_clamp (show l < 2 ^ 31 by omega), nI_clamp (show l + 1 < 2 ^ 31 by omega)]
      by_cases e1 : i + 1 = sz
      · rw [if_neg (by omega)] at hh1
        rw [hh1, Option.bind_some] at er
        have r6 := r6_end (n := n) (m := m) (S := S) (U := (upd U.1 l U.2.2.2.1, nI (l + 1), 1, U.2.2.2.1, U.2.2.2.2)) H (show ¬ (1 : Int32) = 2 by decide)
        rw [← e1] at r6
        exact Or.inr ⟨i + 1, _, _, _, by omega, ec.trans r6, er.trans rfl, f1⟩
      · have i1s : i + 1 < sz := by omega
        have ht1 := (H.2.2 _ i1s).2
        rw [if_pos i1s] at hh1
        rw [hh1, Option.bind_some, axisBy_s _ (by omega), Option.bind_some] at er
        have ta := takesAxis_s (U := (upd U.1 l U.2.2.2.1, nI (l + 1), 1, U.2.2.2.1, U.2.2.2.2)) (t := tx (i + 1)) (by omega)
        cases ha : axv (tx (i + 1)) with
        | none =>
          rw [ha] at ta er
          exact Or.inr ⟨i + 1, _, _, _, by omega, ec.trans (r6_n H i1s (tk_1 rfl ta (Or.inl rfl))), er.trans rfl, f1⟩
        | some a =>
          rw [ha] at ta er
          have a4 := axv_lt ha
          rw [if_pos (show ¬ e4 (some a) = (-4 : Int32) from m4_ne (by omega))] at er
          have f2 : FRP M (va_up M.1 12 (nI (i + 1 + 1)), va_up M.2.1 25 (upd (M.2.1 25) (l + 1) (M.2.1 25 l)), M.2.2) := ⟨fun j j12 _ _ => vu_n j12, fun j hj => vu_n (by omega)⟩
          obtain ⟨hl, hl1, hl2⟩ := h9 l (Nat.le_refl _)
          have hx := cont (i + 1 + 1) (m - 1) (l + 1) (upd U.1 l U.2.2.2.1, nI (l + 1), 0, U.2.2.2.1, nI a) (va_up M.1 12 (nI (i + 1 + 1)), va_up M.2.1 25 (upd (M.2.1 25) (l + 1) (M.2.1 25 l)), M.2.2) a (by omega) (by omega) (by omega) (G.frp f2) ⟨rfl, rfl, ?_, fun j hj => ?_, rfl, h6, h7, by omega, by omega, fun j hj => ?_, fun _ => ⟨h10, h11⟩⟩ f2 ?_ er
          · exact hx
          · refine Or.inl ⟨by omega, ⟨hl, hl1, h3.trans hl2, ?_⟩, a, a4, rfl, rfl⟩
            show upd (M.2.1 25) (l + 1) (M.2.1 25 l) (l + 1) = nI hl
            rw [pk_us, hl2]
          · show upd U.1 l U.2.2.2.1 j = upd (M.2.1 25) (l + 1) (M.2.1 25 l) j
            rw [pk_un (show j ≠ l + 1 by omega)]
            by_cases ej : j = l
            · subst ej
              rw [pk_us, h3]
            · rw [pk_un ej, h4 j (by omega)]
          · show ∃ h, h < s ∧ upd (M.2.1 25) (l + 1) (M.2.1 25 l) j = nI h
            rw [pk_un (show j ≠ l + 1 by omega)]
            exact h9 j (by omega)
          · rw [ec, r6_y (n := n) (m := m) (S := S) H i1s (tk_1 rfl ta (Or.inr rfl)), show m - 1 + 1 = m by omega]
    -- another letter
    · have n1 : ¬ nI (tx i) = 91 := fun q => t1 ((nI_eq (a := tx i) (b := 91) (by omega) (by decide)).mp q)
      have n3 : ¬ nI (tx i) = 93 := fun q => t3 ((nI_eq (a := tx i) (b := 93) (by omega) (by decide)).mp q)
      have er : lX10_readsPattern_35 n (m' + 1) (nI l) M = (if ¬ e4 (axv (tx i)) = (-4) then ((fX10_readsStep (va_up M.1 12 (nI (i + 1)), M.2.1, M.2.2) (nI l) (e4 (axv (tx i)))).bind fun y18 => (if ¬ y18.1 = 0 then lX10_readsPattern_35 n m' (nI l) y18.2 else some (y18.2.1 12, y18.2))) else some (nI i, M)) := by
        rw [lX10_readsPattern_35, hh, Option.bind_some, if_pos n1, if_pos n3, Option.bind_some, axisBy_s _ (by omega), Option.bind_some, h5, G.1, if_neg (nI_ge his (by omega)), nI_1]
      have ta := takesAxis_s (U := U) (t := tx i) (by omega)
      cases ha : axv (tx i) with
      | none =>
        rw [ha] at ta er
        exact Or.inr ⟨i, _, _, _, by omega, r6_n H his (tk_2 h2 n1 n3 ta (Or.inl rfl)), er.trans rfl, FRP.refl M⟩
      | some a =>
        rw [ha] at ta er
        have a4 := axv_lt ha
        rw [if_pos (show ¬ e4 (some a) = (-4 : Int32) from m4_ne (by omega))] at er
        have f2 : FRP M (va_up M.1 12 (nI (i + 1)), M.2.1, M.2.2) := ⟨fun j j12 _ _ => vu_n j12, fun j hj => rfl⟩
        obtain ⟨hl, hl1, hl2⟩ := h9 l (Nat.le_refl _)
        obtain ⟨m, rfl⟩ : ∃ m0, m = m0 + 1 := ⟨m - 1, by omega⟩
        refine cont (i + 1) m l (U.1, U.2.1, 0, U.2.2.2.1, nI a) (va_up M.1 12 (nI (i + 1)), M.2.1, M.2.2) a (by omega) (by omega) (by omega) G ⟨h1, rfl, Or.inl ⟨by omega, ⟨hl, hl1, h3.trans hl2, hl2⟩, a, a4, rfl, rfl⟩, h4, rfl, h6, h7, by omega, by omega, fun j hj => h9 j (by omega), fun _ => ⟨h10, h11⟩⟩ f2 ?_ er
        exact r6_y H his (tk_2 h2 n1 n3 ta (Or.inr rfl))
end PAT2
