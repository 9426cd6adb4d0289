/-! the greatest of some numbers, by either order -/
def MX (p : Nat → Prop) (f : Nat → Nat) (a r : Nat) : Prop := a ≤ r ∧ (∀ x, p x → f x ≤ r) ∧ (r = a ∨ ∃ x, p x ∧ f x = r)
theorem MX.one {p q : Nat → Prop} {f : Nat → Nat} {a r s : Nat} (h : MX p f a r) (g : MX q f a s) (e : ∀ x, p x ↔ q x) : r = s := by
  obtain ⟨h1, h2, h3⟩ := h
  obtain ⟨g1, g2, g3⟩ := g
  rcases h3 with h3 | ⟨x, hx, h3⟩
  · rcases g3 with g3 | ⟨y, hy, g3⟩
    · omega
    · have := h2 y ((e y).mpr hy)
      omega
  · have := g2 x ((e x).mp hx)
    rcases g3 with g3 | ⟨y, hy, g3⟩
    · omega
    · have := h2 y ((e y).mpr hy)
      omega
theorem MX.nil {p : Nat → Prop} {f : Nat → Nat} {a : Nat} (h : ∀ x, ¬ p x) : MX p f a a := ⟨Nat.le_refl _, fun x hx => absurd hx (h x), Or.inl rfl⟩
theorem MX.cons {p q : Nat → Prop} {f : Nat → Nat} {a r y : Nat} (h : MX q f (if a < f y then f y else a) r) (e : ∀ x, p x ↔ x = y ∨ q x) : MX p f a r := by
  obtain ⟨h1, h2, h3⟩ := h
  refine ⟨?_, fun x hx => ?_, ?_⟩
  · split at h1 <;> omega
  · rcases (e x).mp hx with rfl | hq
    · split at h1 <;> omega
    · exact h2 x hq
  · rcases h3 with h3 | ⟨x, hx, h3⟩
    · split at h3
      · exact Or.inr ⟨y, (e y).mpr (Or.inl rfl), h3.symm⟩
      · exact Or.inl h3
    · exact Or.inr ⟨x, (e x).mpr (Or.inr hx), h3⟩
theorem MX.skip {p q : Nat → Prop} {f : Nat → Nat} {a r : Nat} (h : MX q f a r) (e : ∀ x, p x ↔ q x) : MX p f a r := ⟨h.1, fun x hx => h.2.1 x ((e x).mp hx), h.2.2.imp id (fun ⟨x, hx, hr⟩ => ⟨x, (e x).mpr hx, hr⟩)⟩
theorem nI_max {a b : Nat} (ha : a < 2147483648) (hb : b < 2147483648) : (if nI a < nI b then nI b else nI a) = nI (if a < b then b else a) := by
  by_cases q : a < b
  · rw [if_pos (nI_lt q hb), if_pos q]
  · rw [if_neg (nI_nlt (by omega) ha), if_neg q]
section MOST
variable {T : tT} {O : tO} {M : tM} {th : Nat → Bool} {pa ky : Nat → Nat} {c kd n : Nat}
theorem L_ge {k : Nat} {x : Nat} {L : List Nat} (hx : L[k]? = some x) (z : Nat) : (∃ j, k ≤ j ∧ L[j]? = some z) ↔ z = x ∨ ∃ j, k + 1 ≤ j ∧ L[j]? = some z := by
  constructor
  · rintro ⟨j, hj, h⟩
    rcases Nat.eq_or_lt_of_le hj with e | e
    · subst e
      rw [hx] at h
      cases h
      exact Or.inl rfl
    · exact Or.inr ⟨j, e, h⟩
  · rintro (rfl | ⟨j, hj, h⟩)
    · exact ⟨k, Nat.le_refl _, hx⟩
    · exact ⟨j, by omega, h⟩
theorem lml (H : TI T O M th pa ky c kd) : ∀ m k a, k ≤ (pre th pa ky 0).length → (pre th pa ky 0).length - k < m → a ≤ 24 → ∃ r, lX3_mostLevels_4 n O m (nI a) (nI k) = some (nI r) ∧ MX (fun x => ∃ j, k ≤ j ∧ (pre th pa ky 0)[j]? = some x) (dp pa) a r
  | 0, _, _, _, h, _ => absurd h (Nat.not_lt_zero _)
  | m + 1, k, a, hk, hm, ha => by
    obtain ⟨R, R2, w, h0, htag, hc, hkd, hO⟩ := id H
    have hl := L_len w h0
    rw [lX3_mostLevels_4, hO.1]
    by_cases e : k = (pre th pa ky 0).length
    · rw [if_pos (nI_le (by omega) (by omega))]
      refine ⟨a, rfl, MX.nil (fun x => ?_)⟩
      rintro ⟨j, hj, q⟩
      have := (List.getElem?_eq_some_iff.mp q).1
      omega
    · have hx := List.getElem?_eq_getElem (show k < (pre th pa ky 0).length by omega)
      have k24 : k < 24 := by omega
      have tx := L_th w h0 hx
      have := dp_le w _ tx
      have := w.lt tx
      rw [if_neg (nI_ge (by omega) (by omega)), if_neg (show ¬ (24 : Int32) ≤ nI k from nI_ge (b := 24) k24 (by decide)), if_neg (vi_nI k24), nI_c k24, (hO.2 k _ hx).1.2.2.2.2, nI_max (by omega) (by omega), nI_1]
      obtain ⟨r, h1, h2⟩ := lml H m (k + 1) (if a < dp pa (pre th pa ky 0)[k] then dp pa (pre th pa ky 0)[k] else a) (by omega) (by omega) (by split <;> omega)
      exact ⟨r, h1, h2.cons (L_ge hx)⟩
theorem t_ge {k : Nat} (z : Nat) : (k ≤ z ∧ th z = true) ↔ (z = k ∧ th k = true) ∨ (k + 1 ≤ z ∧ th z = true) := by
  constructor
  · rintro ⟨h1, h2⟩
    rcases Nat.eq_or_lt_of_le h1 with e | e
    · subst e
      exact Or.inl ⟨rfl, h2⟩
    · exact Or.inr ⟨e, h2⟩
  · rintro (⟨rfl, h⟩ | ⟨h1, h2⟩)
    · exact ⟨Nat.le_refl _, h⟩
    · exact ⟨by omega, h2⟩
theorem lmk (H : TI T O M th pa ky c kd) (hn : 100 ≤ n) : ∀ m k a, k ≤ 24 → 24 - k < m → a ≤ 24 → ∃ r, lX10_mostKeys_4 n M m (nI a) (nI k) = some (nI r) ∧ MX (fun x => k ≤ x ∧ th x = true) (dp pa) a r
  | 0, _, _, _, h, _ => absurd h (Nat.not_lt_zero _)
  | m + 1, k, a, hk, hm, ha => by
    obtain ⟨R, R2, w, h0, htag, hc, hkd, hO⟩ := id H
    rw [lX10_mostKeys_4]
    by_cases e : k = 24
    · subst e
      rw [if_pos (show (24 : Int32) ≤ nI 24 by decide)]
      exact ⟨a, rfl, MX.nil (fun x q => by have := w.lt q.2; omega)⟩
    have k24 : k < 24 := by omega
    rw [if_neg (show ¬ (24 : Int32) ≤ nI k from nI_ge (b := 24) k24 (by decide)), X10_has R2 k24, nI_1]
    by_cases tk : th k = true
    · have := dp_le w _ tk
      rw [if_pos tk, if_neg (show ¬ (1 : Int32) = 0 by decide), X10_deepOf w R2 hn tk, Option.bind_some]
      obtain ⟨r, h1, h2⟩ := lmk H hn m (k + 1) (if a < dp pa k then dp pa k else a) (by omega) (by omega) (by split <;> omega)
      refine ⟨r, ?_, h2.cons (fun z => by rw [t_ge z]; simp only [tk, and_true])⟩
      by_cases q : a < dp pa k
      · rw [if_pos q] at h1
        rw [if_neg (nI_ge q (by omega)), h1]
      · rw [if_neg q] at h1
        rw [if_pos (nI_le (by omega) (by omega)), h1]
    · rw [if_neg tk, if_pos (show (0 : Int32) = 0 from rfl), if_pos (nI_pos' (by omega))]
      obtain ⟨r, h1, h2⟩ := lmk H hn m (k + 1) a (by omega) (by omega) ha
      exact ⟨r, h1, h2.skip (fun z => by rw [t_ge z]; simp only [tk, Bool.false_eq_true, and_false, false_or])⟩
theorem mostLevels_s (H : TI T O M th pa ky c kd) (hn : 100 ≤ n) : ∃ r, fX3_mostLevels n O = some r ∧ fX10_mostKeys n M = some r := by
  obtain ⟨R, R2, w, h0, htag, hc, hkd, hO⟩ := id H
  have hl := L_len w h0
  obtain ⟨r, h1, h2⟩ := lml (n := n) H n 0 0 (by omega) (by omega) (by omega)
  obtain ⟨s, g1, g2⟩ := lmk H hn n 0 0 (by omega) (by omega) (by omega)
  have : r = s := h2.one g2 (fun x => by
    constructor
    · rintro ⟨j, _, h⟩
      exact ⟨Nat.zero_le _, L_th w h0 h⟩
    · rintro ⟨_, h⟩
      exact ⟨_, Nat.zero_le _, get_rk w h0 h⟩)
  subst this
  exact ⟨_, h1, g1⟩
theorem lmf (H : TI T O M th pa ky c kd) (hn : 100 ≤ n) (X : tX) : ∀ m k a, 1 ≤ k → k ≤ (pre th pa ky 0).length → (pre th pa ky 0).length - k < m → a ≤ 24 → ∃ r, lX9_mostFigures_4 n X T O m (nI a) (nI k) = some (nI r) ∧ MX (fun x => ∃ j, k ≤ j ∧ (pre th pa ky 0)[j]? = some x) (fun x => lenN 9 (ky x)) a r
  | 0, _, _, _, _, h, _ => absurd h (Nat.not_lt_zero _)
  | m + 1, k, a, hk1, hk, hm, ha => by
    obtain ⟨R, R2, w, h0, htag, hc, hkd, hO⟩ := id H
    have hl := L_len w h0
    rw [lX9_mostFigures_4]
    unfold fX3_size
    rw [hO.1]
    by_cases e : k = (pre th pa ky 0).length
    · rw [if_pos (nI_le (by omega) (by omega))]
      refine ⟨a, rfl, MX.nil (fun x => ?_)⟩
      rintro ⟨j, hj, q⟩
      have := (List.getElem?_eq_some_iff.mp q).1
      omega
    · have hx := List.getElem?_eq_getElem (show k < (pre th pa ky 0).length by omega)
      have k24 : k < 24 := by omega
      have tx := L_th w h0 hx
      have x24 := w.lt tx
      have x1 : 1 ≤ (pre th pa ky 0)[k] := by
        rcases Nat.eq_zero_or_pos (pre th pa ky 0)[k] with z | z
        · have r1 := rk_get w h0 hx
          rw [z] at r1
          have r2 := rk_get w h0 (L_0 w h0)
          omega
        · exact z
      have hky := w.1 _ x1 tx
      have hln := lenN_in 9 (ky (pre th pa ky 0)[k]) (by decide)
      rw [if_neg (nI_ge (by omega) (by omega)), nodeAt_s hO.1 (by omega) hl, Option.bind_some, (hO.2 k _ hx).1.1, X7_spot R x1 x24 tx, X0_length hn (by omega), Option.bind_some, nI_max (by omega) (by omega), nI_1]
      obtain ⟨r, h1, h2⟩ := lmf H hn X m (k + 1) (if a < lenN 9 (ky (pre th pa ky 0)[k]) then lenN 9 (ky (pre th pa ky 0)[k]) else a) (by omega) (by omega) (by omega) (by split <;> omega)
      exact ⟨r, h1, MX.cons (y := (pre th pa ky 0)[k]) h2 (L_ge hx)⟩
theorem lmf10 (H : TI T O M th pa ky c kd) (hn : 100 ≤ n) : ∀ m k a, 1 ≤ k → k ≤ 24 → 24 - k < m → a ≤ 24 → ∃ r, lX10_mostFigures_4 n M m (nI a) (nI k) = some (nI r) ∧ MX (fun x => k ≤ x ∧ th x = true) (fun x => lenN 9 (ky x)) a r
  | 0, _, _, _, _, h, _ => absurd h (Nat.not_lt_zero _)
  | m + 1, k, a, hk1, hk, hm, ha => by
    obtain ⟨R, R2, w, h0, htag, hc, hkd, hO⟩ := id H
    rw [lX10_mostFigures_4]
    by_cases e : k = 24
    · subst e
      rw [if_pos (show (24 : Int32) ≤ nI 24 by decide)]
      exact ⟨a, rfl, MX.nil (fun x q => by have := w.lt q.2; omega)⟩
    have k24 : k < 24 := by omega
    rw [if_neg (show ¬ (24 : Int32) ≤ nI k from nI_ge (b := 24) k24 (by decide)), X10_has R2 k24, nI_1]
    by_cases tk : th k = true
    · have hky := R2.2.2.1 _ hk1 tk
      have hln := lenN_in 9 (ky k) (by decide)
      rw [if_pos tk, if_neg (show ¬ (1 : Int32) = 0 by decide), if_neg (vi_nI k24), nI_c k24, hky.2.1, X10_figuresOf hn hky.2.2.2.1 hky.2.2.2.2, Option.bind_some]
      obtain ⟨r, h1, h2⟩ := lmf10 H hn m (k + 1) (if a < lenN 9 (ky k) then lenN 9 (ky k) else a) (by omega) (by omega) (by omega) (by split <;> omega)
      refine ⟨r, ?_, MX.cons (y := k) h2 (fun z => by rw [t_ge z]; simp only [tk, and_true])⟩
      by_cases q : a < lenN 9 (ky k)
      · rw [if_pos q] at h1
        rw [if_neg (nI_ge q (by omega)), h1]
      · rw [if_neg q] at h1
        rw [if_pos (nI_le (by omega) (by omega)), h1]
    · rw [if_neg tk, if_pos (show (0 : Int32) = 0 from rfl), if_pos (nI_pos' (by omega))]
      obtain ⟨r, h1, h2⟩ := lmf10 H hn m (k + 1) a (by omega) (by omega) (by omega) ha
      exact ⟨r, h1, h2.skip (fun z => by rw [t_ge z]; simp only [tk, Bool.false_eq_true, and_false, false_or])⟩
theorem mostFigures_s (H : TI T O M th pa ky c kd) (hn : 100 ≤ n) (X : tX) : ∃ r, fX9_mostFigures n X T O = some r ∧ fX10_mostFigures n M = some r := by
  obtain ⟨R, R2, w, h0, htag, hc, hkd, hO⟩ := id H
  have hl := L_len w h0
  have hr := rk_lt w h0 h0
  obtain ⟨r, h1, h2⟩ := lmf H hn X n 1 0 (by omega) (by omega) (by omega) (by omega)
  obtain ⟨s, g1, g2⟩ := lmf10 H hn n 1 0 (by omega) (by omega) (by omega) (by omega)
  have : r = s := h2.one g2 (fun x => by
    have r2 := rk_get w h0 (L_0 w h0)
    constructor
    · rintro ⟨j, hj, h⟩
      refine ⟨?_, L_th w h0 h⟩
      rcases Nat.eq_zero_or_pos x with z | z
      · subst z
        have := rk_get w h0 h
        omega
      · exact z
    · rintro ⟨x1, h⟩
      have g := get_rk w h0 h
      refine ⟨_, ?_, g⟩
      rcases Nat.eq_zero_or_pos (rk th pa ky x) with z | z
      · rw [z, L_0 w h0] at g
        cases g
        omega
      · exact z)
  subst this
  exact ⟨_, h1, g1⟩
/-- how many there are -/
theorem pre_all (w : wfT th pa ky) (h0 : th 0 = true) : (pre th pa ky 0).length = cnt th 24 := by
  have nd : (pre th pa ky 0).Nodup := pre_nodup w 24 0 h0
  refine cnt_list nd (fun x => ?_)
  rw [pre_mem w h0]
  exact ⟨fun h => ⟨w.lt h.1, h.1⟩, fun h => ⟨h.2, ov_root w x h.2⟩⟩
theorem many_s (H : TI T O M th pa ky c kd) (hn : 100 ≤ n) : fX10_many n (M.1 0) = some (fX3_size O) := by
  obtain ⟨R, R2, w, h0, htag, hc, hkd, hO⟩ := id H
  unfold fX10_many fX3_size
  rw [X10_bits hn, hO.1, pre_all w h0, cnt_cong (fun x hx => (R2.1 x hx).symm)]
  rfl
end MOST
