/-! AXES: who stands to whom, by numbers and by ranks -/
section AXES
variable {th : Nat → Bool} {pa ky : Nat → Nat} {S : tS} {O : tO} {M : tM} {n s : Nat}
theorem ch_end (w : wfT th pa ky) (h0 : th 0 = true) : ∀ (L : List Nat) (r : Nat) (x y : Option Nat), (pre th pa ky 0)[r]? = x → Ch th pa ky x L y → (pre th pa ky 0)[r + L.length]? = y
  | [], r, x, y, h1, h2 => h1.trans h2
  | a :: L, r, x, y, h1, h2 => by
    have h3 : x = some a := h2.1
    rw [h3] at h1
    have := ch_end w h0 L (r + 1) _ y (L_next w h0 h1) h2.2
    rw [List.length_cons, show r + (L.length + 1) = r + 1 + L.length by omega]
    exact this
theorem rk_sib (w : wfT th pa ky) (h0 : th 0 = true) {u v : Nat} (u1 : 1 ≤ u) (tu : th u = true) (h : nk th pa ky (pa u) (ky u) = some v) : rk th pa ky u < rk th pa ky v := by
  have e := ch_end w h0 (pre th pa ky u) (rk th pa ky u) _ _ (get_rk w h0 tu) (pre_walk w 24 u tu (by omega))
  rw [up_step w u1 tu, h] at e
  have := rk_get w h0 e
  have hl : 1 ≤ (pre th pa ky u).length := by
    rw [pre_eq w tu, List.length_cons]
    omega
  omega
theorem rk_pa (w : wfT th pa ky) (h0 : th 0 = true) {v : Nat} (v1 : 1 ≤ v) (tv : th v = true) : rk th pa ky (pa v) < rk th pa ky v := by
  have h := w.1 v v1 tv
  have o : ov pa (pa v) v = true := by
    rw [ov_step w v1 tv (by omega)]
    exact ov_self _
  have sp := (rk_span w h0 h.2.1 tv).mp o
  have ne : rk th pa ky (pa v) ≠ rk th pa ky v := fun e => by
    have := rk_inj w h0 h.2.1 tv e
    omega
  omega
theorem rkz (w : wfT th pa ky) (h0 : th 0 = true) : rk th pa ky 0 = 0 := rk_get w h0 (L_0 w h0)
theorem rkp (w : wfT th pa ky) (h0 : th 0 = true) {v : Nat} (v1 : 1 ≤ v) (tv : th v = true) : 1 ≤ rk th pa ky v := by
  have := rk_pa w h0 v1 tv
  omega
/-- what the pattern and the order of an object hold is in order -/
theorem VV_of (w : wfT th pa ky) (h0 : th 0 = true) (hO : OR O th pa ky) {mt mh ma : Nat → Int32} (hS : PR S mt mh ma s) : VV S O s (pre th pa ky 0).length := by
  refine ⟨hS.1, hS.2.1, hO.1, L_len w h0, fun q q1 q2 => ?_, fun k hk => ?_⟩
  · obtain ⟨⟨h, a1, a2, _⟩, _⟩ := (hS.2.2 q q2).2.1 q1
    exact ⟨h, a1, a2⟩
  · have hx := List.getElem?_eq_getElem hk
    have tx := L_th w h0 hx
    have rx := rk_get w h0 hx
    have p := (hO.2 k _ hx).1
    refine ⟨⟨_, w.lt tx, p.1⟩, ?_, ?_⟩
    · rcases Nat.eq_zero_or_pos k with e | e
      · exact Or.inl (p.2.2.1 e).1
      · right
        have x1 : 1 ≤ (pre th pa ky 0)[k] := by
          rcases Nat.eq_zero_or_pos (pre th pa ky 0)[k] with z | z
          · rw [z, rkz w h0] at rx
            omega
          · exact z
        exact ⟨_, Nat.lt_of_lt_of_eq (rk_pa w h0 x1 tx) rx, (p.2.2.2.1 e).1⟩
    · rcases Nat.eq_zero_or_pos k with e | e
      · exact Or.inl (p.2.2.1 e).2
      · rcases (p.2.2.2.1 e).2 with ⟨e1, _⟩ | ⟨u, u1, tu, pu, nu, e1⟩
        · exact Or.inl e1
        · right
          rw [← pu] at nu
          exact ⟨_, Nat.lt_of_lt_of_eq (rk_sib w h0 u1 tu nu) rx, e1⟩
/-- the relation of an axis, by numbers -/
def sdN (th : Nat → Bool) (pa ky : Nat → Nat) (a v x : Nat) : Bool := if a = 0 then decide (1 ≤ x ∧ pa x = v) else if a = 1 then decide (v ≠ x) && ov pa v x else decide (1 ≤ v ∧ 1 ≤ x ∧ pa v = pa x ∧ ky v < ky x) && (decide (a ≠ 2) || decide (nk th pa ky (pa v) (ky v) = some x))
theorem stands_s (w : wfT th pa ky) (R : RM M th pa ky) (hn : 100 ≤ n) {a v x : Nat} (ha : a < 4) (tv : th v = true) (tx : th x = true) : fX10_stands n M (nI a) (nI v) (nI x) = some (if sdN th pa ky a v x = true then 1 else 0) := by
  have v24 := w.lt tv
  have x24 := w.lt tx
  have px := pv_M R tx
  have pp := pv_M R tv
  unfold fX10_stands sdN
  by_cases a0 : a = 0
  · subst a0
    rw [if_neg (show ¬ ¬ nI 0 = 0 from fun z => z rfl), if_neg (vi_nI x24), nI_c x24, px, if_pos rfl]
    unfold pv
    by_cases x0 : x = 0
    · rw [if_pos x0, if_pos (show ¬ (-4 : Int32) = nI v from fun z => m4_ne (by omega) z.symm), if_neg (show ¬ decide (1 ≤ x ∧ pa x = v) = true from fun z => by have := of_decide_eq_true z; omega)]
    · rw [if_neg x0]
      have := w.1 x (by omega) tx
      by_cases e : pa x = v
      · rw [if_neg (show ¬ ¬ nI (pa x) = nI v from fun z => z (by rw [e])), if_pos (decide_eq_true ⟨by omega, e⟩)]
      · rw [if_pos (show ¬ nI (pa x) = nI v from fun z => e ((nI_eq (by omega) (by omega)).mp z)), if_neg (show ¬ decide (1 ≤ x ∧ pa x = v) = true from fun z => e (of_decide_eq_true z).2)]
  · rw [if_pos (show ¬ nI a = 0 from nI_ne0 (by omega) (by omega)), if_neg a0]
    by_cases a1 : a = 1
    · subst a1
      rw [if_neg (show ¬ ¬ nI 1 = 1 from fun z => z rfl), if_pos rfl, X10_isOver w R hn v24 tx]
      by_cases e : v = x
      · rw [if_pos (show nI v = nI x by rw [e]), decide_eq_false (show ¬ v ≠ x from fun z => z e)]
        rfl
      · rw [if_neg (show ¬ nI v = nI x from fun z => e ((nI_eq (by omega) (by omega)).mp z)), decide_eq_true e, Bool.true_and, Option.bind_some]
        by_cases o : ov pa v x = true
        · rw [if_pos o]
          rfl
        · rw [if_neg o]
          rfl
    · rw [if_pos (show ¬ nI a = 1 from fun z => a1 ((nI_eq (a := a) (b := 1) (by omega) (by decide)).mp z)), if_neg a1]
      have zz : (if ¬ nI a = 2 then some (0 : Int32) else some 0) = some 0 := by split <;> rfl
      rw [zz]
      by_cases v0 : v = 0
      · rw [if_pos (show nI v = 0 by rw [v0]; rfl), decide_eq_false (show ¬ (1 ≤ v ∧ 1 ≤ x ∧ pa v = pa x ∧ ky v < ky x) by omega)]
        rfl
      by_cases x0 : x = 0
      · rw [if_neg (nI_ne0 (by omega) (by omega)), if_pos (show nI x = 0 by rw [x0]; rfl), decide_eq_false (show ¬ (1 ≤ v ∧ 1 ≤ x ∧ pa v = pa x ∧ ky v < ky x) by omega)]
        rfl
      have wv := w.1 v (by omega) tv
      have wx := w.1 x (by omega) tx
      rw [if_neg (nI_ne0 (by omega) (by omega)), if_neg (nI_ne0 (by omega) (by omega)), if_neg (vi_nI v24), if_neg (vi_nI x24), nI_c v24, nI_c x24, px, pp]
      unfold pv
      rw [if_neg v0, if_neg x0, (R.2.2.1 v (by omega) tv).2.1, (R.2.2.1 x (by omega) tx).2.1]
      by_cases pe : pa v = pa x
      · rw [if_neg (show ¬ ¬ nI (pa v) = nI (pa x) from fun z => z (by rw [pe]))]
        by_cases kl : ky v < ky x
        · rw [if_neg (nI_ge kl (by omega)), decide_eq_true (show 1 ≤ v ∧ 1 ≤ x ∧ pa v = pa x ∧ ky v < ky x from ⟨by omega, by omega, pe, kl⟩), Bool.true_and]
          by_cases a2 : a = 2
          · subst a2
            rw [if_neg (show ¬ ¬ nI 2 = 2 from fun z => z rfl), X10_childBehind R hn (by omega) (by omega), Option.bind_some, decide_eq_false (show ¬ (2 ≠ 2) by omega), Bool.false_or]
            cases hk : nk th pa ky (pa v) (ky v) with
            | none =>
              rw [if_pos (show ¬ e4 none = nI x from fun z => m4_ne (by omega) z.symm), if_neg (show ¬ decide ((none : Option Nat) = some x) = true by simp)]
            | some y =>
              have hy := (nk_spec hk).1
              by_cases e : y = x
              · subst e
                rw [if_neg (show ¬ ¬ e4 (some y) = nI y from fun z => z rfl), if_pos (decide_eq_true rfl)]
              · rw [if_pos (show ¬ e4 (some y) = nI x from fun z => e ((nI_eq (by omega) (by omega)).mp z)), if_neg (fun z => e (Option.some.inj (of_decide_eq_true z)))]
          · rw [if_pos (show ¬ nI a = 2 from fun z => a2 ((nI_eq (a := a) (b := 2) (by omega) (by decide)).mp z)), decide_eq_true (show a ≠ 2 from a2), Bool.true_or]
            rfl
        · rw [if_pos (nI_le (by omega) (by omega)), decide_eq_false (show ¬ (1 ≤ v ∧ 1 ≤ x ∧ pa v = pa x ∧ ky v < ky x) from fun z => kl z.2.2.2)]
          rfl
      · rw [if_pos (show ¬ nI (pa v) = nI (pa x) from fun z => pe ((nI_eq (by omega) (by omega)).mp z)), decide_eq_false (show ¬ (1 ≤ v ∧ 1 ≤ x ∧ pa v = pa x ∧ ky v < ky x) from fun z => pe z.2.2.1)]
        rfl
/-! the sources, by ranks -/
theorem sr_par (w : wfT th pa ky) (h0 : th 0 = true) (hO : OR O th pa ky) {q : Nat} (hx : S.2.2.1 q = 0 ∨ S.2.2.1 q = 1) {x : Nat} (tx : th x = true) : srC S O (pre th pa ky 0).length q (rk th pa ky x) = if x = 0 then none else some (rk th pa ky (pa x)) := by
  have p := (hO.2 _ x (get_rk w h0 tx)).1
  have hl := rk_lt w h0 tx
  have l24 := L_len w h0
  unfold srC sxC
  rw [if_pos hx]
  by_cases x0 : x = 0
  · subst x0
    rw [if_pos rfl, rkz w h0, if_neg (by omega)]
  · have r := rk_pa w h0 (show 1 ≤ x by omega) tx
    rw [if_neg x0, (p.2.2.2.1 (by omega)).1, nI_clamp (show rk th pa ky (pa x) < 2 ^ 31 by omega), if_pos ⟨hl, nI_pos (by omega), r⟩]
theorem sr_eld (w : wfT th pa ky) (h0 : th 0 = true) (hO : OR O th pa ky) {q : Nat} (hx : ¬ (S.2.2.1 q = 0 ∨ S.2.2.1 q = 1)) {x : Nat} (tx : th x = true) : (srC S O (pre th pa ky 0).length q (rk th pa ky x) = none ∧ (x = 0 ∨ nk th pa ky (pa x) 0 = some x)) ∨ ∃ u, srC S O (pre th pa ky 0).length q (rk th pa ky x) = some (rk th pa ky u) ∧ 1 ≤ x ∧ 1 ≤ u ∧ th u = true ∧ pa u = pa x ∧ nk th pa ky (pa x) (ky u) = some x := by
  have p := (hO.2 _ x (get_rk w h0 tx)).1
  have hl := rk_lt w h0 tx
  have l24 := L_len w h0
  unfold srC sxC
  rw [if_neg hx]
  by_cases x0 : x = 0
  · subst x0
    left
    rw [rkz w h0, if_neg (by omega)]
    exact ⟨rfl, Or.inl rfl⟩
  · have r := rkp w h0 (show 1 ≤ x by omega) tx
    rcases (p.2.2.2.1 r).2 with ⟨e1, e2⟩ | ⟨u, u1, tu, pu, nu, e1⟩
    · left
      rw [e1, if_neg (fun z => z.2.1 (by decide))]
      exact ⟨rfl, Or.inr e2⟩
    · right
      have nu' := nu
      rw [← pu] at nu'
      have r2 := rk_sib w h0 u1 tu nu'
      refine ⟨u, ?_, by omega, u1, tu, pu, nu⟩
      rw [e1, nI_clamp (show rk th pa ky u < 2 ^ 31 by omega), if_pos ⟨hl, nI_pos (by omega), r2⟩]
theorem sd_cl (w : wfT th pa ky) (h0 : th 0 = true) (hO : OR O th pa ky) {q a : Nat} (hx : S.2.2.1 q = nI a) (a4 : a < 4) {v : Nat} (tv : th v = true) : ∀ x, th x = true → sdN th pa ky a v x = cl (srC S O (pre th pa ky 0).length q) (rcC S q) (rk th pa ky v) (rk th pa ky x) := fun x => by
  have inj : ∀ y, th y = true → decide (rk th pa ky y = rk th pa ky v) = decide (y = v) := fun y ty => by
    by_cases e : y = v
    · rw [decide_eq_true e, e, decide_eq_true rfl]
    · rw [decide_eq_false e, decide_eq_false (fun z => e (rk_inj w h0 ty tv z))]
  have i0 : S.2.2.1 q = 0 ↔ a = 0 := by
    rw [hx]
    exact nI_eq (a := a) (b := 0) (by omega) (by decide)
  have i1 : S.2.2.1 q = 1 ↔ a = 1 := by
    rw [hx]
    exact nI_eq (a := a) (b := 1) (by omega) (by decide)
  have i3 : S.2.2.1 q = 3 ↔ a = 3 := by
    rw [hx]
    exact nI_eq (a := a) (b := 3) (by omega) (by decide)
  have hrc : rcC S q = decide (a = 1 ∨ a = 3) := by
    unfold rcC
    exact decide_eq_decide.mpr (or_congr i1 i3)
  rw [hrc]
  rcases (show a = 0 ∨ a = 1 ∨ a = 2 ∨ a = 3 by omega) with e | e | e | e
  · subst e
    intro tx
    have hs := sr_par w h0 hO (Or.inl (i0.mpr rfl)) tx
    unfold sdN
    rw [if_pos rfl]
    by_cases x0 : x = 0
    · rw [if_pos x0] at hs
      rw [cl_none hs, decide_eq_false (by omega)]
    · rw [if_neg x0] at hs
      have wx := w.1 x (by omega) tx
      rw [cl_some srC_dec hs, inj _ wx.2.1, decide_eq_false (show ¬ ((0 : Nat) = 1 ∨ (0 : Nat) = 3) by omega), Bool.false_and, Bool.or_false]
      by_cases e : pa x = v
      · rw [decide_eq_true e, decide_eq_true ⟨by omega, e⟩]
      · rw [decide_eq_false e, decide_eq_false (fun z => e z.2)]
  · subst e
    induction x using Nat.strongRecOn with
    | ind x ih =>
      intro tx
      have hs := sr_par w h0 hO (Or.inr (i1.mpr rfl)) tx
      unfold sdN
      rw [if_neg (by decide), if_pos rfl]
      by_cases x0 : x = 0
      · rw [if_pos x0] at hs
        rw [cl_none hs, x0]
        by_cases v0 : v = 0
        · rw [v0]
          rfl
        · rw [ov_0 v0, Bool.and_false]
      · rw [if_neg x0] at hs
        have wx := w.1 x (by omega) tx
        have := ih (pa x) (by omega) wx.2.1
        unfold sdN at this
        rw [if_neg (by decide), if_pos rfl] at this
        rw [cl_some srC_dec hs, inj _ wx.2.1, decide_eq_true (show (1 : Nat) = 1 ∨ (1 : Nat) = 3 by omega), Bool.true_and]
        rw [decide_eq_true (show (1 : Nat) = 1 ∨ (1 : Nat) = 3 by omega)] at this
        rw [← this]
        by_cases e : v = x
        · subst e
          rw [decide_eq_false (show ¬ v ≠ v from fun z => z rfl), Bool.false_and, decide_eq_false (show ¬ pa v = v by omega), Bool.false_or]
          cases ho : ov pa v (pa v) with
          | false => rw [Bool.and_false]
          | true =>
            have := ov_le w _ wx.2.1 ho
            omega
        · rw [decide_eq_true e, Bool.true_and, ov_step w (by omega) tx (fun z => e z.symm)]
          by_cases e2 : pa x = v
          · rw [decide_eq_true e2, e2, ov_self]
            rfl
          · rw [decide_eq_false e2, Bool.false_or, decide_eq_true (show v ≠ pa x from fun z => e2 z.symm), Bool.true_and]
  · subst e
    intro tx
    have ne : ¬ (S.2.2.1 q = 0 ∨ S.2.2.1 q = 1) := fun z => z.elim (fun y => absurd (i0.mp y) (by decide)) (fun y => absurd (i1.mp y) (by decide))
    unfold sdN
    rw [if_neg (by decide), if_neg (by decide), decide_eq_false (show ¬ (2 ≠ 2) by omega), Bool.false_or]
    rcases sr_eld w h0 hO ne tx with ⟨hs, hz⟩ | ⟨u, hs, x1, u1, tu, pu, nu⟩
    · rw [cl_none hs]
      rcases hz with hz | hz
      · rw [decide_eq_false (by omega), Bool.false_and]
      · by_cases c : 1 ≤ v ∧ 1 ≤ x ∧ pa v = pa x ∧ ky v < ky x
        · have := (nk_spec hz).2.2 v (w.lt tv) ⟨c.1, tv, c.2.2.1, (w.1 v c.1 tv).2.2.1⟩
          omega
        · rw [decide_eq_false c, Bool.false_and]
    · rw [cl_some srC_dec hs, inj _ tu, decide_eq_false (show ¬ ((2 : Nat) = 1 ∨ (2 : Nat) = 3) by omega), Bool.false_and, Bool.or_false]
      have sx := nk_spec nu
      by_cases e : u = v
      · subst e
        rw [decide_eq_true rfl, pu, nu, decide_eq_true (show 1 ≤ u ∧ 1 ≤ x ∧ pa x = pa x ∧ ky u < ky x from ⟨u1, x1, rfl, sx.2.1.2.2.2⟩), decide_eq_true rfl]
        rfl
      · rw [decide_eq_false e]
        by_cases c : 1 ≤ v ∧ 1 ≤ x ∧ pa v = pa x ∧ ky v < ky x
        · by_cases c2 : nk th pa ky (pa v) (ky v) = some x
          · exfalso
            have sv := nk_spec c2
            rcases Nat.lt_trichotomy (ky u) (ky v) with z | z | z
            · have := sx.2.2 v (w.lt tv) ⟨c.1, tv, c.2.2.1, z⟩
              omega
            · exact e (w.2.1 u v u1 c.1 tu tv (pu.trans c.2.2.1.symm) z)
            · have := sv.2.2 u (w.lt tu) ⟨u1, tu, pu.trans c.2.2.1.symm, z⟩
              have := sx.2.1.2.2.2
              omega
          · rw [decide_eq_false c2, Bool.and_false]
        · rw [decide_eq_false c, Bool.false_and]
  · subst e
    have ne : ¬ (S.2.2.1 q = 0 ∨ S.2.2.1 q = 1) := fun z => z.elim (fun y => absurd (i0.mp y) (by decide)) (fun y => absurd (i1.mp y) (by decide))
    have hmain : ∀ r x, th x = true → ky x ≤ r → sdN th pa ky 3 v x = cl (srC S O (pre th pa ky 0).length q) (decide ((3 : Nat) = 1 ∨ (3 : Nat) = 3)) (rk th pa ky v) (rk th pa ky x) := by
      intro r
      induction r with
      | zero =>
        intro x tx kx
        by_cases x0 : x = 0
        · subst x0
          rcases sr_eld (S := S) w h0 hO ne tx with ⟨hs, hz⟩ | ⟨u, hs, x1, _⟩
          · rw [cl_none hs]
            unfold sdN
            rw [if_neg (by decide), if_neg (by decide), decide_eq_false (by omega), Bool.false_and]
          · omega
        · have := (w.1 x (by omega) tx).2.2.1
          omega
      | succ r ih =>
        intro x tx kx
        rcases sr_eld w h0 hO ne tx with ⟨hs, hz⟩ | ⟨u, hs, x1, u1, tu, pu, nu⟩
        · rw [cl_none hs]
          unfold sdN
          rw [if_neg (by decide), if_neg (by decide)]
          rcases hz with hz | hz
          · rw [decide_eq_false (by omega), Bool.false_and]
          · by_cases c : 1 ≤ v ∧ 1 ≤ x ∧ pa v = pa x ∧ ky v < ky x
            · have := (nk_spec hz).2.2 v (w.lt tv) ⟨c.1, tv, c.2.2.1, (w.1 v c.1 tv).2.2.1⟩
              omega
            · rw [decide_eq_false c, Bool.false_and]
        · have sx := nk_spec nu
          have kux := sx.2.1.2.2.2
          have i := ih u tu (by omega)
          rw [cl_some srC_dec hs, inj _ tu, ← i, decide_eq_true (show (3 : Nat) = 1 ∨ (3 : Nat) = 3 by omega), Bool.true_and]
          unfold sdN
          rw [if_neg (by decide), if_neg (by decide), decide_eq_true (show 3 ≠ 2 by omega), Bool.true_or, Bool.and_true, if_neg (by decide), if_neg (by decide), Bool.true_or, Bool.and_true]
          by_cases e : u = v
          · subst e
            rw [decide_eq_true (show u = u from rfl), Bool.true_or, decide_eq_true (show 1 ≤ u ∧ 1 ≤ x ∧ pa u = pa x ∧ ky u < ky x from ⟨u1, x1, pu, kux⟩)]
          · rw [decide_eq_false e, Bool.false_or]
            by_cases c : 1 ≤ v ∧ 1 ≤ x ∧ pa v = pa x ∧ ky v < ky x
            · rw [decide_eq_true c, decide_eq_true]
              refine ⟨c.1, u1, c.2.2.1.trans pu.symm, ?_⟩
              rcases Nat.lt_trichotomy (ky u) (ky v) with z | z | z
              · have := sx.2.2 v (w.lt tv) ⟨c.1, tv, c.2.2.1, z⟩
                omega
              · exact absurd (w.2.1 u v u1 c.1 tu tv (pu.trans c.2.2.1.symm) z) e
              · exact z
            · rw [decide_eq_false c, decide_eq_false]
              intro z
              exact c ⟨z.1, x1, z.2.2.1.trans pu, by omega⟩
    intro tx
    exact hmain (ky x) x tx (Nat.le_refl _)
end AXES
