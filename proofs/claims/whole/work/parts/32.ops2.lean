/-! meet, key, between, and what count counts -/
section OPS2
variable {T : tT} {O : tO} {M : tM} {th : Nat → Bool} {pa ky : Nat → Nat} {c kd n : Nat}
theorem TI.par (H : TI T O M th pa ky c kd) {t : Nat} (h1 : 1 ≤ t) (tt : th t = true) : fX7_parentOf T (nI t) = nI (pa t) ∧ M.2.1 4 t = nI (pa t) ∧ pa t < t ∧ th (pa t) = true := by
  obtain ⟨R, R2, w, h0, htag, hc, hk, hO⟩ := id H
  have t24 := w.lt tt
  refine ⟨?_, (R2.2.2.1 t h1 tt).1, (w.1 t h1 tt).1, (w.1 t h1 tt).2.1⟩
  unfold fX7_parentOf
  rw [X7_num t24, if_neg (by decide), nI_c t24, (R.2.2.1 t h1 tt).1]
theorem lmeet (H : TI T O M th pa ky c kd) (hn : 100 ≤ n) (X : tX) {u : Nat} (tu : th u = true) : ∀ m t i, th t = true → t + i ≤ 23 → t < m → ∃ r, lX9_meet_39 n X T O m (nI (rk th pa ky u)) (nI t) (nI i) = some r ∧ lX10_meet_20 n M m (nI u) (nI t) = some r
  | 0, _, _, _, _, h => absurd h (Nat.not_lt_zero _)
  | m + 1, t, i, tt, hi, hm => by
    obtain ⟨R, R2, w, h0, htag, hc, hk, hO⟩ := id H
    have t24 := w.lt tt
    rw [lX9_meet_39, lX10_meet_20, X10_isOver w R2 hn t24 tu, Option.bind_some, if_neg (show ¬ (24 : Int32) ≤ nI i from nI_ge (b := 24) (by omega) (by decide))]
    by_cases c0 : t = 0
    · subst c0
      rw [if_pos (show nI 0 ≤ 0 by decide), if_pos (ov_root w u tu)]
      exact ⟨_, rfl, rfl⟩
    · rw [if_neg (nI_nle (by omega) (by omega)), H.rank tt, Option.bind_some, H.span tt tu, Option.bind_some]
      obtain ⟨p1, p2, p3, p4⟩ := H.par (by omega) tt
      by_cases o : ov pa t u = true
      · rw [if_pos o]
        exact ⟨_, rfl, rfl⟩
      · rw [if_neg o, p1, if_neg (vi_nI t24), nI_c t24, p2, nI_1, if_neg (show ¬ ¬ (0 : Int32) = 0 from fun q => q rfl), if_neg (show ¬ ¬ (0 : Int32) = 0 from fun q => q rfl)]
        exact lmeet H hn X tu m (pa t) (i + 1) p4 (by omega) (by omega)
theorem O_meet (H : TI T O M th pa ky c kd) (hn : 100 ≤ n) (X : tX) (v x : Int32) : ∃ r, fX9_meet n X v x T O = some r ∧ fX10_meet n M v x = some r := by
  unfold fX9_meet fX10_meet
  rcases H.arg v with ⟨e1, e2⟩ | ⟨k, k24, rfl, tk, e1, e2⟩
  · rw [e1, e2, if_pos (show (0 : Int32) = 0 from rfl)]
    exact ⟨_, rfl, rfl⟩
  · rw [e1, e2, if_neg (show ¬ (1 : Int32) = 0 by decide)]
    rcases H.arg x with ⟨f1, f2⟩ | ⟨j, j24, rfl, tj, f1, f2⟩
    · rw [f1, f2, if_neg (show ¬ ¬ (0 : Int32) = 0 from fun q => q rfl)]
      exact ⟨_, rfl, rfl⟩
    · obtain ⟨r, h1, h2⟩ := lmeet H hn X tj n k 0 tk (by omega) (by omega)
      rw [f1, f2, if_pos (show ¬ (1 : Int32) = 0 by decide), H.rank tj, Option.bind_some]
      exact ⟨r, h1, h2⟩
/-! key -/
def itN (pa : Nat → Nat) : Nat → Nat → Nat
  | 0, t => t
  | d + 1, t => itN pa d (pa t)
theorem it_th (w : wfT th pa ky) : ∀ d t, th t = true → d + 1 ≤ dp pa t → th (itN pa d t) = true ∧ 1 ≤ itN pa d t
  | 0, t, tt, hd => by
    refine ⟨tt, ?_⟩
    rcases Nat.eq_zero_or_pos t with e | e
    · subst e
      have := dp_le w 0 tt
      omega
    · exact e
  | d + 1, t, tt, hd => by
    have := dp_le w t tt
    have h1 : 1 ≤ t := by omega
    have := dp_step w h1 tt
    exact it_th w d (pa t) (w.1 t h1 tt).2.1 (by omega)
theorem lclimb (H : TI T O M th pa ky c kd) (X : tX) {L : Nat} (hL : L ≤ 24) : ∀ m d t, th t = true → d + 1 ≤ dp pa t → d ≤ L → d < m → lX9_climb_5 n X T m (nI L) (nI t) (nI (L - d)) = some (nI (itN pa d t))
  | 0, _, _, _, _, _, h => absurd h (Nat.not_lt_zero _)
  | m + 1, 0, t, tt, hd, hdL, hm => by
    rw [lX9_climb_5, if_pos (show nI L ≤ nI (L - 0) from nI_le (by omega) (by omega))]
    rfl
  | m + 1, d + 1, t, tt, hd, hdL, hm => by
    have w := H.2.2.1
    have := dp_le w t tt
    have h1 : 1 ≤ t := by omega
    have := dp_step w h1 tt
    obtain ⟨p1, p2, p3, p4⟩ := H.par h1 tt
    rw [lX9_climb_5, if_neg (nI_ge (by omega) (by omega)), if_neg (show ¬ (24 : Int32) ≤ nI (L - (d + 1)) from nI_ge (b := 24) (by omega) (by decide)), p1, nI_1, show L - (d + 1) + 1 = L - d by omega]
    exact lclimb H X hL m d (pa t) p4 (by omega) (by omega) (by omega)
/-- the part of a key that is asked for -/
def kpN (what : Int32) (r : Nat) : Int32 := if what = 0 then nI (cutN 9 r) else nI (lenN 9 r)
theorem X9_keyPart (hn : 100 ≤ n) {r : Nat} (hr : r < 1000000000) (what : Int32) : fX9_keyPart n (nI r) what = some (kpN what r) := by
  unfold fX9_keyPart kpN
  rw [X0_length hn (by omega), X0_figures hn (by omega)]
  by_cases c : what = 0
  · rw [if_neg (fun q => q c), if_pos c]
    rfl
  · rw [if_pos c, if_neg c]
    rfl
theorem keyPart10 (hn : 100 ≤ n) {r : Nat} (h0 : 0 < r) (hr : r < 1000000000) (what : Int32) : (if ¬ what = 0 then ((fX10_figuresOf n (nI r)).bind fun y11 => some y11) else ((fX10_numberOf n (nI r)).bind fun y14 => some y14)) = some (kpN what r) := by
  unfold kpN
  rw [X10_figuresOf hn h0 hr, X10_numberOf hn h0 hr]
  by_cases c : what = 0
  · rw [if_neg (fun q => q c), if_pos c]
    rfl
  · rw [if_pos c, if_neg c]
    rfl
theorem lkey (H : TI T O M th pa ky c kd) (hn : 100 ≤ n) {i : Nat} (hi : i < 24) (what : Int32) : ∀ m d t, th t = true → d + 1 ≤ dp pa t → d < m → lX10_key_48 n M m (nI i) what (nI t) (nI (i + d)) = some (kpN what (ky (itN pa d t)))
  | 0, _, _, _, _, h => absurd h (Nat.not_lt_zero _)
  | m + 1, 0, t, tt, hd, hm => by
    have w := H.2.2.1
    have t24 := w.lt tt
    obtain ⟨_, t1⟩ := it_th w 0 t tt hd
    have t1 : 1 ≤ t := t1
    have k1 := H.2.1.2.2.1 t t1 tt
    have := keyPart10 hn k1.2.2.2.1 k1.2.2.2.2 what
    rw [lX10_key_48, if_pos (show nI (i + 0) ≤ nI i from nI_le (by omega) (by omega)), if_neg (vi_nI t24), if_neg (vi_nI t24), nI_c t24, k1.2.1, this]
    rfl
  | m + 1, d + 1, t, tt, hd, hm => by
    have w := H.2.2.1
    have t24 := w.lt tt
    have := dp_le w t tt
    have h1 : 1 ≤ t := by omega
    have := dp_step w h1 tt
    obtain ⟨p1, p2, p3, p4⟩ := H.par h1 tt
    rw [lX10_key_48, if_neg (show ¬ nI (i + (d + 1)) ≤ nI i from nI_ge (by omega) (by omega)), if_neg (vi_nI t24), nI_c t24, p2, show nI (i + (d + 1)) + (-1) = nI (i + d) from pk_m1 (i + d)]
    exact lkey H hn hi what m d (pa t) p4 (by omega) (by omega)
theorem what01 (what : Int32) : (fX9_isKeyPart what = 0 ∧ fX10_in what 0 1 = 0) ∨ (fX9_isKeyPart what = 1 ∧ fX10_in what 0 1 = 1) := by
  unfold fX9_isKeyPart fX10_in
  by_cases c0 : what = 0
  · subst c0
    exact Or.inr ⟨rfl, rfl⟩
  by_cases c1 : what = 1
  · subst c1
    exact Or.inr ⟨rfl, rfl⟩
  left
  rw [if_neg c0, if_pos c1]
  refine ⟨rfl, ?_⟩
  rcases pk_ix what (show 2 < 2 ^ 31 by decide) with h | h | ⟨j, hj, rfl⟩
  · rw [if_pos h]
  · have : (1 : Int32) < what := by
      rw [Int32.lt_iff_toInt_lt]
      rw [Int32.le_iff_toInt_le, nI_toInt (by decide)] at h
      have : (1 : Int32).toInt = 1 := rfl
      omega
    rw [if_pos this]
    split <;> rfl
  · have : j = 0 ∨ j = 1 := by omega
    rcases this with e | e
    · subst e
      exact absurd rfl c0
    · subst e
      exact absurd rfl c1
theorem O_key (H : TI T O M th pa ky c kd) (hn : 100 ≤ n) (X : tX) (v i what : Int32) : ∃ r, fX9_key n X v i what T O = some r ∧ fX10_key n M v i what = some r := by
  obtain ⟨R, R2, w, h0, htag, hc, hk, hO⟩ := id H
  unfold fX9_key fX10_key
  rcases H.arg v with ⟨e1, e2⟩ | ⟨k, k24, rfl, tk, e1, e2⟩
  · rw [e1, e2, if_pos (show (0 : Int32) = 0 from rfl)]
    exact ⟨_, rfl, rfl⟩
  rw [e1, e2, if_neg (show ¬ (1 : Int32) = 0 by decide)]
  by_cases ci : i < 0
  · rw [if_pos ci, if_pos ci]
    exact ⟨_, rfl, rfl⟩
  rw [if_neg ci, if_neg ci]
  rcases what01 what with ⟨f1, f2⟩ | ⟨f1, f2⟩
  · rw [f1, f2]
    exact ⟨_, rfl, rfl⟩
  obtain ⟨j, hj, rfl⟩ := nI_of ci
  have g := get_rk w h0 tk
  have hr := rk_lt w h0 tk
  have hl := L_len w h0
  have o := hO.2 _ k g
  have hdp := dp_le w k tk
  rw [f1, f2, if_pos (show ¬ (1 : Int32) = 0 by decide), if_pos (show ¬ (1 : Int32) = 0 by decide), H.rank tk, Option.bind_some, levelAt_s hO.1 hr hl, o.1.2.2.2.2, Option.bind_some, X10_deepOf w R2 hn tk, Option.bind_some]
  by_cases cj : j < dp pa k
  · rw [if_pos (nI_lt cj (by omega)), if_pos (nI_lt cj (by omega))]
    obtain ⟨d, hd⟩ : ∃ d, dp pa k = j + d + 1 := ⟨dp pa k - j - 1, by omega⟩
    rw [hd, nI_pred, pk_sub (show j ≤ j + d by omega), show j + d - j = d by omega]
    obtain ⟨u1, u2⟩ := it_th w d k tk (by omega)
    have u24 := w.lt u1
    have k1 := w.1 _ u2 u1
    refine ⟨kpN what (ky (itN pa d k)), ?_, lkey H hn (by omega) what n d k tk (by omega) (by omega)⟩
    unfold fX9_climb
    have := lclimb (n := n) H X (L := d) (by omega) n d k tk (by omega) (by omega) (by omega)
    rw [show d - d = 0 by omega] at this
    have this : lX9_climb_5 n X T n (nI d) (nI k) 0 = _ := this
    rw [this, Option.bind_some, X7_spot R u2 u24 u1, X9_keyPart hn k1.2.2.2]
    rfl
  · rw [if_neg (nI_nlt (by omega) hj), if_neg (nI_nlt (by omega) hj)]
    exact ⟨_, rfl, rfl⟩
/-! between -/
theorem isPlace_s (H : TI T O M th pa ky c kd) (hn : 100 ≤ n) (X : tX) (p place : Int32) : (fX9_isPlace n X p place T = some 0 ∧ (fX10_isNode M p = 0 ∨ (fX10_isNode M p = 1 ∧ ∃ y, fX10_childMany n M p = some y ∧ fX10_in place 0 y = 0))) ∨ ∃ k j, k < 24 ∧ p = nI k ∧ th k = true ∧ place = nI j ∧ j ≤ kc th pa k ∧ fX9_isPlace n X p place T = some 1 ∧ fX10_isNode M p = 1 ∧ ∃ y, fX10_childMany n M p = some y ∧ fX10_in place 0 y = 1 := by
  obtain ⟨R, R2, w, h0, htag, hc, hk, hO⟩ := id H
  unfold fX9_isPlace fX10_in
  rcases H.arg p with ⟨e1, e2⟩ | ⟨k, k24, rfl, tk, e1, e2⟩
  · left
    rw [e1, e2, if_pos (show (0 : Int32) = 0 from rfl)]
    exact ⟨rfl, Or.inl rfl⟩
  rw [e1, e2, if_neg (show ¬ (1 : Int32) = 0 by decide), X7_kidsOf R hn k24, X10_childMany R2 hn k24]
  have kl := kc_le (th := th) (pa := pa) (p := k)
  by_cases c0 : place < 0
  · left
    rw [if_pos c0]
    exact ⟨rfl, Or.inr ⟨rfl, _, rfl, by rw [if_pos c0]⟩⟩
  obtain ⟨j, hj, rfl⟩ := nI_of c0
  rw [if_neg c0, Option.bind_some]
  by_cases cj : j ≤ kc th pa k
  · right
    refine ⟨k, j, k24, rfl, tk, rfl, cj, ?_, rfl, _, rfl, ?_⟩
    · rw [if_neg (nI_nlt cj (by omega))]
    · rw [if_neg c0, if_neg (nI_nlt cj (by omega))]
  · left
    rw [if_pos (nI_lt (by omega) hj)]
    exact ⟨rfl, Or.inr ⟨rfl, _, rfl, by rw [if_neg c0, if_pos (nI_lt (by omega) hj)]⟩⟩
theorem sf_lt (w : wfT th pa ky) {p place : Nat} : sfN th pa ky kd p place < 1000000000 := by
  rcases sfN_in (kd := kd) (p := p) (place := place) w with h | h
  · omega
  · have := (hiN_in (p := p) (place := place) w).2
    omega
theorem O_between (H : TI T O M th pa ky c kd) (hn : 100 ≤ n) (X : tX) (p place what : Int32) : ∃ r, fX9_between n X p place what T = some r ∧ fX10_between n M p place what = some r := by
  obtain ⟨R, R2, w, h0, htag, hc, hk, hO⟩ := id H
  unfold fX9_between fX10_between
  rcases isPlace_s H hn X p place with ⟨a1, a2⟩ | ⟨k, j, k24, rfl, tk, rfl, hj, a1, a2, y, a3, a4⟩
  · rw [a1]
    refine ⟨-1, rfl, ?_⟩
    rcases a2 with a2 | ⟨a2, y, a3, a4⟩
    · rw [a2]
      rfl
    · rw [a2, a3, if_neg (by decide), Option.bind_some, a4]
      rfl
  rw [a1, a2, a3, Option.bind_some, if_neg (show ¬ (1 : Int32) = 0 by decide), if_neg (show ¬ (1 : Int32) = 0 by decide), Option.bind_some, a4, if_neg (show ¬ (1 : Int32) = 0 by decide)]
  rcases what01 what with ⟨f1, f2⟩ | ⟨f1, f2⟩
  · rw [f1, f2]
    exact ⟨_, rfl, rfl⟩
  rw [f1, f2, if_pos (show ¬ (1 : Int32) = 0 by decide), if_pos (show ¬ (1 : Int32) = 0 by decide), X7_spotFor w R hk.1 hk.2.2 hn k24 hj, X10_keyFor w R2 hk.2.1 hk.2.2 hn k24 hj, Option.bind_some, Option.bind_some]
  have sl := sf_lt (kd := kd) w (p := k) (place := j)
  by_cases s0 : sfN th pa ky kd k j = 0
  · rw [s0]
    exact ⟨-4, rfl, rfl⟩
  · rw [if_pos (nI_ne0 (by omega) (by omega)), if_pos (nI_ne0 (by omega) (by omega)), X9_keyPart hn sl, keyPart10 hn (by omega) sl]
    exact ⟨_, rfl, rfl⟩
end OPS2
