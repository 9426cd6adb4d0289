/-! Order.read -/
def OR (O : tO) (th : Nat → Bool) (pa ky : Nat → Nat) : Prop := O.2.2.2.2.2.2.2 = nI (pre th pa ky 0).length ∧ ∀ k v, (pre th pa ky 0)[k]? = some v → PE O th pa ky k v ∧ O.2.2.2.2.2.1 k = nI (kc th pa v) ∧ O.2.2.2.2.2.2.1 k = nI ((pre th pa ky v).length - 1)
section READ
variable {th : Nat → Bool} {pa ky : Nat → Nat}
theorem climb_s (w : wfT th pa ky) (h0 : th 0 = true) {T : tT} {n s : Nat} (R : RT T th pa ky) (hn : 100 ≤ n) {O : tO} (hO : PO O th pa ky s) (hs : s ≤ (pre th pa ky 0).length) (h1s : 1 ≤ s) : ∀ m u i, th u = true → rk th pa ky u < s → u < m → u + i ≤ 23 → (upN th pa ky u = (pre th pa ky 0)[s]?) → (∀ v, (pre th pa ky 0)[s]? = some v → ∃ O', lX3_takeFollower_29 n T m (nI (rk th pa ky u)) (nI i) O = some O' ∧ PO O' th pa ky (s + 1)) ∧ ((pre th pa ky 0)[s]? = none → lX3_takeFollower_29 n T m (nI (rk th pa ky u)) (nI i) O = some O)
  | 0, _, _, _, _, h, _, _ => absurd h (Nat.not_lt_zero _)
  | m + 1, u, i, tu, hr, hm, hi, hup => by
    have hl := L_len w h0
    have c24 : ¬ (24 : Int32) ≤ nI i := nI_ge (b := 24) (by omega) (by decide)
    rw [lX3_takeFollower_29, if_neg c24]
    by_cases cu : u = 0
    · subst cu
      rw [rk_get w h0 (L_0 w h0), if_pos (show nI 0 ≤ 0 by decide)]
      rw [up_0] at hup
      exact ⟨fun v hv => (by rw [← hup] at hv; cases hv), fun _ => rfl⟩
    · have gu := get_rk w h0 tu
      have hu := w.1 u (by omega) tu
      have u24 := w.lt tu
      have hp24 := w.lt hu.2.1
      have ru : 1 ≤ rk th pa ky u := by
        rcases Nat.eq_zero_or_pos (rk th pa ky u) with q | q
        · rw [q, L_0 w h0] at gu
          cases gu
          exact absurd rfl cu
        · exact q
      have rp : rk th pa ky (pa u) < s := by
        have := (rk_span w h0 hu.2.1 tu).mp (by rw [ov_step w (by omega) tu (by omega)]; exact ov_self (pa u))
        omega
      have pe := hO.2.1 _ u hr gu
      have pp := hO.2.1 _ (pa u) rp (get_rk w h0 hu.2.1)
      rw [if_neg (nI_nle (by omega) (by omega)), parentAt_s hO.1 hr (by omega), Option.bind_some, (pe.2.2.2.1 ru).1, nodeAt_s hO.1 rp (by omega), Option.bind_some, pp.1, nodeAt_s hO.1 hr (by omega), Option.bind_some, pe.1, X7_spot R (by omega) u24 tu, X7_nextKid R hn hp24 (by have := hu.2.2.2; omega), Option.bind_some]
      have us := up_step w (show 1 ≤ u by omega) tu
      cases hc : nk th pa ky (pa u) (ky u) with
      | none =>
        rw [hc] at us
        rw [if_pos (show e1 none < 0 by decide), nI_1]
        exact climb_s w h0 R hn hO hs h1s m (pa u) (i + 1) hu.2.1 rp (by omega) (by omega) (by have us : upN th pa ky u = upN th pa ky (pa u) := us; rw [← us]; exact hup)
      | some v =>
        rw [hc] at us
        rw [us] at hup
        have sp := nk_spec hc
        rw [if_neg (show ¬ e1 (some v) < 0 from nI_pos (by omega)), show e1 (some v) = nI v from rfl]
        refine ⟨fun x hx => ?_, fun hx => by rw [← hup] at hx; cases hx⟩
        rw [← hup] at hx
        cases hx
        obtain ⟨O', h1, h2⟩ := take_s w h0 hO hup.symm h1s sp.2.1.2.2.1 (nI (rk th pa ky u)) (Or.inr ⟨u, by omega, tu, sp.2.1.2.2.1.symm, by rw [sp.2.1.2.2.1]; exact hc, rfl⟩)
        rw [h1]
        exact ⟨O', rfl, h2⟩
theorem foll_s (w : wfT th pa ky) (h0 : th 0 = true) {T : tT} {n k x : Nat} (R : RT T th pa ky) (hn : 100 ≤ n) {O : tO} (hO : PO O th pa ky (k + 1)) (hx : (pre th pa ky 0)[k]? = some x) : (∀ v, (pre th pa ky 0)[k + 1]? = some v → ∃ O', fX3_takeFollower n O T (nI k) = some O' ∧ PO O' th pa ky (k + 2)) ∧ ((pre th pa ky 0)[k + 1]? = none → fX3_takeFollower n O T (nI k) = some O) := by
  have hl := L_len w h0
  have hk : k < (pre th pa ky 0).length := (List.getElem?_eq_some_iff.mp hx).1
  have tx := L_th w h0 hx
  have x24 := w.lt tx
  have pe := hO.2.1 k x (by omega) hx
  have hnx := L_next w h0 hx
  unfold fX3_takeFollower
  rw [nodeAt_s hO.1 (by omega) (by omega), Option.bind_some, pe.1, show (0 : Int32) = nI 0 from rfl, X7_nextKid R hn x24 (by decide), Option.bind_some]
  cases hc : nk th pa ky x 0 with
  | none =>
    rw [if_pos (show e1 none < nI 0 by decide)]
    have hb : bh th pa ky x = upN th pa ky x := by
      unfold bh
      rw [hc]
    rw [hb] at hnx
    have := climb_s w h0 R hn hO (by omega) (by omega) n x 0 tx (by rw [rk_get w h0 hx]; omega) (by omega) (by omega) hnx.symm
    rw [rk_get w h0 hx] at this
    exact this
  | some v =>
    have hb : bh th pa ky x = some v := by
      unfold bh
      rw [hc]
    rw [hb] at hnx
    have sp := nk_spec hc
    rw [if_neg (show ¬ e1 (some v) < nI 0 from nI_pos (by omega)), show e1 (some v) = nI v from rfl]
    refine ⟨fun y hy => ?_, fun hy => by rw [hnx] at hy; cases hy⟩
    rw [hnx] at hy
    cases hy
    obtain ⟨O', h1, h2⟩ := take_s w h0 hO hnx (by omega) sp.2.1.2.2.1 (-1) (Or.inl ⟨rfl, by rw [sp.2.1.2.2.1]; exact hc⟩)
    rw [rk_get w h0 hx] at h1
    rw [h1]
    exact ⟨O', rfl, h2⟩
theorem read1_s (w : wfT th pa ky) (h0 : th 0 = true) {T : tT} {n : Nat} (R : RT T th pa ky) (hn : 100 ≤ n) : ∀ m k O, PO O th pa ky (k + 1) → k < (pre th pa ky 0).length → (pre th pa ky 0).length - k + 1 ≤ m → ∃ O', lX3_read_22 n T m (nI k) O = lX3_read_55 n T n (nI ((pre th pa ky 0).length - 1)) O' ∧ PO O' th pa ky (pre th pa ky 0).length
  | 0, k, O, _, h, hm => absurd hm (by omega)
  | m + 1, k, O, hO, hk, hm => by
    have hl := L_len w h0
    rw [lX3_read_22, hO.1, if_neg (nI_ge (by omega) (by omega)), if_neg (show ¬ (24 : Int32) ≤ nI k from nI_ge (b := 24) (by omega) (by decide))]
    obtain ⟨f1, f2⟩ := foll_s w h0 R hn hO (List.getElem?_eq_getElem hk)
    by_cases c : k + 1 < (pre th pa ky 0).length
    · obtain ⟨O', h1, h2⟩ := f1 _ (List.getElem?_eq_getElem c)
      rw [h1, Option.bind_some, nI_1]
      exact read1_s w h0 R hn m (k + 1) O' h2 c (by omega)
    · have e : k + 1 = (pre th pa ky 0).length := by omega
      rw [f2 (List.getElem?_eq_none (by omega)), Option.bind_some, nI_1]
      cases m with
      | zero => omega
      | succ m =>
        rw [lX3_read_22, hO.1, if_pos (show nI (k + 1) ≤ nI (k + 1) from nI_le (Nat.le_refl _) (by omega)), nI_pred]
        refine ⟨O, by rw [← e]; rfl, by rw [← e]; exact hO⟩
/-- the children of v among those from the j-th on -/
def FJ (th : Nat → Bool) (pa ky : Nat → Nat) (v j : Nat) : List Nat := ((pre th pa ky 0).drop j).filter (fun c => decide (1 ≤ c) && decide (pa c = v))
theorem FJ_perm (w : wfT th pa ky) (h0 : th 0 = true) {v j : Nat} (tv : th v = true) (hj : j ≤ rk th pa ky v + 1) : (FJ th pa ky v j).Perm (klN th pa ky v) := by
  have nd := pre_nodup w 24 0 h0
  have n1 : (FJ th pa ky v j).Nodup := (nd.sublist (List.drop_sublist _ _)).sublist List.filter_sublist
  have n2 : (klN th pa ky v).Nodup := (kl_sorted 24 0 v).1.imp (fun {a b} h e => by rw [e] at h; omega)
  refine (List.perm_ext_iff_of_nodup n1 n2).mpr (fun c => ?_)
  rw [klN_mem w]
  unfold FJ
  rw [List.mem_filter]
  simp only [Bool.and_eq_true, decide_eq_true_eq]
  constructor
  · rintro ⟨h1, h2, h3⟩
    exact ⟨h2, ((pre_mem w h0).mp (List.mem_of_mem_drop h1)).1, h3⟩
  · rintro ⟨h1, h2, h3⟩
    refine ⟨?_, h1, h3⟩
    have hs := (rk_span w h0 tv h2).mp (by rw [ov_step w h1 h2 (by have := (w.1 c h1 h2).1; omega), h3]; exact ov_self v)
    have hne : rk th pa ky v ≠ rk th pa ky c := fun q => by
      have g1 := get_rk w h0 tv
      have g2 := get_rk w h0 h2
      rw [q, g2] at g1
      have e := Option.some.inj g1
      have := (w.1 c h1 h2).1
      omega
    have g := get_rk w h0 h2
    refine List.mem_of_getElem? (i := rk th pa ky c - j) ?_
    rw [List.getElem?_drop, show j + (rk th pa ky c - j) = rk th pa ky c by omega]
    exact g
theorem kl_len (w : wfT th pa ky) {p : Nat} : ∀ f s, kc th pa p ≤ kcsU th pa ky p s 24 + f → (klF th pa ky p f s).length + kcsU th pa ky p s 24 = kc th pa p
  | 0, s, h => by
    have := kcs_le (th := th) (pa := pa) (ky := ky) (p := p) (s := s) 24
    show 0 + _ = _
    unfold kc at h ⊢
    omega
  | f + 1, s, h => by
    unfold klF
    cases hv : nk th pa ky p s with
    | none =>
      have := kcs_none hv 24 (Nat.le_refl _)
      show 0 + _ = _
      unfold kc
      omega
    | some v =>
      have h1 := kcs_step w hv 24 (Nat.le_refl _)
      rw [if_pos (nk_spec hv).1] at h1
      have := kl_len w (p := p) f (ky v) (by omega)
      show (klF th pa ky p f (ky v)).length + 1 + _ = _
      omega
theorem klN_len (w : wfT th pa ky) {p : Nat} : (klN th pa ky p).length = kc th pa p := by
  have := kl_len w (p := p) 24 0 (by have := kc_le (th := th) (pa := pa) (p := p); omega)
  rw [kcs_0 w] at this
  exact this
theorem FJ_len (w : wfT th pa ky) (h0 : th 0 = true) {v j : Nat} (tv : th v = true) (hj : j ≤ rk th pa ky v + 1) : (FJ th pa ky v j).length = kc th pa v := by
  rw [(FJ_perm w h0 tv hj).length_eq, klN_len w]
theorem FJ_sum (w : wfT th pa ky) (h0 : th 0 = true) {v j : Nat} (tv : th v = true) (hj : j ≤ rk th pa ky v + 1) : ((FJ th pa ky v j).map (fun c => (pre th pa ky c).length)).sum = (pre th pa ky v).length - 1 := by
  rw [((FJ_perm w h0 tv hj).map _).sum_nat, pre_eq w tv, List.length_cons, List.length_flatMap]
  simp
theorem FJ_step {v j x : Nat} (hx : (pre th pa ky 0)[j]? = some x) : FJ th pa ky v j = if 1 ≤ x ∧ pa x = v then x :: FJ th pa ky v (j + 1) else FJ th pa ky v (j + 1) := by
  obtain ⟨hj, e⟩ := List.getElem?_eq_some_iff.mp hx
  unfold FJ
  rw [List.drop_eq_getElem_cons hj, e, List.filter_cons]
  simp only [Bool.and_eq_true, decide_eq_true_eq]
end READ
