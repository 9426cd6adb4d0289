/-! THE CALLS THAT READ THE TREE answer alike -/
/-- the class's tree and order, the reference's tree: one tree by numbers -/
def TI (T : tT) (O : tO) (M : tM) (th : Nat → Bool) (pa ky : Nat → Nat) (c kd : Nat) : Prop := RT T th pa ky ∧ RM M th pa ky ∧ wfT th pa ky ∧ th 0 = true ∧ (∀ v, th v = true → T.1 v = M.2.1 3 v) ∧ (T.2.2.2.2.1 = nI c ∧ M.1 1 = nI c ∧ c ≤ 24 ∧ ∀ v, th v = true → v < c) ∧ (T.2.2.2.2.2 = nI kd ∧ M.1 2 = nI kd ∧ kd < 4) ∧ OR O th pa ky
section OPS1
variable {T : tT} {O : tO} {M : tM} {th : Nat → Bool} {pa ky : Nat → Nat} {c kd n : Nat}
theorem TI.arg (H : TI T O M th pa ky c kd) (v : Int32) : (fX7_isThere T v = 0 ∧ fX10_isNode M v = 0) ∨ ∃ k, k < 24 ∧ v = nI k ∧ th k = true ∧ fX7_isThere T v = 1 ∧ fX10_isNode M v = 1 := by
  rcases pk_ix v (show 24 < 2 ^ 31 by decide) with h | h | ⟨k, hk, rfl⟩
  · left
    constructor
    · unfold fX7_isThere fX7_isNumber
      rw [if_pos h, if_pos rfl]
    · unfold fX10_isNode fX10_in
      rw [if_pos h, if_pos rfl]
  · have h0 : ¬ v < 0 := fun q => by
      rw [Int32.lt_iff_toInt_lt] at q
      rw [Int32.le_iff_toInt_le, nI_toInt (by decide)] at h
      have : (0 : Int32).toInt = 0 := rfl
      omega
    have h1 : (24 : Int32) ≤ v := h
    have h2 : (23 : Int32) < v := by
      rw [Int32.lt_iff_toInt_lt]
      rw [Int32.le_iff_toInt_le] at h1
      have e1 : (24 : Int32).toInt = 24 := rfl
      have e2 : (23 : Int32).toInt = 23 := rfl
      omega
    left
    constructor
    · unfold fX7_isThere fX7_isNumber
      rw [if_neg h0, if_pos h1, if_pos rfl]
    · unfold fX10_isNode fX10_in
      rw [if_neg h0, if_pos h2, if_pos rfl]
  · have e10 : fX10_isNode M (nI k) = if th k = true then 1 else 0 := by
      unfold fX10_isNode fX10_in
      rw [if_neg (nI_pos (by omega)), if_neg (show ¬ (23 : Int32) < nI k from nI_nlt (a := 23) (by omega) (by decide)), if_neg (by decide), X10_has H.2.1 hk]
      by_cases ct : th k = true
      · rw [if_pos ct, if_neg (by decide)]
      · rw [if_neg ct, if_pos rfl]
    rw [X7_there H.1 hk, e10]
    by_cases ct : th k = true
    · right
      rw [if_pos ct]
      exact ⟨k, hk, rfl, ct, rfl, rfl⟩
    · left
      rw [if_neg ct]
      exact ⟨rfl, rfl⟩
theorem TI.rank (H : TI T O M th pa ky c kd) {v : Nat} (tv : th v = true) : fX3_rankOf O (nI v) = some (nI (rk th pa ky v)) := by
  have v24 := H.2.2.1.lt tv
  unfold fX3_rankOf
  rw [if_neg (nI_pos (by omega)), if_neg (show ¬ (24 : Int32) ≤ nI v from nI_ge (b := 24) v24 (by decide)), if_neg (vi_nI v24), nI_c v24]
  exact congrArg some ((H.2.2.2.2.2.2.2.2 _ v (get_rk H.2.2.1 H.2.2.2.1 tv)).1.2.1)
theorem cnt_list {l : List Nat} {p : Nat → Bool} (nd : l.Nodup) (h : ∀ x, x ∈ l ↔ x < 24 ∧ p x = true) : l.length = cnt p 24 := by
  unfold cnt
  refine List.Perm.length_eq ((List.perm_ext_iff_of_nodup nd (List.nodup_range.sublist List.filter_sublist)).mpr (fun x => ?_))
  rw [h, List.mem_filter, List.mem_range]
theorem cnt_cong {p q : Nat → Bool} (h : ∀ x, x < 24 → p x = q x) : cnt p 24 = cnt q 24 := by
  unfold cnt
  rw [List.filter_congr (fun x hx => h x (List.mem_range.mp hx))]
theorem pre_cnt (w : wfT th pa ky) {v : Nat} (tv : th v = true) : (pre th pa ky v).length - 1 = cnt (fun i => th i && (decide (i ≠ v) && ov pa v i)) 24 := by
  have nd := pre_nodup w 24 v tv
  have nd : (pre th pa ky v).Nodup := nd
  rw [pre_eq w tv] at nd ⊢
  rw [List.length_cons, Nat.add_sub_cancel]
  have nd2 := List.nodup_cons.mp nd
  refine cnt_list nd2.2 (fun x => ?_)
  have hm := pre_mem w tv (x := x)
  rw [pre_eq w tv, List.mem_cons] at hm
  simp only [Bool.and_eq_true, decide_eq_true_eq]
  constructor
  · intro q
    have h1 := hm.mp (Or.inr q)
    exact ⟨w.lt h1.1, h1.1, fun e => nd2.1 (e ▸ q), h1.2⟩
  · rintro ⟨_, h1, h2, h3⟩
    rcases hm.mpr ⟨h1, h3⟩ with q | q
    · exact absurd q h2
    · exact q
theorem O_node (H : TI T O M th pa ky c kd) (hn : 100 ≤ n) (X : tX) (v what : Int32) : ∃ r, fX9_node X v what T O = some r ∧ fX10_node n M v what = some r := by
  obtain ⟨R, R2, w, h0, htag, hc, hk, hO⟩ := id H
  unfold fX9_node fX10_node
  rcases H.arg v with ⟨e1, e2⟩ | ⟨k, k24, rfl, tk, e1, e2⟩
  · rw [e1, e2, if_neg (show ¬ ¬ (0 : Int32) = 0 from fun q => q rfl), if_pos (show (0 : Int32) = 0 from rfl)]
    exact ⟨_, rfl, rfl⟩
  · have g := get_rk w h0 tk
    have hr := rk_lt w h0 tk
    have hl := L_len w h0
    have o := hO.2 _ k g
    rw [e1, e2, if_pos (show ¬ (1 : Int32) = 0 by decide), if_neg (show ¬ (1 : Int32) = 0 by decide), H.rank tk, Option.bind_some]
    by_cases c0 : what = 0
    · subst c0
      refine ⟨T.1 k, ?_, ?_⟩
      · rw [if_pos rfl]
        unfold fX7_tagOf
        rw [X7_num k24, if_neg (by decide), nI_c k24]
      · rw [if_pos (show ¬ fX10_in 0 0 5 = 0 by decide), if_pos rfl, if_neg (vi_nI k24), nI_c k24, htag k tk]
    rw [if_neg c0, if_neg c0]
    by_cases c1 : what = 1
    · subst c1
      refine ⟨pv pa k, ?_, ?_⟩
      · rw [if_pos rfl]
        unfold pv
        by_cases ck : k = 0
        · subst ck
          rw [if_neg (show ¬ ¬ nI 0 = 0 from fun q => q rfl), if_pos rfl]
        · rw [if_pos (show ¬ nI k = 0 from nI_ne0 (by omega) (by omega)), if_neg ck]
          unfold fX7_parentOf
          rw [X7_num k24, if_neg (by decide), nI_c k24, (R.2.2.1 k (by omega) tk).1]
      · rw [if_pos (show ¬ fX10_in 1 0 5 = 0 by decide), if_pos rfl, if_neg (vi_nI k24), nI_c k24, pv_M R2 tk]
    rw [if_neg c1, if_neg c1]
    by_cases c2 : what = 2
    · subst c2
      refine ⟨nI (kc th pa k), ?_, ?_⟩
      · rw [if_pos rfl, kidsAt_s hO.1 hr hl, o.2.1]
        rfl
      · rw [if_pos (show ¬ fX10_in 2 0 5 = 0 by decide), if_pos rfl, X10_childMany R2 hn k24]
        rfl
    rw [if_neg c2, if_neg c2]
    by_cases c3 : what = 3
    · subst c3
      refine ⟨nI (dp pa k), ?_, ?_⟩
      · rw [if_pos rfl, levelAt_s hO.1 hr hl, o.1.2.2.2.2]
        rfl
      · rw [if_pos (show ¬ fX10_in 3 0 5 = 0 by decide), if_pos rfl, X10_deepOf w R2 hn tk]
        rfl
    rw [if_neg c3, if_neg c3]
    by_cases c4 : what = 4
    · subst c4
      refine ⟨nI (rk th pa ky k), ?_, ?_⟩
      · rw [if_pos rfl]
      · rw [if_pos (show ¬ fX10_in 4 0 5 = 0 by decide), if_pos rfl, X10_placeOf w h0 R2 hn tk]
        rfl
    rw [if_neg c4, if_neg c4]
    by_cases c5 : what = 5
    · subst c5
      obtain ⟨gs, h1, h2⟩ := X10_belowSet w R2 hn k24
      refine ⟨nI ((pre th pa ky k).length - 1), ?_, ?_⟩
      · rw [if_pos rfl, belowAt_s hO.1 hr hl, o.2.2]
        rfl
      · rw [if_pos (show ¬ fX10_in 5 0 5 = 0 by decide), h1, Option.bind_some, X10_bits hn, Option.bind_some, pre_cnt w tk]
        rw [cnt_cong (q := fun i => th i && (decide (i ≠ k) && ov pa k i)) (fun x hx => by rw [h2 x (by omega), decide_eq_true hx, Bool.true_and])]
    refine ⟨-1, ?_, ?_⟩
    · rw [if_neg c5]
    · rw [if_neg]
      intro q
      apply q
      unfold fX10_in
      by_cases z : what < 0
      · rw [if_pos z]
      · rw [if_neg z, if_pos]
        have hz := p_sw_0_5 c0 c1 c2 c3 c4 c5
        rw [Int32.lt_iff_toInt_lt] at z ⊢
        have e0 : (0 : Int32).toInt = 0 := rfl
        have e5 : (5 : Int32).toInt = 5 := rfl
        omega
theorem O_child (H : TI T O M th pa ky c kd) (hn : 100 ≤ n) (X : tX) (v i : Int32) : ∃ r, fX9_child n X v i T = some r ∧ fX10_child n M v i = some r := by
  obtain ⟨R, R2, w, h0, htag, hc, hk, hO⟩ := id H
  unfold fX9_child fX10_child
  rcases H.arg v with ⟨e1, e2⟩ | ⟨k, k24, rfl, tk, e1', e2⟩
  · rw [e1, e2, if_pos (show (0 : Int32) = 0 from rfl)]
    exact ⟨_, rfl, rfl⟩
  · rw [e1', e2, if_neg (show ¬ (1 : Int32) = 0 by decide)]
    by_cases ci : 0 ≤ i
    · have hi : ¬ i < 0 := fun q => by
        rw [Int32.lt_iff_toInt_lt] at q
        rw [Int32.le_iff_toInt_le] at ci
        omega
      obtain ⟨j, hj, rfl⟩ := nI_of hi
      rw [if_pos ci, if_pos ci, X7_childAt w R hn k24 (by omega), Option.bind_some]
      by_cases c24 : 24 ≤ j
      · rw [if_pos (show (24 : Int32) ≤ nI j from nI_le (a := 24) c24 (by omega))]
        have : ca th pa ky k j = none := by
          cases hh : ca th pa ky k j with
          | none => rfl
          | some x =>
            have h1 := ca_lt w hh
            have h2 := kc_le (th := th) (pa := pa) (p := k)
            omega
        rw [this, if_neg (show ¬ (0 : Int32) ≤ e1 none by decide)]
        exact ⟨_, rfl, rfl⟩
      · rw [if_neg (show ¬ (24 : Int32) ≤ nI j from nI_ge (b := 24) (by omega) (by decide)), X10_childAt w R2 hn k24 (by omega), Option.bind_some]
        cases hh : ca th pa ky k j with
        | none =>
          rw [if_neg (show ¬ (0 : Int32) ≤ e1 none by decide)]
          exact ⟨_, rfl, rfl⟩
        | some x =>
          have := (ca_some w hh).1
          rw [if_pos (show (0 : Int32) ≤ e1 (some x) from nI_pos' (by omega))]
          exact ⟨_, rfl, rfl⟩
    · rw [if_neg ci, if_neg ci]
      exact ⟨_, rfl, rfl⟩
theorem lat (w : wfT th pa ky) (h0 : th 0 = true) (R : RM M th pa ky) (hn : 100 ≤ n) {i : Nat} (hi : i < 2147483648) : ∀ m k, k ≤ i → k ≤ 24 → 26 - k ≤ m → lX10_at_10 n M m (nI i) (e4 ((pre th pa ky 0)[k]?)) (nI k) = some (e4 ((pre th pa ky 0)[i]?))
  | 0, _, _, h, hm => absurd hm (by omega)
  | m + 1, k, h1, h2, hm => by
    have hl := L_len w h0
    rw [lX10_at_10]
    by_cases ck : k = i
    · subst ck
      rw [if_pos (nI_le (Nat.le_refl _) hi)]
    · rw [if_neg (nI_ge (by omega) hi)]
      cases hx : (pre th pa ky 0)[k]? with
      | none =>
        have := List.getElem?_eq_none_iff.mp hx
        rw [if_pos (show e4 none = -4 from rfl), List.getElem?_eq_none (by omega)]
      | some x =>
        have hk := (List.getElem?_eq_some_iff.mp hx).1
        have tx := L_th w h0 hx
        have x24 := w.lt tx
        rw [if_neg (show ¬ e4 (some x) = -4 from m4_ne (by omega)), show e4 (some x) = nI x from rfl, X10_behind w R hn tx, Option.bind_some, ← L_next w h0 hx, nI_1]
        exact lat w h0 R hn hi m (k + 1) (by omega) (by omega) (by omega)
theorem O_at (H : TI T O M th pa ky c kd) (hn : 100 ≤ n) (X : tX) (k : Int32) : ∃ r, fX9_at X k O = some r ∧ fX10_at n M k = some r := by
  obtain ⟨R, R2, w, h0, htag, hc, hk, hO⟩ := id H
  have hl := L_len w h0
  unfold fX9_at fX10_at
  by_cases ci : 0 ≤ k
  · have hi : ¬ k < 0 := fun q => by
      rw [Int32.lt_iff_toInt_lt] at q
      rw [Int32.le_iff_toInt_le] at ci
      omega
    obtain ⟨j, hj, rfl⟩ := nI_of hi
    rw [if_pos ci, if_pos ci]
    have := lat w h0 R2 hn (i := j) (by omega) n 0 (by omega) (by omega) (by omega)
    rw [L_0 w h0] at this
    rw [show (0 : Int32) = nI 0 from rfl]
    have this : lX10_at_10 n M n (nI j) (nI 0) (nI 0) = _ := this
    rw [this]
    unfold fX3_size
    rw [hO.1]
    by_cases cj : (pre th pa ky 0).length ≤ j
    · rw [if_pos (nI_le cj (by omega)), List.getElem?_eq_none (by omega)]
      exact ⟨_, rfl, rfl⟩
    · have hg := List.getElem?_eq_getElem (show j < (pre th pa ky 0).length by omega)
      rw [if_neg (nI_ge (by omega) (by omega)), nodeAt_s hO.1 (by omega) hl, (hO.2 j _ hg).1.1, hg]
      exact ⟨_, rfl, rfl⟩
  · rw [if_neg ci, if_neg ci]
    exact ⟨_, rfl, rfl⟩
theorem O_ahead (H : TI T O M th pa ky c kd) (hn : 100 ≤ n) (X : tX) (v x : Int32) : ∃ r, fX9_ahead X v x T O = some r ∧ fX10_ahead n M v x = some r := by
  obtain ⟨R, R2, w, h0, htag, hc, hk, hO⟩ := id H
  unfold fX9_ahead fX10_ahead
  rcases H.arg v with ⟨e1, e2⟩ | ⟨k, k24, rfl, tk, e1, e2⟩
  · rw [e1, e2, if_pos (show (0 : Int32) = 0 from rfl)]
    exact ⟨_, rfl, rfl⟩
  · rw [e1, e2, if_neg (show ¬ (1 : Int32) = 0 by decide)]
    rcases H.arg x with ⟨f1, f2⟩ | ⟨j, j24, rfl, tj, f1, f2⟩
    · rw [f1, f2, if_neg (show ¬ ¬ (0 : Int32) = 0 from fun q => q rfl)]
      exact ⟨_, rfl, rfl⟩
    · rw [f1, f2, if_pos (show ¬ (1 : Int32) = 0 by decide), H.rank tk, H.rank tj, X10_placeOf w h0 R2 hn tk, X10_placeOf w h0 R2 hn tj]
      simp only [Option.bind_some]
      split <;> exact ⟨_, rfl, rfl⟩
theorem TI.span (H : TI T O M th pa ky c kd) {v x : Nat} (tv : th v = true) (tx : th x = true) : fX3_spans O (nI (rk th pa ky v)) (nI (rk th pa ky x)) = some (if ov pa v x = true then 1 else 0) := by
  obtain ⟨R, R2, w, h0, htag, hc, hk, hO⟩ := id H
  have hl := L_len w h0
  have hv := rk_lt w h0 tv
  have hx := rk_lt w h0 tx
  have sp := rk_span w h0 tv tx
  have o := hO.2 _ v (get_rk w h0 tv)
  have hlen : 1 ≤ (pre th pa ky v).length := by
    rw [pre_eq w tv, List.length_cons]
    omega
  have hlen2 : (pre th pa ky v).length ≤ 24 := by
    have := pre_cnt w tv
    have h2 : cnt (fun i => th i && (decide (i ≠ v) && ov pa v i)) 24 ≤ 23 := by
      have h3 : cnt (fun i => th i && (decide (i ≠ v) && ov pa v i)) 24 + 1 ≤ 24 := by
        have := L_len w h0
        obtain ⟨A, B, e⟩ := pre_split w h0 v tv
        rw [e, List.length_append, List.length_append] at this
        have := pre_cnt w tv
        omega
      omega
    omega
  unfold fX3_spans
  rw [belowAt_s hO.1 hv hl, Option.bind_some, o.2.2, nI_add]
  by_cases c1 : rk th pa ky x < rk th pa ky v
  · rw [if_pos (nI_lt c1 (by omega)), if_neg (fun q => by have := (sp.mp q).1; omega)]
  · rw [if_neg (nI_nlt (by omega) (by omega))]
    by_cases c2 : rk th pa ky v + ((pre th pa ky v).length - 1) < rk th pa ky x
    · rw [if_pos (nI_lt c2 (by omega)), if_neg (fun q => by have := (sp.mp q).2; omega)]
    · rw [if_neg (nI_nlt (by omega) (by omega)), if_pos (sp.mpr ⟨by omega, by omega⟩)]
theorem O_above (H : TI T O M th pa ky c kd) (hn : 100 ≤ n) (X : tX) (v x : Int32) : ∃ r, fX9_above X v x T O = some r ∧ fX10_above n M v x = some r := by
  obtain ⟨R, R2, w, h0, htag, hc, hk, hO⟩ := id H
  unfold fX9_above fX10_above
  rcases H.arg v with ⟨e1, e2⟩ | ⟨k, k24, rfl, tk, e1, e2⟩
  · rw [e1, e2, if_pos (show (0 : Int32) = 0 from rfl)]
    exact ⟨_, rfl, rfl⟩
  · rw [e1, e2, if_neg (show ¬ (1 : Int32) = 0 by decide)]
    rcases H.arg x with ⟨f1, f2⟩ | ⟨j, j24, rfl, tj, f1, f2⟩
    · rw [f1, f2, if_neg (show ¬ ¬ (0 : Int32) = 0 from fun q => q rfl)]
      exact ⟨_, rfl, rfl⟩
    · rw [f1, f2, if_pos (show ¬ (1 : Int32) = 0 by decide), H.rank tk, H.rank tj]
      simp only [Option.bind_some]
      rw [H.span tk tj, X10_isOver w R2 hn k24 tj]
      simp only [Option.bind_some]
      by_cases e : nI k = nI j
      · rw [if_pos e]
        exact ⟨_, rfl, rfl⟩
      · rw [if_neg e]
        by_cases o : ov pa k j = true
        · rw [if_pos o]
          exact ⟨_, rfl, rfl⟩
        · rw [if_neg o]
          exact ⟨_, rfl, rfl⟩
end OPS1
