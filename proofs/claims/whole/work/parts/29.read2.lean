/-! Order.read: second loop, the whole -/
def IJ (O : tO) (th : Nat → Bool) (pa ky : Nat → Nat) (j : Nat) : Prop := O.2.2.2.2.2.2.2 = nI (pre th pa ky 0).length ∧ ∀ k v, (pre th pa ky 0)[k]? = some v → PE O th pa ky k v ∧ O.2.2.2.2.2.1 k = nI (FJ th pa ky v j).length ∧ O.2.2.2.2.2.2.1 k = nI ((FJ th pa ky v j).map (fun c => (pre th pa ky c).length)).sum
section READ2
variable {th : Nat → Bool} {pa ky : Nat → Nat}
theorem read2_s (w : wfT th pa ky) (h0 : th 0 = true) {T : tT} {n : Nat} : ∀ m j O, IJ O th pa ky (j + 1) → j < (pre th pa ky 0).length → j < m → ∃ O', lX3_read_55 n T m (nI j) O = some O' ∧ OR O' th pa ky
  | 0, _, _, _, _, h => absurd h (Nat.not_lt_zero _)
  | m + 1, 0, O, hI, _, _ => by
    rw [lX3_read_55, if_pos (show nI 0 ≤ 0 by decide)]
    refine ⟨O, rfl, hI.1, fun k v hv => ?_⟩
    have h := hI.2 k v hv
    have tv := L_th w h0 hv
    rw [FJ_len w h0 tv (by omega), FJ_sum w h0 tv (by omega)] at h
    exact h
  | m + 1, j + 1, O, hI, hj, hm => by
    have hl := L_len w h0
    have hx := List.getElem?_eq_getElem hj
    generalize (pre th pa ky 0)[j + 1] = x at hx
    have tx := L_th w h0 hx
    have rx := rk_get w h0 hx
    have px := hI.2 _ _ hx
    have x1 : 1 ≤ x := by
      rcases Nat.eq_zero_or_pos x with q | q
      · subst q
        rw [rk_get w h0 (L_0 w h0)] at rx
        omega
      · exact q
    have hw := w.1 x x1 tx
    have rp := rk_lt w h0 hw.2.1
    have gp := get_rk w h0 hw.2.1
    have pp := hI.2 _ _ gp
    have hlen : 1 ≤ (pre th pa ky x).length := by
      rw [pre_eq w tx, List.length_cons]
      omega
    rw [lX3_read_55, if_neg (nI_nle (by omega) (by omega)), if_neg (vi_nI (by omega)), nI_c (show j + 1 < 24 by omega), (px.1.2.2.2.1 (by omega)).1, isRank_s hI.1 rp hl, if_neg (show ¬ (1 : Int32) = 0 by decide), if_neg (vi_nI (by omega)), nI_c (show rk th pa ky (pa x) < 24 by omega), pk_m1, px.2.2, pp.2.1, pp.2.2, FJ_sum w h0 tx (by omega), nI_1, nI_1, nI_add, show (pre th pa ky x).length - 1 + 1 = (pre th pa ky x).length by omega]
    refine read2_s w h0 m j _ ⟨hI.1, fun k v hv => ⟨(hI.2 k v hv).1, ?_, ?_⟩⟩ (by omega) (by omega)
    · have h := (hI.2 k v hv).2.1
      show upd O.2.2.2.2.2.1 (rk th pa ky (pa x)) _ k = _
      rw [FJ_step hx]
      by_cases e : k = rk th pa ky (pa x)
      · subst e
        rw [gp] at hv
        cases hv
        rw [pk_us, if_pos ⟨x1, rfl⟩, List.length_cons]
      · rw [pk_un e, h, if_neg]
        intro q
        rw [← q.2] at hv
        exact e (rk_get w h0 hv).symm
    · have h := (hI.2 k v hv).2.2
      show upd O.2.2.2.2.2.2.1 (rk th pa ky (pa x)) _ k = _
      rw [FJ_step hx]
      by_cases e : k = rk th pa ky (pa x)
      · subst e
        rw [gp] at hv
        cases hv
        rw [pk_us, if_pos ⟨x1, rfl⟩, List.map_cons, List.sum_cons, Nat.add_comm]
      · rw [pk_un e, h, if_neg]
        intro q
        rw [← q.2] at hv
        exact e (rk_get w h0 hv).symm
theorem X3_read (w : wfT th pa ky) (h0 : th 0 = true) {T : tT} {n : Nat} (R : RT T th pa ky) (hn : 100 ≤ n) (O : tO) : ∃ O', fX3_read n O T = some O' ∧ OR O' th pa ky := by
  have hl := L_len w h0
  have hlen : 1 ≤ (pre th pa ky 0).length := by
    rw [pre_eq w h0, List.length_cons]
    omega
  have ht := X7_there R (show 0 < 24 by decide)
  rw [if_pos h0] at ht
  unfold fX3_read
  rw [show (0 : Int32) = nI 0 from rfl, ht, if_neg (by decide)]
  have htk : ∃ O1, fX3_take (O.1, O.2.1, O.2.2.1, O.2.2.2.1, O.2.2.2.2.1, O.2.2.2.2.2.1, O.2.2.2.2.2.2.1, nI 0) (nI 0) (-1) (-1) = some O1 ∧ PO O1 th pa ky 1 := by
    unfold fX3_take
    rw [if_neg (show ¬ (24 : Int32) ≤ nI 0 by decide), if_neg (show ¬ nI 0 < 0 by decide), if_pos (show nI 0 < 24 by decide), if_neg (vi_nI (show 0 < 24 by decide)), if_neg (vi_nI (show 0 < 24 by decide)), if_neg (show ¬ (0 : Int32) ≤ -1 by decide)]
    refine ⟨_, rfl, rfl, fun k v hk hv => ?_, fun k hk => ?_⟩
    · have e : k = 0 := by omega
      subst e
      rw [L_0 w h0] at hv
      cases hv
      exact ⟨(pk_us : upd O.2.1 0 (nI 0) 0 = nI 0), (pk_us : upd O.1 0 (nI 0) 0 = nI 0), fun _ => ⟨(pk_us : upd O.2.2.1 0 (-1) 0 = -1), (pk_us : upd O.2.2.2.1 0 (-1) 0 = -1)⟩, fun q => absurd q (by decide), (pk_us : upd O.2.2.2.2.1 0 0 0 = 0)⟩
    · have e : k = 0 := by omega
      subst e
      exact ⟨(pk_us : upd O.2.2.2.2.2.1 0 0 0 = 0), (pk_us : upd O.2.2.2.2.2.2.1 0 0 0 = 0)⟩
  obtain ⟨O1, h1, h2⟩ := htk
  rw [h1, Option.bind_some]
  obtain ⟨O2, h3, h4⟩ := read1_s w h0 R hn n 0 O1 h2 (by omega) (by omega)
  rw [h3]
  refine read2_s w h0 n ((pre th pa ky 0).length - 1) O2 ⟨h4.1, fun k v hv => ?_⟩ (by omega) (by omega)
  have hk := (List.getElem?_eq_some_iff.mp hv).1
  have e : FJ th pa ky v ((pre th pa ky 0).length - 1 + 1) = [] := by
    unfold FJ
    rw [List.drop_eq_nil_of_le (by omega)]
    rfl
  rw [e]
  exact ⟨h4.2.1 k v hk hv, h4.2.2 k hk⟩
end READ2
