/-! Order.read lays the order: first loop -/
def dpF (pa : Nat → Nat) : Nat → Nat → Nat
  | 0, _ => 0
  | m + 1, v => if v = 0 then 0 else dpF pa m (pa v) + 1
def dp (pa : Nat → Nat) (v : Nat) : Nat := dpF pa 24 v
def EL (th : Nat → Bool) (pa ky : Nat → Nat) (e : Int32) (v : Nat) : Prop := (e = -1 ∧ nk th pa ky (pa v) 0 = some v) ∨ ∃ u, 1 ≤ u ∧ th u = true ∧ pa u = pa v ∧ nk th pa ky (pa v) (ky u) = some v ∧ e = nI (rk th pa ky u)
def PE (O : tO) (th : Nat → Bool) (pa ky : Nat → Nat) (k v : Nat) : Prop := O.2.1 k = nI v ∧ O.1 v = nI k ∧ (k = 0 → O.2.2.1 k = -1 ∧ O.2.2.2.1 k = -1) ∧ (1 ≤ k → O.2.2.1 k = nI (rk th pa ky (pa v)) ∧ EL th pa ky (O.2.2.2.1 k) v) ∧ O.2.2.2.2.1 k = nI (dp pa v)
def PO (O : tO) (th : Nat → Bool) (pa ky : Nat → Nat) (s : Nat) : Prop := O.2.2.2.2.2.2.2 = nI s ∧ (∀ k v, k < s → (pre th pa ky 0)[k]? = some v → PE O th pa ky k v) ∧ ∀ k, k < s → O.2.2.2.2.2.1 k = 0 ∧ O.2.2.2.2.2.2.1 k = 0
section ORD
variable {th : Nat → Bool} {pa ky : Nat → Nat}
theorem dpF_eq (w : wfT th pa ky) : ∀ m k v, th v = true → v < m → v < k → dpF pa m v = dpF pa k v
  | 0, _, _, _, h, _ => absurd h (Nat.not_lt_zero _)
  | m + 1, 0, _, _, _, h => absurd h (Nat.not_lt_zero _)
  | m + 1, k + 1, v, ht, h1, h2 => by
    unfold dpF
    by_cases c : v = 0
    · rw [if_pos c, if_pos c]
    · rw [if_neg c, if_neg c]
      have h := w.1 v (by omega) ht
      rw [dpF_eq w m k (pa v) h.2.1 (by omega) (by omega)]
theorem dp_step (w : wfT th pa ky) {v : Nat} (h1 : 1 ≤ v) (ht : th v = true) : dp pa v = dp pa (pa v) + 1 := by
  have h := w.1 v h1 ht
  have hv := w.lt ht
  show dpF pa (23 + 1) v = _
  unfold dpF
  rw [if_neg (by omega), dpF_eq w 23 24 (pa v) h.2.1 (by omega) (by omega)]
  rfl
theorem dp_le (w : wfT th pa ky) : ∀ v, th v = true → dp pa v ≤ v := fun v => by
  induction v using Nat.strongRecOn with
  | _ v ih =>
    intro ht
    by_cases c : v = 0
    · subst c
      exact Nat.le_refl 0
    · have h := w.1 v (by omega) ht
      rw [dp_step w (by omega) ht]
      have := ih (pa v) h.1 h.2.1
      omega
theorem L_th (w : wfT th pa ky) (h0 : th 0 = true) {k v : Nat} (h : (pre th pa ky 0)[k]? = some v) : th v = true := ((pre_mem w h0).mp (List.mem_of_getElem? h)).1
theorem rk_get (w : wfT th pa ky) (h0 : th 0 = true) {k v : Nat} (h : (pre th pa ky 0)[k]? = some v) : rk th pa ky v = k := by
  obtain ⟨hk, e⟩ := List.getElem?_eq_some_iff.mp h
  unfold rk
  rw [← e]
  exact (pre_nodup w 24 0 h0).idxOf_getElem k hk
theorem get_rk (w : wfT th pa ky) (h0 : th 0 = true) {v : Nat} (h : th v = true) : (pre th pa ky 0)[rk th pa ky v]? = some v := by
  have hm := (pre_mem w h0).mpr ⟨h, ov_root w v h⟩
  have hl := List.idxOf_lt_length_iff.mpr hm
  unfold rk
  rw [List.getElem?_eq_getElem hl]
  exact congrArg some (List.getElem_idxOf hl)
theorem L_len (w : wfT th pa ky) (h0 : th 0 = true) : (pre th pa ky 0).length ≤ 24 := by
  have nd := pre_nodup w 24 0 h0
  have hs : ∀ x ∈ pre th pa ky 0, x < 24 := fun x hx => w.lt ((pre_mem w h0).mp hx).1
  have := List.Nodup.length_le_of_subset (l₁ := pre th pa ky 0) (l₂ := List.range 24) nd (fun x hx => List.mem_range.mpr (hs x hx))
  simpa using this
theorem L_0 (w : wfT th pa ky) (h0 : th 0 = true) : (pre th pa ky 0)[0]? = some 0 := by
  rw [pre_eq w h0]
  rfl
theorem rk_lt (w : wfT th pa ky) (h0 : th 0 = true) {v : Nat} (h : th v = true) : rk th pa ky v < (pre th pa ky 0).length := (List.getElem?_eq_some_iff.mp (get_rk w h0 h)).1
theorem L_next (w : wfT th pa ky) (h0 : th 0 = true) {k v : Nat} (h : (pre th pa ky 0)[k]? = some v) : (pre th pa ky 0)[k + 1]? = bh th pa ky v := by
  have e1 := sq_get w h0 k
  have e2 := sq_get w h0 (k + 1)
  rw [show (preF th pa ky 24 0)[k]? = (pre th pa ky 0)[k]? from rfl, h] at e1
  rw [show (pre th pa ky 0)[k + 1]? = (preF th pa ky 24 0)[k + 1]? from rfl, ← e2]
  show (sqN th pa ky k).bind _ = _
  rw [e1]
  rfl
theorem isRank_s {O : tO} {s k : Nat} (hs : O.2.2.2.2.2.2.2 = nI s) (hk : k < s) (hs2 : s ≤ 24) : fX3_isRank O (nI k) = 1 := by
  unfold fX3_isRank
  rw [hs, if_neg (nI_pos (by omega)), if_neg (nI_ge hk (by omega))]
theorem nodeAt_s {O : tO} {s k : Nat} (hs : O.2.2.2.2.2.2.2 = nI s) (hk : k < s) (hs2 : s ≤ 24) : fX3_nodeAt O (nI k) = some (O.2.1 k) := by
  unfold fX3_nodeAt
  rw [isRank_s hs hk hs2, if_neg (by decide), if_neg (vi_nI (by omega)), nI_c (by omega)]
theorem parentAt_s {O : tO} {s k : Nat} (hs : O.2.2.2.2.2.2.2 = nI s) (hk : k < s) (hs2 : s ≤ 24) : fX3_parentAt O (nI k) = some (O.2.2.1 k) := by
  unfold fX3_parentAt
  rw [isRank_s hs hk hs2, if_neg (by decide), if_neg (vi_nI (by omega)), nI_c (by omega)]
theorem elderAt_s {O : tO} {s k : Nat} (hs : O.2.2.2.2.2.2.2 = nI s) (hk : k < s) (hs2 : s ≤ 24) : fX3_elderAt O (nI k) = some (O.2.2.2.1 k) := by
  unfold fX3_elderAt
  rw [isRank_s hs hk hs2, if_neg (by decide), if_neg (vi_nI (by omega)), nI_c (by omega)]
theorem levelAt_s {O : tO} {s k : Nat} (hs : O.2.2.2.2.2.2.2 = nI s) (hk : k < s) (hs2 : s ≤ 24) : fX3_levelAt O (nI k) = some (O.2.2.2.2.1 k) := by
  unfold fX3_levelAt
  rw [isRank_s hs hk hs2, if_neg (by decide), if_neg (vi_nI (by omega)), nI_c (by omega)]
theorem kidsAt_s {O : tO} {s k : Nat} (hs : O.2.2.2.2.2.2.2 = nI s) (hk : k < s) (hs2 : s ≤ 24) : fX3_kidsAt O (nI k) = some (O.2.2.2.2.2.1 k) := by
  unfold fX3_kidsAt
  rw [isRank_s hs hk hs2, if_neg (by decide), if_neg (vi_nI (by omega)), nI_c (by omega)]
theorem belowAt_s {O : tO} {s k : Nat} (hs : O.2.2.2.2.2.2.2 = nI s) (hk : k < s) (hs2 : s ≤ 24) : fX3_belowAt O (nI k) = some (O.2.2.2.2.2.2.1 k) := by
  unfold fX3_belowAt
  rw [isRank_s hs hk hs2, if_neg (by decide), if_neg (vi_nI (by omega)), nI_c (by omega)]
/-- one more is taken -/
theorem take_s (w : wfT th pa ky) (h0 : th 0 = true) {O : tO} {s v p : Nat} (hO : PO O th pa ky s) (hv : (pre th pa ky 0)[s]? = some v) (h1 : 1 ≤ s) (hp : pa v = p) (e : Int32) (he : EL th pa ky e v) : ∃ O', fX3_take O (nI v) (nI (rk th pa ky p)) e = some O' ∧ PO O' th pa ky (s + 1) := by
  have tv := L_th w h0 hv
  have v24 := w.lt tv
  have hl := L_len w h0
  have hsl : s < (pre th pa ky 0).length := (List.getElem?_eq_some_iff.mp hv).1
  have rv := rk_get w h0 hv
  have v1 : 1 ≤ v := by
    rcases Nat.eq_zero_or_pos v with q | q
    · subst q
      rw [rk_get w h0 (L_0 w h0)] at rv
      omega
    · exact q
  have hw := w.1 v v1 tv
  rw [hp] at hw
  have rp : rk th pa ky p < s := by
    have := (rk_span w h0 hw.2.1 tv).mp (by rw [ov_step w v1 tv (by omega), hp]; exact ov_self p)
    have hne : rk th pa ky p ≠ s := fun q => by
      have h1 := get_rk w h0 hw.2.1
      rw [q, hv] at h1
      cases h1
      omega
    omega
  have gp := get_rk w h0 hw.2.1
  have hpe := hO.2.1 _ p rp gp
  have hsz := hO.1
  unfold fX3_take
  rw [hsz, if_neg (show ¬ (24 : Int32) ≤ nI s from nI_ge (b := 24) (by omega) (by decide)), if_neg (nI_pos (by omega)), if_pos (show nI v < (24 : Int32) from nI_lt (b := 24) v24 (by decide)), if_neg (vi_nI v24), if_neg (vi_nI (by omega)), if_pos (nI_pos' (by omega)), nI_c v24, nI_c (show s < 24 by omega)]
  rw [levelAt_s (s := s) rfl rp (by omega), hpe.2.2.2.2]
  refine ⟨_, rfl, nI_1 s, fun k x hk hx => ?_, fun k hk => ?_⟩
  · by_cases ek : k = s
    · subst ek
      rw [hv] at hx
      cases hx
      refine ⟨pk_us, pk_us, fun q => absurd q (by omega), fun _ => ⟨?_, ?_⟩, ?_⟩
      · rw [hp]
        exact pk_us
      · show EL th pa ky (upd O.2.2.2.1 k e k) v
        rw [pk_us]
        exact he
      · show upd O.2.2.2.2.1 k (nI (dp pa p) + 1) k = _
        rw [pk_us, nI_1, dp_step w v1 tv, hp]
    · have h := hO.2.1 k x (by omega) hx
      have hne : x ≠ v := fun q => by
        have := rk_get w h0 hx
        rw [q, rv] at this
        omega
      exact ⟨(pk_un ek).trans h.1, (pk_un hne).trans h.2.1, fun q => ⟨(pk_un ek).trans (h.2.2.1 q).1, (pk_un ek).trans (h.2.2.1 q).2⟩, fun q => ⟨(pk_un ek).trans (h.2.2.2.1 q).1, by
        show EL th pa ky (upd O.2.2.2.1 s e k) x
        rw [pk_un ek]
        exact (h.2.2.2.1 q).2⟩, (pk_un ek).trans h.2.2.2.2⟩
  · by_cases ek : k = s
    · subst ek
      exact ⟨pk_us, pk_us⟩
    · have h := hO.2.2 k (by omega)
      exact ⟨(pk_un ek).trans h.1, (pk_un ek).trans h.2⟩
end ORD
