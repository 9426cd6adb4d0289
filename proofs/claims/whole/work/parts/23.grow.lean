/-! the key at a place; a node put in; figures of a key -/
def loN (th : Nat → Bool) (pa ky : Nat → Nat) (p : Nat) : Nat → Nat
  | 0 => 0
  | i + 1 => match ca th pa ky p i with
    | none => 0
    | some v => ky v
def hiN (th : Nat → Bool) (pa ky : Nat → Nat) (p place : Nat) : Nat := match ca th pa ky p place with
  | none => 1000000000
  | some v => ky v
def sfN (th : Nat → Bool) (pa ky : Nat → Nat) (kd p place : Nat) : Nat := kbN kd (loN th pa ky p place) (hiN th pa ky p place) 9
section SF
variable {th : Nat → Bool} {pa ky : Nat → Nat} {p place kd : Nat}
theorem ca_ky (w : wfT th pa ky) {i v : Nat} (h : ca th pa ky p i = some v) : 0 < ky v ∧ ky v < 1000000000 := by
  obtain ⟨a1, a2, a3, a4, a5⟩ := ca_some w h
  exact (w.1 v a2 a3).2.2
theorem hiN_in (w : wfT th pa ky) : 1 ≤ hiN th pa ky p place ∧ hiN th pa ky p place ≤ 1000000000 := by
  unfold hiN
  split
  · decide
  · rename_i v h
    have := ca_ky w h
    omega
theorem loN_in (w : wfT th pa ky) : loN th pa ky p place ≤ 1000000000 := by
  unfold loN
  split
  · omega
  · split
    · omega
    · rename_i v h
      have := ca_ky w h
      omega
theorem sfN_in (w : wfT th pa ky) : sfN th pa ky kd p place = 0 ∨ (loN th pa ky p place < sfN th pa ky kd p place ∧ sfN th pa ky kd p place < hiN th pa ky p place) := kbN_in kd _ _ (hiN_in w).1 9
theorem ca_has (w : wfT th pa ky) {i : Nat} (h : i < kc th pa p) : ∃ v, ca th pa ky p i = some v := by
  cases hc : ca th pa ky p i with
  | none => exact absurd (ca_none w hc) (by omega)
  | some v => exact ⟨v, rfl⟩
theorem X7_spotFor {T : tT} {n : Nat} (w : wfT th pa ky) (R : RT T th pa ky) (hk : T.2.2.2.2.2 = nI kd) (hk4 : kd < 4) (hn : 100 ≤ n) (hp : p < 24) (hpl : place ≤ kc th pa p) : fX7_spotFor n T (nI p) (nI place) = some (nI (sfN th pa ky kd p place)) := by
  have hkc := kc_le (th := th) (pa := pa) (p := p)
  have fin : ∀ lo, lo ≤ 1000000000 → ((if 0 ≤ e1 (ca th pa ky p place) then ((fX0_choose n T.2.2.2.2.2 (nI lo) (fX7_spotOf T (e1 (ca th pa ky p place)))).bind fun y => some y) else ((fX0_choose n T.2.2.2.2.2 (nI lo) 1000000000).bind fun y => some y)) = some (nI (kbN kd lo (hiN th pa ky p place) 9))) := by
    intro lo hlo
    rw [hk]
    cases hc : ca th pa ky p place with
    | none =>
      rw [if_neg (show ¬ (0 : Int32) ≤ e1 none by decide), show (1000000000 : Int32) = nI 1000000000 from rfl, X0_choose hn hk4 hlo (by decide) (by decide)]
      show some (nI (kbN kd lo 1000000000 9)) = _
      unfold hiN
      rw [hc]
    | some v =>
      obtain ⟨a1, a2, a3, a4, a5⟩ := ca_some w hc
      have g := ca_ky w hc
      rw [if_pos (show (0 : Int32) ≤ e1 (some v) from nI_pos' (by omega)), show e1 (some v) = nI v from rfl, X7_spot R a2 a1 a3, X0_choose hn hk4 hlo (by omega) (by omega)]
      show some (nI (kbN kd lo (ky v) 9)) = _
      unfold hiN
      rw [hc]
  unfold fX7_spotFor sfN
  cases place with
  | zero =>
    rw [if_pos (show nI 0 ≤ 0 by decide)]
    have h0 := X7_nextKid (s := 0) R hn hp (by decide)
    rw [show (0 : Int32) = nI 0 from rfl, h0]
    exact fin 0 (by decide)
  | succ i =>
    rw [if_neg (nI_nle (by omega) (by omega)), nI_pred, X7_childAt w R hn hp (by omega)]
    obtain ⟨v, hv⟩ := ca_has w (show i < kc th pa p by omega)
    obtain ⟨a1, a2, a3, a4, a5⟩ := ca_some w hv
    have g := ca_ky w hv
    have e : ca th pa ky p (i + 1) = nk th pa ky p (ky v) := by
      show (ca th pa ky p i).bind _ = _
      rw [hv]
      rfl
    have el : loN th pa ky p (i + 1) = ky v := by
      show (match ca th pa ky p i with
        | none => 0
        | some v => ky v) = _
      rw [hv]
    rw [hv, show e1 (some v) = nI v from rfl, Option.bind_some, X7_spot R a2 a1 a3, X7_nextKid R hn hp (by omega), Option.bind_some, ← e, el]
    exact fin (ky v) (by omega)
theorem X10_keyFor {M : tM} {n : Nat} (w : wfT th pa ky) (R : RM M th pa ky) (hk : M.1 2 = nI kd) (hk4 : kd < 4) (hn : 100 ≤ n) (hp : p < 24) (hpl : place ≤ kc th pa p) : fX10_keyFor n M (nI p) (nI place) = some (nI (sfN th pa ky kd p place)) := by
  have hkc := kc_le (th := th) (pa := pa) (p := p)
  have fin : ∀ lo, lo ≤ 1000000000 → ((fX10_childMany n M (nI p)).bind fun y6 => (if ¬ nI place = y6 then ((fX10_childAt n M (nI p) (nI place)).bind fun y9 => (if y9 < 0 ∨ 24 ≤ y9.toNatClampNeg then none else ((fX10_keyBetween n M (nI lo) ((M.2.1 5) y9.toNatClampNeg)).bind fun y12 => some y12))) else ((fX10_keyBetween n M (nI lo) 1000000000).bind fun y14 => some y14))) = some (nI (kbN kd lo (hiN th pa ky p place) 9)) := by
    intro lo hlo
    rw [X10_childMany R hn hp, Option.bind_some]
    by_cases c : place = kc th pa p
    · rw [if_neg (fun q => q (by rw [c])), show (1000000000 : Int32) = nI 1000000000 from rfl, X10_keyBetween hn hk hk4 hlo (by decide) (by decide)]
      have hc : ca th pa ky p place = none := by
        cases hc : ca th pa ky p place with
        | none => rfl
        | some v => exact absurd (ca_lt w hc) (by omega)
      unfold hiN
      rw [hc]
      rfl
    · rw [if_pos (fun q => c ((nI_eq (by omega) (by omega)).mp q)), X10_childAt w R hn hp (by omega)]
      obtain ⟨v, hv⟩ := ca_has w (show place < kc th pa p by omega)
      obtain ⟨a1, a2, a3, a4, a5⟩ := ca_some w hv
      have g := ca_ky w hv
      rw [hv, show e4 (some v) = nI v from rfl, Option.bind_some, if_neg (vi_nI a1), nI_c a1, (R.2.2.1 v a2 a3).2.1, X10_keyBetween hn hk hk4 hlo (by omega) (by omega)]
      unfold hiN
      rw [hv]
      rfl
  unfold fX10_keyFor sfN
  cases place with
  | zero =>
    rw [if_neg (fun q => q rfl)]
    exact fin 0 (by decide)
  | succ i =>
    rw [if_pos (nI_ne0 (by omega) (by omega)), nI_pred, X10_childAt w R hn hp (by omega)]
    obtain ⟨v, hv⟩ := ca_has w (show i < kc th pa p by omega)
    obtain ⟨a1, a2, a3, a4, a5⟩ := ca_some w hv
    have g := ca_ky w hv
    have el : loN th pa ky p (i + 1) = ky v := by
      show (match ca th pa ky p i with
        | none => 0
        | some v => ky v) = _
      rw [hv]
    rw [hv, el, show e4 (some v) = nI v from rfl, Option.bind_some, if_neg (vi_nI a1), nI_c a1, (R.2.2.1 v a2 a3).2.1]
    exact fin (ky v) (by omega)
/-- siblings lie at lo or ahead, at hi or behind -/
theorem sf_apart (w : wfT th pa ky) (hpl : place ≤ kc th pa p) {u : Nat} (h1 : 1 ≤ u) (ht : th u = true) (hu : pa u = p) : ky u ≤ loN th pa ky p place ∨ hiN th pa ky p place ≤ ky u := by
  have hu24 := w.lt ht
  have key : ∀ lo, ca th pa ky p place = nk th pa ky p lo → ky u ≤ lo ∨ hiN th pa ky p place ≤ ky u := by
    intro lo e
    rcases Nat.lt_or_ge lo (ky u) with q | q
    · right
      unfold hiN
      rw [e]
      cases hc : nk th pa ky p lo with
      | none => exact absurd ⟨h1, ht, hu, q⟩ (nk_none hc u hu24)
      | some v => exact (nk_spec hc).2.2 u hu24 ⟨h1, ht, hu, q⟩
    · exact Or.inl q
  cases place with
  | zero => exact key 0 rfl
  | succ i =>
    obtain ⟨v, hv⟩ := ca_has w (show i < kc th pa p by omega)
    have el : loN th pa ky p (i + 1) = ky v := by
      show (match ca th pa ky p i with
        | none => 0
        | some v => ky v) = _
      rw [hv]
    rw [el]
    refine key (ky v) ?_
    show (ca th pa ky p i).bind _ = _
    rw [hv]
    rfl
end SF
/-! a node put in -/
def thA (th : Nat → Bool) (c : Nat) : Nat → Bool := fun v => th v || decide (v = c)
def fnA (f : Nat → Nat) (c x : Nat) : Nat → Nat := fun v => if v = c then x else f v
theorem wf_add {th : Nat → Bool} {pa ky : Nat → Nat} (w : wfT th pa ky) {c p r : Nat} (hc0 : 1 ≤ c) (hc : c < 24) (hall : ∀ v, th v = true → v < c) (hp : th p = true) (hr : 0 < r ∧ r < 1000000000) (hap : ∀ u, 1 ≤ u → th u = true → pa u = p → ky u ≠ r) : wfT (thA th c) (fnA pa c p) (fnA ky c r) := by
  have old : ∀ v, thA th c v = true → v ≠ c → th v = true := fun v h hn => by
    unfold thA at h
    rw [decide_eq_false hn, Bool.or_false] at h
    exact h
  have new : ∀ v, th v = true → thA th c v = true := fun v h => by
    unfold thA
    rw [h]
    rfl
  refine ⟨fun v h1 hv => ?_, fun v u h1 h2 hv hu hp2 hk => ?_, fun v hv => ?_⟩
  · by_cases e : v = c
    · subst e
      unfold fnA
      rw [if_pos rfl, if_pos rfl]
      exact ⟨hall p hp, new p hp, hr.1, hr.2⟩
    · have h := w.1 v h1 (old v hv e)
      unfold fnA
      rw [if_neg e, if_neg e]
      exact ⟨h.1, new _ h.2.1, h.2.2⟩
  · unfold fnA at hp2 hk
    by_cases e : v = c
    · by_cases e2 : u = c
      · rw [e, e2]
      · rw [if_pos e, if_neg e2] at hp2 hk
        exact absurd hk.symm (hap u h2 (old u hu e2) hp2.symm)
    · by_cases e2 : u = c
      · rw [if_neg e, if_pos e2] at hp2 hk
        exact absurd hk (hap v h1 (old v hv e) hp2)
      · rw [if_neg e, if_neg e2] at hp2 hk
        exact w.2.1 v u h1 h2 (old v hv e) (old u hu e2) hp2 hk
  · unfold thA
    rw [w.2.2 v hv, decide_eq_false (by omega)]
    rfl
theorem RT_add {T : tT} {th : Nat → Bool} {pa ky : Nat → Nat} (R : RT T th pa ky) {c p r : Nat} (tag : Int32) (cm : Int32) (hc0 : 1 ≤ c) (hc : c < 24) (hp : p < 24) (hr : 0 < r ∧ r < 1000000000) : RT (upd T.1 c tag, upd T.2.1 c (nI p), upd T.2.2.1 c (nI r), T.2.2.2.1 ||| (1 <<< (nI c &&& 31)), cm, T.2.2.2.2.2) (thA th c) (fnA pa c p) (fnA ky c r) := by
  refine ⟨fun v hv => ?_, fun v hv => ?_, fun v h1 hv => ?_, fun h0 => ?_⟩
  · show thA th c v = bt (T.2.2.2.1 ||| (1 <<< (nI c &&& 31))) v
    rw [bt_set _ (by omega) (by omega), ← R.1 v hv]
    rfl
  · unfold thA
    rw [R.2.1 v hv, decide_eq_false (by omega)]
    rfl
  · by_cases e : v = c
    · subst e
      unfold fnA
      rw [if_pos rfl, if_pos rfl]
      exact ⟨pk_us, pk_us, hp, hr⟩
    · have hv2 : th v = true := by
        unfold thA at hv
        rw [decide_eq_false e, Bool.or_false] at hv
        exact hv
      have h := R.2.2.1 v h1 hv2
      unfold fnA
      rw [if_neg e, if_neg e]
      exact ⟨(pk_un e).trans h.1, (pk_un e).trans h.2.1, h.2.2⟩
  · have hv2 : th 0 = true := by
      unfold thA at h0
      rw [decide_eq_false (by omega), Bool.or_false] at h0
      exact h0
    have h := R.2.2.2 hv2
    exact ⟨(pk_un (by omega)).trans h.1, (pk_un (by omega)).trans h.2⟩
