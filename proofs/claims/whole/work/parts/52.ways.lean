/-! the reference's count of MATCHES -/
section WAYS
variable {th : Nat → Bool} {pa ky : Nat → Nat} {S : tS} {M : tM} {n s : Nat} {st nd : Int32}
def axM (M : tM) (c : Nat) : Nat := (M.2.1 19 c).toNatClampNeg
/-- the sum over those to which v stands -/
def FW (th : Nat → Bool) (pa ky : Nat → Nat) (M : tM) (W : Nat → Int64) (c v : Nat) : Int64 := sm (fun x => if th x = true then (if sdN th pa ky (axM M c) v x = true then W (24 * c + x) else 0) else 0) 24
def mayW (M : tM) (st nd : Int32) (q v : Nat) : Bool := decide (M.2.1 17 q = 6 ∨ M.2.1 17 q = M.2.1 3 v) && (decide (¬ nI q = st) || decide (nI v = nd))
def PW (th : Nat → Bool) (pa ky : Nat → Nat) (S : tS) (M : tM) (W : Nat → Int64) (q v c : Nat) : Int64 := pr (fun c => if q < c ∧ hgC S c = q then FW th pa ky M W c v else 1) c
def VW (th : Nat → Bool) (pa ky : Nat → Nat) (S : tS) (M : tM) (s : Nat) (st nd : Int32) (W : Nat → Int64) (q v : Nat) : Int64 := if (th v && mayW M st nd q v) = true then PW th pa ky S M W q v s else 0
/-- what the reference knows of a pattern -/
def PM (S : tS) (M : tM) (s : Nat) : Prop := M.1 15 = nI s ∧ s ≤ 8 ∧ ∀ c, 1 ≤ c → c < s → M.2.1 18 c = nI (hgC S c) ∧ hgC S c < c ∧ M.2.1 19 c = nI (axM M c) ∧ axM M c < 4
theorem PM_of {mt : Nat → Int32} (h15 : M.1 15 = nI s) (h : PR S mt (M.2.1 18) (M.2.1 19) s) : PM S M s := by
  refine ⟨h15, h.2.1, fun c c1 c2 => ?_⟩
  obtain ⟨⟨x, a1, a2, a3⟩, a, b1, b2, b3⟩ := (h.2.2 c c2).2.1 c1
  have s8 := h.2.1
  have e1 : hgC S c = x := by
    unfold hgC
    rw [a2]
    exact nI_clamp (by omega)
  have e2 : axM M c = a := by
    unfold axM
    rw [b3]
    exact nI_clamp (by omega)
  rw [e1, e2]
  exact ⟨a3, a1, b3, b1⟩
theorem lsum (w : wfT th pa ky) (R : RM M th pa ky) (hn : 100 ≤ n) (hP : PM S M s) {W : Nat → Int64} {c v : Nat} (c1 : 1 ≤ c) (cs : c < s) (tv : th v = true) : ∀ m k, k ≤ 24 → 24 - k < m → lX10_sumOf_5 n (M.1, M.2.1, W) m (nI c) (nI v) (sm (fun x => if th x = true then (if sdN th pa ky (axM M c) v x = true then W (24 * c + x) else 0) else 0) k) (nI k) = some (FW th pa ky M W c v)
  | 0, _, _, h => absurd h (by omega)
  | m + 1, k, hk, hm => by
    have s8 := hP.2.1
    obtain ⟨p1, p2, p3, p4⟩ := hP.2.2 c c1 cs
    rw [lX10_sumOf_5]
    by_cases e : k = 24
    · subst e
      rw [if_pos (show (24 : Int32) ≤ nI 24 by decide)]
      rfl
    have k24 : k < 24 := by omega
    have R' : RM (M.1, M.2.1, W) th pa ky := R
    have rec_ := lsum w R hn hP (W := W) c1 cs tv m (k + 1) (by omega) (by omega)
    have ss : sm (fun x => if th x = true then (if sdN th pa ky (axM M c) v x = true then W (24 * c + x) else 0) else 0) (k + 1) = sm (fun x => if th x = true then (if sdN th pa ky (axM M c) v x = true then W (24 * c + x) else 0) else 0) k + (if th k = true then (if sdN th pa ky (axM M c) v k = true then W (24 * c + k) else 0) else 0) := rfl
    rw [ss] at rec_
    rw [if_neg (show ¬ (24 : Int32) ≤ nI k from nI_ge (b := 24) k24 (by decide)), X10_has R' k24, nI_1]
    by_cases tk : th k = true
    · rw [if_pos tk] at rec_
      rw [if_pos tk, if_neg (show ¬ (1 : Int32) = 0 by decide), if_neg (nI_in (show c < 8 by omega) (by decide)), nI_clamp (show c < 2 ^ 31 by omega)]
      show ((fX10_stands n (M.1, M.2.1, W) (M.2.1 19 c) (nI v) (nI k)).bind fun y5 => _) = _
      rw [p3, stands_s w R' hn p4 tv tk, Option.bind_some]
      by_cases sd : sdN th pa ky (axM M c) v k = true
      · rw [if_pos sd] at rec_
        rw [if_pos sd, if_neg (show ¬ (1 : Int32) = 0 by decide), show (24 : Int32) * nI c = nI (24 * c) from pk_mul 24 c, nI_add, if_neg (nI_in (show 24 * c + k < 192 by omega) (by decide)), nI_clamp (show 24 * c + k < 2 ^ 31 by omega)]
        exact rec_
      · rw [if_neg sd] at rec_
        rw [if_neg sd, if_pos (show (0 : Int32) = 0 from rfl)]
        exact rec_
    · rw [if_neg tk] at rec_
      rw [if_neg tk, if_pos (show (0 : Int32) = 0 from rfl)]
      exact rec_
theorem sumOf_s (w : wfT th pa ky) (R : RM M th pa ky) (hn : 100 ≤ n) (hP : PM S M s) (W : Nat → Int64) {c v : Nat} (c1 : 1 ≤ c) (cs : c < s) (tv : th v = true) : fX10_sumOf n (M.1, M.2.1, W) (nI c) (nI v) = some (FW th pa ky M W c v) := lsum w R hn hP c1 cs tv n 0 (by omega) (by omega)
theorem FW_congr {W W' : Nat → Int64} {c : Nat} (h : ∀ x, x < 24 → W (24 * c + x) = W' (24 * c + x)) (v : Nat) : FW th pa ky M W c v = FW th pa ky M W' c v := sm_congr 24 (fun x hx => by rw [h x hx])
theorem PW_congr {W W' : Nat → Int64} {q c0 : Nat} (h : ∀ c, q < c → c < c0 → ∀ x, x < 24 → W (24 * c + x) = W' (24 * c + x)) (v : Nat) : PW th pa ky S M W q v c0 = PW th pa ky S M W' q v c0 := pr_congr c0 (fun c hc => by
  by_cases z : q < c ∧ hgC S c = q
  · rw [if_pos z, if_pos z]
    exact FW_congr (h c z.1 hc) v
  · rw [if_neg z, if_neg z])
/-- the loop over what hangs on q -/
theorem w105 (w : wfT th pa ky) (R : RM M th pa ky) (hn : 100 ≤ n) (hP : PM S M s) {q v : Nat} (qs : q < s) (tv : th v = true) (W0 : Nat → Int64) : ∀ d c m W, s - c = d → q < c → c ≤ s → d + 1 ≤ m → (∀ i, i ≠ 24 * q + v → W i = W0 i) → W (24 * q + v) = PW th pa ky S M W0 q v c → ∃ m' W', m = m' + d + 1 ∧ lX10_waysBy n m 105 st nd (nI q) (nI v) 1 (nI c) (M.1, M.2.1, W) = lX10_waysBy n m' 14 st nd (nI q) (nI (v + 1)) 0 0 (M.1, M.2.1, W') ∧ (∀ i, i ≠ 24 * q + v → W' i = W0 i) ∧ W' (24 * q + v) = PW th pa ky S M W0 q v s
  | 0, c, m, W, hd, h1, h2, hm, hW, hc => by
    have e : c = s := by omega
    subst e
    obtain ⟨m', rfl⟩ : ∃ m', m = m' + 1 := ⟨m - 1, by omega⟩
    refine ⟨m', W, by omega, ?_, hW, hc⟩
    have s8 := hP.2.1
    rw [lX10_waysBy, if_neg (by decide), if_neg (by decide)]
    show (if M.1 15 ≤ nI c then _ else _) = _
    rw [hP.1, if_pos (nI_le (Nat.le_refl _) (by omega)), nI_1]
  | d + 1, c, m, W, hd, h1, h2, hm, hW, hc => by
    have s8 := hP.2.1
    have v24 := w.lt tv
    have cs : c < s := by omega
    obtain ⟨m, rfl⟩ : ∃ m', m = m' + 1 := ⟨m - 1, by omega⟩
    obtain ⟨p1, p2, p3, p4⟩ := hP.2.2 c (by omega) cs
    have ps : PW th pa ky S M W0 q v (c + 1) = PW th pa ky S M W0 q v c * (if q < c ∧ hgC S c = q then FW th pa ky M W0 c v else 1) := rfl
    rw [lX10_waysBy, if_neg (show ¬ (105 = 7) by decide), if_neg (show ¬ (105 = 14) by decide)]
    show ∃ m' W', _ ∧ (if M.1 15 ≤ nI c then _ else (if (1 : Int32) = 0 then _ else (if nI c < 0 ∨ 8 ≤ (nI c).toNatClampNeg then none else (if ¬ M.2.1 18 (nI c).toNatClampNeg = nI q then _ else _)))) = _ ∧ _
    rw [hP.1, if_neg (nI_ge cs (by omega)), if_neg (show ¬ (1 : Int32) = 0 by decide), if_neg (nI_in (show c < 8 by omega) (by decide)), nI_clamp (show c < 2 ^ 31 by omega), p1, nI_1]
    by_cases ch : hgC S c = q
    · rw [if_neg (show ¬ ¬ nI (hgC S c) = nI q from fun z => z (by rw [ch])), show (24 : Int32) * nI q = nI (24 * q) from pk_mul 24 q, nI_add, if_neg (nI_in (show 24 * q + v < 192 by omega) (by decide)), nI_clamp (show 24 * q + v < 2 ^ 31 by omega), sumOf_s w R hn hP W (by omega) cs tv, Option.bind_some]
      have ef : FW th pa ky M W c v = FW th pa ky M W0 c v := FW_congr (fun x hx => hW _ (by omega)) v
      have z : (if q < c ∧ hgC S c = q then FW th pa ky M W0 c v else 1) = FW th pa ky M W0 c v := if_pos ⟨h1, ch⟩
      rw [z] at ps
      obtain ⟨m', W', a1, a2, a3, a4⟩ := w105 w R hn hP qs tv W0 d (c + 1) m (vp_updL W (24 * q + v) (W (24 * q + v) * FW th pa ky M W c v)) (by omega) (by omega) (by omega) (by omega) (fun i hi => (pk_uLn hi).trans (hW i hi)) (by rw [pk_uLs, hc, ef, ps])
      exact ⟨m', W', by omega, a2, a3, a4⟩
    · rw [if_pos (show ¬ nI (hgC S c) = nI q from fun z => ch ((nI_eq (by omega) (by omega)).mp z))]
      have z : (if q < c ∧ hgC S c = q then FW th pa ky M W0 c v else 1) = 1 := if_neg (fun z => ch z.2)
      rw [z, Int64.mul_one] at ps
      obtain ⟨m', W', a1, a2, a3, a4⟩ := w105 w R hn hP qs tv W0 d (c + 1) m W (by omega) (by omega) (by omega) (by omega) hW (by rw [hc, ps])
      exact ⟨m', W', by omega, a2, a3, a4⟩
theorem w105_0 (hP : PM S M s) {q v c m : Nat} {W : Nat → Int64} : lX10_waysBy n (m + 1) 105 st nd (nI q) (nI v) 0 (nI c) (M.1, M.2.1, W) = lX10_waysBy n m 14 st nd (nI q) (nI (v + 1)) 0 0 (M.1, M.2.1, W) := by
  rw [lX10_waysBy, if_neg (show ¬ (105 = 7) by decide), if_neg (show ¬ (105 = 14) by decide), nI_1]
  split
  · rfl
  · exact if_pos rfl
/-- what happens at a node of a row, ahead of the loop -/
theorem w14_go (w : wfT th pa ky) (R : RM M th pa ky) (hP : PM S M s) {q v m : Nat} (qs : q < s) (v24 : v < 24) (W : Nat → Int64) : lX10_waysBy n (m + 1) 14 st nd (nI q) (nI v) 0 0 (M.1, M.2.1, W) = lX10_waysBy n m 105 st nd (nI q) (nI v) (if (th v && mayW M st nd q v) = true then 1 else 0) (nI (q + 1)) (M.1, M.2.1, vp_updL W (24 * q + v) (if (th v && mayW M st nd q v) = true then 1 else 0)) := by
  have s8 := hP.2.1
  have R' : RM (M.1, M.2.1, W) th pa ky := R
  have ix : ¬ (((24 : Int32) * nI q + nI v) < 0 ∨ 192 ≤ ((24 : Int32) * nI q + nI v).toNatClampNeg) := by
    rw [show (24 : Int32) * nI q = nI (24 * q) from pk_mul 24 q, nI_add]
    exact nI_in (show 24 * q + v < 192 by omega) (by decide)
  have ic : ((24 : Int32) * nI q + nI v).toNatClampNeg = 24 * q + v := by
    rw [show (24 : Int32) * nI q = nI (24 * q) from pk_mul 24 q, nI_add]
    exact nI_clamp (by omega)
  rw [lX10_waysBy, if_neg (show ¬ (14 = 7) by decide), if_pos (show (14 = 14) by decide), if_neg (show ¬ (24 : Int32) ≤ nI v from nI_ge (b := 24) v24 (by decide)), X10_has R' v24, nI_1]
  simp only [if_neg ix, if_neg (nI_in (show q < 8 by omega) (by decide)), if_neg (vi_nI v24)]
  simp only [ic, nI_clamp (show q < 2 ^ 31 by omega), nI_c v24]
  by_cases tv : th v = true
  · rw [if_pos tv, if_neg (show ¬ (1 : Int32) = 0 by decide), tv, Bool.true_and]
    unfold mayW
    by_cases c6 : M.2.1 17 q = 6
    · rw [if_pos (show (M.1, M.2.1, W).2.1 17 q = 6 from c6), decide_eq_true (show M.2.1 17 q = 6 ∨ M.2.1 17 q = M.2.1 3 v from Or.inl c6), Bool.true_and]
      by_cases cs : nI q = st
      · rw [if_neg (fun z => z cs), decide_eq_false (fun z => z cs), Bool.false_or]
        by_cases cn : nI v = nd
        · rw [if_neg (fun z => z cn), decide_eq_true cn]
          rfl
        · rw [if_pos cn, decide_eq_false cn]
          rfl
      · rw [if_pos cs, decide_eq_true cs]
        rfl
    · rw [if_neg (show ¬ (M.1, M.2.1, W).2.1 17 q = 6 from c6)]
      by_cases ct : M.2.1 17 q = M.2.1 3 v
      · rw [if_neg (show ¬ ¬ (M.1, M.2.1, W).2.1 17 q = (M.1, M.2.1, W).2.1 3 v from fun z => z ct), decide_eq_true (show M.2.1 17 q = 6 ∨ M.2.1 17 q = M.2.1 3 v from Or.inr ct), Bool.true_and]
        by_cases cs : nI q = st
        · rw [if_neg (fun z => z cs), decide_eq_false (fun z => z cs), Bool.false_or]
          by_cases cn : nI v = nd
          · rw [if_neg (fun z => z cn), decide_eq_true cn]
            rfl
          · rw [if_pos cn, decide_eq_false cn]
            rfl
        · rw [if_pos cs, decide_eq_true cs]
          rfl
      · rw [if_pos (show ¬ (M.1, M.2.1, W).2.1 17 q = (M.1, M.2.1, W).2.1 3 v from ct), decide_eq_false (show ¬ (M.2.1 17 q = 6 ∨ M.2.1 17 q = M.2.1 3 v) from fun z => z.elim c6 ct), Bool.false_and]
        rfl
  · rw [if_neg tv, if_pos (show (0 : Int32) = 0 from rfl), show th v = false by cases h : th v with | true => exact absurd h tv | false => rfl, Bool.false_and]
    rfl
end WAYS
