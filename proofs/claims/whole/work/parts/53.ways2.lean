/-! the reference's rows satisfy the equations, by ranks -/
section WAYS2
variable {th : Nat → Bool} {pa ky : Nat → Nat} {S : tS} {T : tT} {O : tO} {M : tM} {n s : Nat} {st nd : Int32}
theorem VW_congr {W W' : Nat → Int64} {q : Nat} (h : ∀ c, q < c → c < s → ∀ x, x < 24 → W (24 * c + x) = W' (24 * c + x)) (v : Nat) : VW th pa ky S M s st nd W q v = VW th pa ky S M s st nd W' q v := by
  unfold VW
  rw [PW_congr h]
theorem w14 (w : wfT th pa ky) (R : RM M th pa ky) (hn : 100 ≤ n) (hP : PM S M s) {q : Nat} (qs : q < s) : ∀ d v m W, 24 - v = d → v ≤ 24 → 10 * d + 1 ≤ m → ∃ m' W', m ≤ m' + 10 * d + 1 ∧ lX10_waysBy n m 14 st nd (nI q) (nI v) 0 0 (M.1, M.2.1, W) = lX10_waysBy n m' 7 st nd (nI q + (-1)) 0 0 0 (M.1, M.2.1, W') ∧ (∀ i, (i < 24 * q + v ∨ 24 * q + 24 ≤ i) → W' i = W i) ∧ ∀ x, v ≤ x → x < 24 → W' (24 * q + x) = VW th pa ky S M s st nd W q x
  | 0, v, m, W, hd, hv, hm => by
    have e : v = 24 := by omega
    subst e
    obtain ⟨m, rfl⟩ : ∃ m', m = m' + 1 := ⟨m - 1, by omega⟩
    refine ⟨m, W, by omega, ?_, fun _ _ => rfl, fun x h1 h2 => absurd h1 (by omega)⟩
    rw [lX10_waysBy, if_neg (show ¬ (14 = 7) by decide), if_pos (show (14 = 14) by decide), if_pos (show (24 : Int32) ≤ nI 24 by decide)]
  | d + 1, v, m, W, hd, hv, hm => by
    have s8 := hP.2.1
    have v24 : v < 24 := by omega
    obtain ⟨m, rfl⟩ : ∃ m', m = m' + 1 := ⟨m - 1, by omega⟩
    rw [w14_go w R hP qs v24 W]
    have fin : ∀ m1 W1, m ≤ m1 + 9 → (∀ i, i ≠ 24 * q + v → W1 i = W i) → W1 (24 * q + v) = VW th pa ky S M s st nd W q v → ∃ m' W', m + 1 ≤ m' + 10 * (d + 1) + 1 ∧ lX10_waysBy n m1 14 st nd (nI q) (nI (v + 1)) 0 0 (M.1, M.2.1, W1) = lX10_waysBy n m' 7 st nd (nI q + (-1)) 0 0 0 (M.1, M.2.1, W') ∧ (∀ i, (i < 24 * q + v ∨ 24 * q + 24 ≤ i) → W' i = W i) ∧ ∀ x, v ≤ x → x < 24 → W' (24 * q + x) = VW th pa ky S M s st nd W q x := by
      intro m1 W1 h1 h2 h3
      obtain ⟨m', W', a1, a2, a3, a4⟩ := w14 w R hn hP qs d (v + 1) m1 W1 (by omega) (by omega) (by omega)
      refine ⟨m', W', by omega, a2, fun i hi => (a3 i (by omega)).trans (h2 i (by omega)), fun x x1 x2 => ?_⟩
      by_cases e : x = v
      · subst e
        rw [a3 _ (by omega), h3]
      · rw [a4 x (by omega) x2]
        exact VW_congr (fun c c1 c2 y hy => h2 _ (by omega)) x
    by_cases cm : (th v && mayW M st nd q v) = true
    · have tv := ((Bool.and_eq_true _ _).mp cm).1
      rw [if_pos cm, if_pos cm]
      obtain ⟨m1, W1, a1, a2, a3, a4⟩ := w105 (st := st) (nd := nd) (n := n) w R hn hP qs tv W (s - (q + 1)) (q + 1) m (vp_updL W (24 * q + v) 1) rfl (by omega) (by omega) (by omega) (fun i hi => pk_uLn hi) (by
        rw [pk_uLs]
        exact (pr_ones (q + 1) (fun i hi => if_neg (fun z => by omega))).symm)
      rw [a2]
      refine fin m1 W1 (by omega) a3 ?_
      rw [a4]
      unfold VW
      rw [if_pos cm]
    · rw [if_neg cm, if_neg cm]
      obtain ⟨m1, rfl⟩ : ∃ m', m = m' + 1 := ⟨m - 1, by omega⟩
      rw [w105_0 hP]
      refine fin m1 _ (by omega) (fun i hi => pk_uLn hi) ?_
      rw [pk_uLs]
      unfold VW
      rw [if_neg cm]
theorem w7 (w : wfT th pa ky) (R : RM M th pa ky) (hn : 100 ≤ n) (hP : PM S M s) : ∀ q m W, q ≤ s → 260 * q + 1 ≤ m → (∀ c, q ≤ c → c < s → ∀ x, x < 24 → W (24 * c + x) = VW th pa ky S M s st nd W c x) → ∃ W', lX10_waysBy n m 7 st nd (nI q + (-1)) 0 0 0 (M.1, M.2.1, W) = lX10_waysBy_176 n n 0 0 (M.1, M.2.1, W') ∧ ∀ c, c < s → ∀ x, x < 24 → W' (24 * c + x) = VW th pa ky S M s st nd W' c x
  | 0, m, W, hq, hm, h => by
    obtain ⟨m, rfl⟩ : ∃ m', m = m' + 1 := ⟨m - 1, by omega⟩
    refine ⟨W, ?_, fun c hc => h c (Nat.zero_le _) hc⟩
    rw [lX10_waysBy, if_pos (show (7 = 7) by decide), if_pos (show nI 0 + (-1) < 0 by decide)]
  | q + 1, m, W, hq, hm, h => by
    have s8 := hP.2.1
    obtain ⟨m, rfl⟩ : ∃ m', m = m' + 1 := ⟨m - 1, by omega⟩
    rw [pk_m1, lX10_waysBy, if_pos (show (7 = 7) by decide), if_neg (nI_pos (show q < 2 ^ 31 by omega))]
    obtain ⟨m1, W1, a1, a2, a3, a4⟩ := w14 (st := st) (nd := nd) (n := n) w R hn hP (show q < s by omega) 24 0 m W rfl (by omega) (by omega)
    have a2 : lX10_waysBy n m 14 st nd (nI q) 0 0 0 (M.1, M.2.1, W) = _ := a2
    rw [a2]
    refine w7 w R hn hP q m1 W1 (by omega) (by omega) (fun c c1 c2 x hx => ?_)
    have cg : ∀ c', q < c' → ∀ y, y < 24 → W1 (24 * c' + y) = W (24 * c' + y) := fun c' h1 y hy => a3 _ (by omega)
    by_cases e : c = q
    · subst e
      rw [a4 x (by omega) hx]
      exact VW_congr (fun c' h1 h2 y hy => (cg c' h1 y hy).symm) x
    · rw [cg c (by omega) x hx, h c (by omega) c2 x hx]
      exact VW_congr (fun c' h1 h2 y hy => (cg c' (by omega) y hy).symm) x
theorem l176 {W : Nat → Int64} {a : Nat → Int32} {b : Nat → Nat → Int32} : ∀ m k, k ≤ 24 → 24 - k < m → lX10_waysBy_176 n m (sm (fun v => W v) k) (nI k) (a, b, W) = some (sm (fun v => W v) 24, (a, b, W))
  | 0, _, _, h => absurd h (by omega)
  | m + 1, k, hk, hm => by
    rw [lX10_waysBy_176]
    by_cases e : k = 24
    · subst e
      rw [if_pos (show (24 : Int32) ≤ nI 24 by decide)]
    · rw [if_neg (show ¬ (24 : Int32) ≤ nI k from nI_ge (b := 24) (by omega) (by decide)), if_neg (nI_in (show k < 192 by omega) (by decide)), nI_clamp (show k < 2 ^ 31 by omega), nI_1]
      exact l176 m (k + 1) (by omega) (by omega)
theorem waysBy_s (w : wfT th pa ky) (R : RM M th pa ky) (hn : 3000 ≤ n) (hP : PM S M s) (s1 : 1 ≤ s) : ∃ W, fX10_waysBy n M st nd = some (sm (fun v => W v) 24, (M.1, M.2.1, W)) ∧ ∀ c, c < s → ∀ x, x < 24 → W (24 * c + x) = VW th pa ky S M s st nd W c x := by
  have s8 := hP.2.1
  obtain ⟨W, a1, a2⟩ := w7 (st := st) (nd := nd) (n := n) w R (by omega) hP s n M.2.2 (Nat.le_refl _) (by omega) (fun c c1 c2 => absurd c1 (by omega))
  refine ⟨W, ?_, a2⟩
  unfold fX10_waysBy
  rw [hP.1, show nI s - 1 = nI s + (-1) by obtain ⟨t, rfl⟩ : ∃ t, s = t + 1 := ⟨s - 1, by omega⟩; rw [nI_pred, pk_m1]]
  have a1 : lX10_waysBy n n 7 st nd (nI s + (-1)) 0 0 0 M = _ := a1
  rw [a1]
  exact l176 n 0 (by omega) (by omega)
/-! sums by numbers and by ranks -/
def lsm (f : Nat → Int64) : List Nat → Int64
  | [] => 0
  | x :: l => f x + lsm f l
theorem lsm_perm {f : Nat → Int64} {l l' : List Nat} (h : l.Perm l') : lsm f l = lsm f l' := by
  induction h with
  | nil => rfl
  | cons x _ ih => exact congrArg (f x + ·) ih
  | swap x y l =>
    show f y + (f x + lsm f l) = f x + (f y + lsm f l)
    rw [← Int64.add_assoc, ← Int64.add_assoc, Int64.add_comm (f y)]
  | trans _ _ i1 i2 => exact i1.trans i2
theorem lsm_app {f : Nat → Int64} : ∀ l m : List Nat, lsm f (l ++ m) = lsm f l + lsm f m
  | [], m => (Int64.zero_add _).symm
  | x :: l, m => by
    show f x + lsm f (l ++ m) = f x + lsm f l + lsm f m
    rw [lsm_app l m, Int64.add_assoc]
theorem sm_lsm {f : Nat → Int64} {p : Nat → Bool} : ∀ N, sm (fun x => if p x = true then f x else 0) N = lsm f ((List.range N).filter p)
  | 0 => rfl
  | N + 1 => by
    rw [List.range_succ, List.filter_append, lsm_app]
    show sm (fun x => if p x = true then f x else 0) N + (if p N = true then f N else 0) = _
    rw [sm_lsm N]
    congr 1
    by_cases c : p N = true
    · rw [if_pos c, List.filter_cons_of_pos c]
      show f N = f N + 0
      rw [Int64.add_zero]
    · rw [if_neg c, List.filter_cons_of_neg c]
      rfl
theorem sm_front (g : Nat → Int64) : ∀ k, sm g (k + 1) = g 0 + sm (fun i => g (i + 1)) k
  | 0 => by
    show 0 + g 0 = g 0 + 0
    rw [Int64.zero_add, Int64.add_zero]
  | k + 1 => by
    show sm g (k + 1) + g (k + 1) = g 0 + (sm (fun i => g (i + 1)) k + g (k + 1))
    rw [sm_front g k, Int64.add_assoc]
theorem lsm_ix {f : Nat → Int64} : ∀ l : List Nat, lsm f l = sm (fun k => f ((l[k]?).getD 0)) l.length
  | [] => rfl
  | x :: l => by
    show f x + lsm f l = sm (fun k => f (((x :: l)[k]?).getD 0)) (l.length + 1)
    rw [sm_front, lsm_ix l]
    rfl
/-- the node of a rank -/
def ndk (th : Nat → Bool) (pa ky : Nat → Nat) (k : Nat) : Nat := ((pre th pa ky 0)[k]?).getD 0
theorem ndk_s (w : wfT th pa ky) (h0 : th 0 = true) {k : Nat} (hk : k < (pre th pa ky 0).length) : (pre th pa ky 0)[k]? = some (ndk th pa ky k) ∧ th (ndk th pa ky k) = true ∧ rk th pa ky (ndk th pa ky k) = k := by
  have hx := List.getElem?_eq_getElem hk
  have e : ndk th pa ky k = (pre th pa ky 0)[k] := by
    unfold ndk
    rw [hx]
    rfl
  rw [e]
  exact ⟨hx, L_th w h0 hx, rk_get w h0 hx⟩
theorem rk_nd (w : wfT th pa ky) (h0 : th 0 = true) {v : Nat} (tv : th v = true) : ndk th pa ky (rk th pa ky v) = v := by
  unfold ndk
  rw [get_rk w h0 tv]
  rfl
theorem rank_sum (w : wfT th pa ky) (h0 : th 0 = true) (f : Nat → Int64) : sm (fun x => if th x = true then f x else 0) 24 = sm (fun k => f (ndk th pa ky k)) (pre th pa ky 0).length := by
  rw [sm_lsm]
  have nd : (pre th pa ky 0).Nodup := pre_nodup w 24 0 h0
  have pm : ((List.range 24).filter th).Perm (pre th pa ky 0) := (List.perm_ext_iff_of_nodup (List.nodup_range.sublist List.filter_sublist) nd).mpr (fun x => by
    rw [List.mem_filter, List.mem_range, pre_mem w h0]
    exact ⟨fun h => ⟨h.2, ov_root w x h.2⟩, fun h => ⟨w.lt h.1, h.1⟩⟩)
  rw [lsm_perm pm, lsm_ix]
  rfl
/-- the rows by ranks -/
def okR (S : tS) (T : tT) (O : tO) (th : Nat → Bool) (pa ky : Nat → Nat) (st nd : Int32) (q k : Nat) : Bool := okC S T O q k && (decide (¬ nI q = st) || decide (nI (ndk th pa ky k) = nd))
theorem EQ_W (w : wfT th pa ky) (h0 : th 0 = true) (hO : OR O th pa ky) (hS : PR S (M.2.1 17) (M.2.1 18) (M.2.1 19) s) (h15 : M.1 15 = nI s) (htag : ∀ v, th v = true → T.1 v = M.2.1 3 v) {W : Nat → Int64} (hW : ∀ c, c < s → ∀ x, x < 24 → W (24 * c + x) = VW th pa ky S M s st nd W c x) : EQ (pre th pa ky 0).length s (hgC S) (srC S O (pre th pa ky 0).length) (rcC S) (okR S T O th pa ky st nd) (fun q k => W (24 * q + ndk th pa ky k)) ∧ ((1 ≤ s) → sm (fun v => W v) 24 = sm (fun k => W (24 * 0 + ndk th pa ky k)) (pre th pa ky 0).length) := by
  have hP := PM_of h15 hS
  refine ⟨fun q hq k hk => ?_, fun s1 => ?_⟩
  · obtain ⟨k1, tk, rk1⟩ := ndk_s w h0 hk
    have k24 := w.lt tk
    show W (24 * q + ndk th pa ky k) = _
    rw [hW q hq _ k24]
    unfold VW
    rw [tk, Bool.true_and]
    have em : mayW M st nd q (ndk th pa ky k) = okR S T O th pa ky st nd q k := by
      unfold mayW okR okC
      obtain ⟨⟨t, _, t1, t2⟩, _⟩ := hS.2.2 q hq
      rw [(hO.2 k _ k1).1.1, nI_c k24, htag _ tk, t1, t2]
    rw [em]
    by_cases c : okR S T O th pa ky st nd q k = true
    · rw [if_pos c, if_pos c]
      refine pr_congr s (fun c hc => ?_)
      by_cases z : q < c ∧ hgC S c = q
      · rw [if_pos z, if_pos ⟨z.1, z.2, by omega⟩]
        unfold FW HS
        rw [rank_sum w h0]
        refine sm_congr _ (fun j hj => ?_)
        obtain ⟨j1, tj, rj⟩ := ndk_s w h0 hj
        obtain ⟨_, a, a4, x1, x2⟩ := (hS.2.2 c hc).2.1 (by omega)
        have ea : axM M c = a := by
          unfold axM
          rw [x2]
          exact nI_clamp (by omega)
        rw [ea, sd_cl w h0 hO x1 a4 tk _ tj, rk1, rj]
      · rw [if_neg z, if_neg (fun y => z ⟨y.1, y.2.1⟩)]
    · rw [if_neg c, if_neg c]
  · rw [← rank_sum w h0 (fun x => W (24 * 0 + x))]
    refine sm_congr 24 (fun x hx => ?_)
    by_cases tx : th x = true
    · rw [if_pos tx, Nat.mul_zero, Nat.zero_add]
    · rw [if_neg tx]
      have := hW 0 (by omega) x hx
      rw [Nat.mul_zero, Nat.zero_add] at this
      rw [this]
      unfold VW
      rw [if_neg]
      intro z
      exact tx ((Bool.and_eq_true _ _).mp z).1
theorem EQ_ok {N : Nat} {hg : Nat → Nat} {sr : Nat → Nat → Option Nat} {rc : Nat → Bool} {ok ok' : Nat → Nat → Bool} {A : Nat → Nat → Int64} (h : EQ N s hg sr rc ok A) (e : ∀ q, q < s → ∀ k, k < N → ok q k = ok' q k) : EQ N s hg sr rc ok' A := fun q hq k hk => by
  rw [h q hq k hk, e q hq k hk]
end WAYS2
