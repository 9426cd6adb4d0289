/-! SUMS and PRODUCTS of longs; what an axis reaches, by sources -/
def sm (f : Nat → Int64) : Nat → Int64
  | 0 => 0
  | k + 1 => sm f k + f k
def pr (f : Nat → Int64) : Nat → Int64
  | 0 => 1
  | k + 1 => pr f k * f k
theorem sm_congr {f g : Nat → Int64} : ∀ N, (∀ i, i < N → f i = g i) → sm f N = sm g N
  | 0, _ => rfl
  | N + 1, h => by
    unfold sm
    rw [sm_congr N (fun i hi => h i (by omega)), h N (by omega)]
theorem pr_congr {f g : Nat → Int64} : ∀ N, (∀ i, i < N → f i = g i) → pr f N = pr g N
  | 0, _ => rfl
  | N + 1, h => by
    unfold pr
    rw [pr_congr N (fun i hi => h i (by omega)), h N (by omega)]
theorem sm_add (f g : Nat → Int64) : ∀ N, sm (fun i => f i + g i) N = sm f N + sm g N
  | 0 => rfl
  | N + 1 => by
    unfold sm
    rw [sm_add f g N, Int64.add_assoc, Int64.add_assoc, ← Int64.add_assoc (sm g N), Int64.add_comm (sm g N) (f N), Int64.add_assoc (f N)]
theorem sm_mul (f : Nat → Int64) (a : Int64) : ∀ N, sm f N * a = sm (fun i => f i * a) N
  | 0 => Int64.zero_mul
  | N + 1 => by
    unfold sm
    rw [Int64.add_mul, sm_mul f a N]
theorem sm_zero : ∀ N, sm (fun _ => 0) N = 0
  | 0 => rfl
  | N + 1 => by
    unfold sm
    rw [sm_zero N, Int64.add_zero]
theorem sm_swap (F : Nat → Nat → Int64) (K : Nat) : ∀ N, sm (fun i => sm (fun j => F i j) K) N = sm (fun j => sm (fun i => F i j) N) K
  | 0 => (sm_zero K).symm
  | N + 1 => by
    show sm (fun i => sm (fun j => F i j) K) N + sm (fun j => F N j) K = sm (fun j => sm (fun i => F i j) N + F N j) K
    rw [sm_swap F K N, sm_add]
theorem sm_one {x : Nat → Int64} {k : Nat} : ∀ N, sm (fun i => if i = k then x i else 0) N = if k < N then x k else 0
  | 0 => rfl
  | N + 1 => by
    show sm (fun i => if i = k then x i else 0) N + (if N = k then x N else 0) = _
    rw [sm_one N]
    by_cases c : N = k
    · subst c
      rw [if_neg (by omega), if_pos rfl, if_pos (by omega), Int64.zero_add]
    · rw [if_neg c, Int64.add_zero]
      by_cases c2 : k < N
      · rw [if_pos c2, if_pos (by omega)]
      · rw [if_neg c2, if_neg (by omega)]
theorem pr_out {f : Nat → Int64} {q : Nat} : ∀ N, q < N → pr f N = pr (fun c => if c = q then 1 else f c) N * f q
  | 0, h => absurd h (by omega)
  | N + 1, h => by
    show pr f N * f N = pr (fun c => if c = q then 1 else f c) N * (if N = q then 1 else f N) * f q
    by_cases c : N = q
    · subst c
      rw [if_pos rfl, Int64.mul_one]
      congr 1
      exact pr_congr N (fun i hi => (if_neg (show ¬ i = N by omega)).symm)
    · rw [if_neg c, pr_out (f := f) (q := q) N (by omega), Int64.mul_assoc, Int64.mul_comm (f q), ← Int64.mul_assoc]
theorem ite_add {a b : Bool} (h : ¬ (a = true ∧ b = true)) (x : Int64) : (if (a || b) = true then x else 0) = (if a = true then x else 0) + (if b = true then x else 0) := by
  cases a with
  | true =>
    cases b with
    | true => exact absurd ⟨rfl, rfl⟩ h
    | false =>
      show x = x + 0
      rw [Int64.add_zero]
  | false =>
    cases b with
    | true =>
      show x = 0 + x
      rw [Int64.zero_add]
    | false =>
      show (0 : Int64) = 0 + 0
      rw [Int64.add_zero]
/-! sources -/
def clF (sr : Nat → Option Nat) (rc : Bool) (j : Nat) : Nat → Nat → Bool
  | 0, _ => false
  | f + 1, k => match sr k with
    | none => false
    | some u => decide (u = j) || (rc && clF sr rc j f u)
def cl (sr : Nat → Option Nat) (rc : Bool) (j k : Nat) : Bool := clF sr rc j (k + 1) k
section CL
variable {sr : Nat → Option Nat} {rc : Bool}
theorem clF_eq (hd : ∀ k u, sr k = some u → u < k) {j : Nat} : ∀ f g k, k < f → k < g → clF sr rc j f k = clF sr rc j g k
  | 0, _, _, h, _ => absurd h (by omega)
  | _, 0, _, _, h => absurd h (by omega)
  | f + 1, g + 1, k, h1, h2 => by
    unfold clF
    cases h : sr k with
    | none => rfl
    | some u =>
      have := hd k u h
      dsimp only
      rw [clF_eq hd f g u (by omega) (by omega)]
theorem cl_none {j k : Nat} (h : sr k = none) : cl sr rc j k = false := by
  unfold cl clF
  rw [h]
theorem cl_some (hd : ∀ k u, sr k = some u → u < k) {j k u : Nat} (h : sr k = some u) : cl sr rc j k = (decide (u = j) || (rc && cl sr rc j u)) := by
  have := hd k u h
  show clF sr rc j (k + 1) k = _
  unfold clF
  rw [h]
  show (decide (u = j) || (rc && clF sr rc j k u)) = (decide (u = j) || (rc && clF sr rc j (u + 1) u))
  rw [clF_eq hd k (u + 1) u (by omega) (by omega)]
theorem cl_lt (hd : ∀ k u, sr k = some u → u < k) {j : Nat} : ∀ k, cl sr rc j k = true → j < k := fun k => by
  induction k using Nat.strongRecOn with
  | ind k ih =>
    intro h
    cases hs : sr k with
    | none => rw [cl_none hs] at h; cases h
    | some u =>
      have hu := hd k u hs
      rw [cl_some hd hs, Bool.or_eq_true, Bool.and_eq_true] at h
      rcases h with h | h
      · have := of_decide_eq_true h
        omega
      · have := ih u hu h.2
        omega
theorem cl_not (hd : ∀ k u, sr k = some u → u < k) {j : Nat} : cl sr rc j j = false := by
  cases h : cl sr rc j j with
  | false => rfl
  | true =>
    have := cl_lt hd j h
    omega
theorem cl_line (hd : ∀ k u, sr k = some u → u < k) {a b : Nat} : ∀ k, cl sr true a k = true → cl sr true b k = true → a = b ∨ cl sr true a b = true ∨ cl sr true b a = true := fun k => by
  induction k using Nat.strongRecOn with
  | ind k ih =>
    intro ha hb
    cases hs : sr k with
    | none => rw [cl_none hs] at ha; cases ha
    | some u =>
      have hu := hd k u hs
      rw [cl_some hd hs, Bool.or_eq_true, Bool.true_and] at ha hb
      rcases ha with ha | ha
      · have ha := of_decide_eq_true ha
        subst ha
        rcases hb with hb | hb
        · exact Or.inl (of_decide_eq_true hb)
        · exact Or.inr (Or.inr hb)
      · rcases hb with hb | hb
        · have hb := of_decide_eq_true hb
          subst hb
          exact Or.inr (Or.inl ha)
        · exact ih u hu ha hb
/-- the sum of what is reached from j -/
def HS (sr : Nat → Option Nat) (rc : Bool) (x : Nat → Int64) (N j : Nat) : Int64 := sm (fun k => if cl sr rc j k = true then x k else 0) N
theorem cl_split (hd : ∀ k u, sr k = some u → u < k) {N r : Nat} (x : Int64) : ∀ w, w < N → (if cl sr rc r w = true then x else 0) = (if decide (sr w = some r) = true then x else 0) + (if rc = true then sm (fun k => if decide (sr k = some r) = true then (if cl sr rc k w = true then x else 0) else 0) N else 0) := fun w => by
  induction w using Nat.strongRecOn with
  | ind w ih =>
    intro hw
    cases hs : sr w with
    | none =>
      rw [cl_none hs, if_neg (by decide), if_neg (show ¬ decide ((none : Option Nat) = some r) = true by simp)]
      have : sm (fun k => if decide (sr k = some r) = true then (if cl sr rc k w = true then x else 0) else 0) N = 0 := by
        rw [sm_congr (g := fun _ => 0) N (fun i hi => by rw [cl_none hs]; split <;> rfl), sm_zero]
      rw [this]
      cases rc <;> rfl
    | some u =>
      have hu := hd w u hs
      rw [cl_some hd hs]
      have e1 : decide (some u = some r) = decide (u = r) := by simp
      rw [e1]
      cases rc with
      | false => rw [Bool.false_and, Bool.or_false, if_neg (show ¬ (false = true) by decide), Int64.add_zero]
      | true =>
        rw [Bool.true_and, if_pos (show true = true from rfl), ite_add (fun q => by
          have h1 := of_decide_eq_true q.1
          subst h1
          have := cl_lt hd _ q.2
          omega)]
        congr 1
        rw [ih u hu (by omega), if_pos (show true = true from rfl)]
        rw [sm_congr (f := fun k => if decide (sr k = some r) = true then (if cl sr true k w = true then x else 0) else 0) (g := fun k => (if k = u then (if decide (sr k = some r) = true then x else 0) else 0) + (if decide (sr k = some r) = true then (if cl sr true k u = true then x else 0) else 0)) N (fun k hk => ?_), sm_add, sm_one, if_pos (show u < N by omega)]
        · show (if decide (sr k = some r) = true then (if cl sr true k w = true then x else 0) else 0) = _
          by_cases c : sr k = some r
          · rw [if_pos (decide_eq_true c), if_pos (decide_eq_true c), if_pos (decide_eq_true c), cl_some hd hs, Bool.true_and, ite_add (fun q => by
              have h1 := of_decide_eq_true q.1
              subst h1
              have := cl_lt hd _ q.2
              omega)]
            congr 1
            by_cases c2 : k = u
            · rw [if_pos c2, if_pos (decide_eq_true c2.symm)]
            · rw [if_neg c2, if_neg (fun q => c2 (of_decide_eq_true q).symm)]
          · rw [if_neg (fun q => c (of_decide_eq_true q)), if_neg (fun q => c (of_decide_eq_true q)), if_neg (fun q => c (of_decide_eq_true q)), Int64.add_zero]
            split <;> rfl
theorem HS_rec (hd : ∀ k u, sr k = some u → u < k) {N r : Nat} (x : Nat → Int64) : HS sr rc x N r = sm (fun k => if decide (sr k = some r) = true then (x k + (if rc = true then HS sr rc x N k else 0)) else 0) N := by
  unfold HS
  rw [sm_congr (g := fun w => (if decide (sr w = some r) = true then x w else 0) + (if rc = true then sm (fun k => if decide (sr k = some r) = true then (if cl sr rc k w = true then x w else 0) else 0) N else 0)) N (fun w hw => cl_split hd (x w) w hw), sm_add]
  rw [sm_congr (f := fun k => if decide (sr k = some r) = true then (x k + (if rc = true then sm (fun w => if cl sr rc k w = true then x w else 0) N else 0)) else 0) (g := fun k => (if decide (sr k = some r) = true then x k else 0) + (if decide (sr k = some r) = true then (if rc = true then sm (fun w => if cl sr rc k w = true then x w else 0) N else 0) else 0)) N (fun k hk => ?_), sm_add]
  · congr 1
    cases rc with
    | false =>
      rw [sm_congr (g := fun _ => 0) N (fun w hw => if_neg (by decide)), sm_zero]
      rw [sm_congr (g := fun _ => 0) N (fun w hw => by rw [if_neg (show ¬ (false = true) by decide)]; split <;> rfl), sm_zero]
    | true =>
      rw [sm_congr (g := fun w => sm (fun k => if decide (sr k = some r) = true then (if cl sr true k w = true then x w else 0) else 0) N) N (fun w hw => if_pos rfl), sm_swap]
      refine sm_congr N (fun k hk => ?_)
      by_cases c : decide (sr k = some r) = true
      · rw [if_pos c, if_pos rfl]
        exact sm_congr N (fun w hw => if_pos c)
      · rw [if_neg c, sm_congr (g := fun _ => 0) N (fun w hw => if_neg c), sm_zero]
  · by_cases c : decide (sr k = some r) = true
    · rw [if_pos c, if_pos c, if_pos c]
    · rw [if_neg c, if_neg c, if_neg c, Int64.add_zero]
/-- the sum over those from which w is reached -/
def OS (sr : Nat → Option Nat) (rc : Bool) (x : Nat → Int64) (N w : Nat) : Int64 := sm (fun v => if cl sr rc v w = true then x v else 0) N
theorem OS_none {x : Nat → Int64} {N w : Nat} (h : sr w = none) : OS sr rc x N w = 0 := by
  unfold OS
  rw [sm_congr (g := fun _ => 0) N (fun i hi => by rw [cl_none h]; rfl), sm_zero]
theorem OS_some (hd : ∀ k u, sr k = some u → u < k) {x : Nat → Int64} {N w u : Nat} (h : sr w = some u) (hw : w < N) : OS sr rc x N w = x u + (if rc = true then OS sr rc x N u else 0) := by
  have hu := hd w u h
  unfold OS
  rw [sm_congr (g := fun v => (if v = u then x v else 0) + (if (rc && cl sr rc v u) = true then x v else 0)) N (fun v hv => ?_), sm_add, sm_one, if_pos (show u < N by omega)]
  · congr 1
    cases rc with
    | false =>
      rw [if_neg (by decide), sm_congr (g := fun _ => 0) N (fun i hi => by rw [Bool.false_and]; rfl), sm_zero]
    | true =>
      rw [if_pos rfl]
      exact sm_congr N (fun i hi => by rw [Bool.true_and])
  · show (if cl sr rc v w = true then x v else 0) = _
    rw [cl_some hd h, ite_add (fun q => by
      have h1 := of_decide_eq_true q.1
      subst h1
      have h2 := (Bool.and_eq_true _ _).mp q.2
      have := cl_lt hd _ h2.2
      omega)]
    congr 1
    by_cases c2 : v = u
    · rw [if_pos c2, if_pos (decide_eq_true c2.symm)]
    · rw [if_neg c2, if_neg (fun q => c2 (of_decide_eq_true q).symm)]
end CL
