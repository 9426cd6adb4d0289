/-! MATCHES: what the arrays of both sides satisfy -/
section EQ
variable (N s : Nat) (hg : Nat → Nat) (sr : Nat → Nat → Option Nat) (rc : Nat → Bool)
/-- the product of what hangs on q, at k; but for one -/
def PD (A : Nat → Nat → Int64) (q wo k : Nat) : Int64 := pr (fun c => if q < c ∧ hg c = q ∧ c ≠ wo then HS (sr c) (rc c) (A c) N k else 1) s
def EQ (ok : Nat → Nat → Bool) (A : Nat → Nat → Int64) : Prop := ∀ q, q < s → ∀ k, k < N → A q k = if ok q k = true then PD N s hg sr rc A q s k else 0
/-- the other part -/
def EO (ok : Nat → Nat → Bool) (A B : Nat → Nat → Int64) : Prop := (∀ k, k < N → B 0 k = 1) ∧ ∀ q, 1 ≤ q → q < s → ∀ k, k < N → B q k = OS (sr q) (rc q) (fun x => if ok (hg q) x = true then B (hg q) x * PD N s hg sr rc A (hg q) q x else 0) N k
end EQ
section EQ2
variable {N s : Nat} {hg : Nat → Nat} {sr : Nat → Nat → Option Nat} {rc : Nat → Bool} {ok ok' : Nat → Nat → Bool} {A B C : Nat → Nat → Int64}
theorem HS_congr {f : Nat → Option Nat} {r : Bool} {x y : Nat → Int64} (h : ∀ k, k < N → x k = y k) (j : Nat) : HS f r x N j = HS f r y N j := sm_congr N (fun k hk => by rw [h k hk])
theorem PD_congr {q wo : Nat} (h : ∀ c, q < c → c < s → hg c = q → c ≠ wo → ∀ k, k < N → A c k = B c k) (k : Nat) : PD N s hg sr rc A q wo k = PD N s hg sr rc B q wo k := by
  refine pr_congr s (fun c hc => ?_)
  by_cases z : q < c ∧ hg c = q ∧ c ≠ wo
  · rw [if_pos z, if_pos z]
    exact HS_congr (h c z.1 hc z.2.1 z.2.2) k
  · rw [if_neg z, if_neg z]
theorem EQ_one (h : EQ N s hg sr rc ok A) (g : EQ N s hg sr rc ok B) : ∀ d q, s - q ≤ d → q < s → ∀ k, k < N → A q k = B q k
  | 0, q, hd, hq, _, _ => absurd hd (by omega)
  | d + 1, q, hd, hq, k, hk => by
    rw [h q hq k hk, g q hq k hk]
    by_cases c : ok q k = true
    · rw [if_pos c, if_pos c]
      exact PD_congr (fun c h1 h2 _ _ => EQ_one h g d c (by omega) h2) k
    · rw [if_neg c, if_neg c]
/-- the STEPS on which a STEP hangs -/
def hgo (hg : Nat → Nat) (q : Nat) : Option Nat := if q = 0 then none else some (hg q)
theorem EQ_path (hh : ∀ q, 1 ≤ q → q < s → hg q < q) (hA : EQ N s hg sr rc ok A) (hO : EO N s hg sr rc ok A C) {q0 k0 : Nat} (hq0 : q0 < s) (hk0 : k0 < N) (hB : EQ N s hg sr rc (fun q k => ok q k && (decide (q ≠ q0) || decide (k = k0))) B) : sm (fun k => B 0 k) N = A q0 k0 * C q0 k0 := by
  have hB : ∀ q, q < s → ∀ k, k < N → B q k = if (ok q k && (decide (q ≠ q0) || decide (k = k0))) = true then PD N s hg sr rc B q s k else 0 := hB
  -- what is not above q0 is the same
  have off : ∀ d q, s - q ≤ d → q < s → q ≠ q0 → ¬ (q < s ∧ cl (fun q => if q < s then hgo hg q else none) true q q0 = true) → ∀ k, k < N → B q k = A q k := by
    intro d
    induction d with
    | zero => intro q hd hq; omega
    | succ d ih =>
      intro q hd hq hne hno k hk
      have hdec : ∀ k u, (fun q => if q < s then hgo hg q else none) k = some u → u < k := fun k u e => by
        dsimp only at e
        split at e
        · unfold hgo at e
          split at e
          · cases e
          · cases e
            exact hh k (by omega) (by assumption)
        · cases e
      rw [hB q hq k hk, hA q hq k hk]
      rw [decide_eq_true hne, Bool.true_or, Bool.and_true]
      by_cases c : ok q k = true
      · rw [if_pos c, if_pos c]
        refine PD_congr (fun c h1 h2 h3 _ => ih c (by omega) h2 (fun e => ?_) (fun e => ?_)) k
        · subst e
          refine hno ⟨hq, ?_⟩
          have e2 : (fun q => if q < s then hgo hg q else none) c = some q := by
            dsimp only
            rw [if_pos h2]
            unfold hgo
            rw [if_neg (by omega), h3]
          rw [cl_some hdec e2, decide_eq_true rfl]
          rfl
        · refine hno ⟨hq, ?_⟩
          -- q is above c, and c above q0
          have tr : ∀ x, cl (fun q => if q < s then hgo hg q else none) true c x = true → cl (fun q => if q < s then hgo hg q else none) true q x = true := fun x => by
            induction x using Nat.strongRecOn with
            | ind x ihx =>
              intro hx
              cases hs : (fun q => if q < s then hgo hg q else none) x with
              | none => rw [cl_none hs] at hx; cases hx
              | some u =>
                have hu := hdec x u hs
                rw [cl_some hdec hs, Bool.or_eq_true, Bool.true_and] at hx
                rw [cl_some hdec hs, Bool.or_eq_true, Bool.true_and]
                right
                rcases hx with hx | hx
                · have hx := of_decide_eq_true hx
                  subst hx
                  have e2 : (fun q => if q < s then hgo hg q else none) u = some q := by
                    dsimp only
                    rw [if_pos h2]
                    unfold hgo
                    rw [if_neg (by omega), h3]
                  rw [cl_some hdec e2, decide_eq_true rfl]
                  rfl
                · exact ihx u hu hx
          exact tr q0 e.2
      · rw [if_neg c, if_neg c]
  have hdec : ∀ k u, (fun q => if q < s then hgo hg q else none) k = some u → u < k := fun k u e => by
    dsimp only at e
    split at e
    · unfold hgo at e
      split at e
      · cases e
      · cases e
        exact hh k (by omega) (by assumption)
    · cases e
  have src : ∀ q, 1 ≤ q → q < s → (fun q => if q < s then hgo hg q else none) q = some (hg q) := fun q h1 h2 => by
    dsimp only
    rw [if_pos h2]
    unfold hgo
    rw [if_neg (by omega)]
  -- up the path
  have up : ∀ q, q < s → (q = q0 ∨ cl (fun q => if q < s then hgo hg q else none) true q q0 = true) → sm (fun k => B q k * C q k) N = A q0 k0 * C q0 k0 → sm (fun k => B 0 k) N = A q0 k0 * C q0 k0 := fun q => by
    induction q using Nat.strongRecOn with
    | ind q ih =>
      intro hq hon hsum
      by_cases c0 : q = 0
      · subst c0
        rw [← hsum]
        exact sm_congr N (fun k hk => by rw [hO.1 k hk, Int64.mul_one])
      · have h1 : 1 ≤ q := by omega
        have hp := hh q h1 hq
        have hps : hg q < s := by omega
        have onp : cl (fun q => if q < s then hgo hg q else none) true (hg q) q0 = true := by
          rcases hon with e | e
          · subst e
            rw [cl_some hdec (src q h1 hq), decide_eq_true rfl]
            rfl
          · have tr : ∀ x, cl (fun q => if q < s then hgo hg q else none) true q x = true → cl (fun q => if q < s then hgo hg q else none) true (hg q) x = true := fun x => by
              induction x using Nat.strongRecOn with
              | ind x ihx =>
                intro hx
                cases hs : (fun q => if q < s then hgo hg q else none) x with
                | none => rw [cl_none hs] at hx; cases hx
                | some u =>
                  have hu := hdec x u hs
                  rw [cl_some hdec hs, Bool.or_eq_true, Bool.true_and] at hx
                  rw [cl_some hdec hs, Bool.or_eq_true, Bool.true_and]
                  right
                  rcases hx with hx | hx
                  · have hx := of_decide_eq_true hx
                    subst hx
                    rw [cl_some hdec (src u h1 hq), decide_eq_true rfl]
                    rfl
                  · exact ihx u hu hx
            exact tr q0 e
        refine ih (hg q) hp hps (Or.inr onp) ?_
        rw [← hsum]
        have pne : hg q ≠ q0 := fun e => by
          have := cl_lt hdec _ onp
          omega
        -- others that hang on the same are off the path
        have oth : ∀ c, hg q < c → c < s → hg c = hg q → c ≠ q → ∀ k, k < N → B c k = A c k := by
          intro c c1 c2 c3 c4
          have hcs := src c (by omega) c2
          refine off s c (by omega) c2 (fun e => ?_) (fun e => ?_)
          · subst e
            rcases hon with e | e
            · exact c4 e.symm
            · rw [cl_some hdec hcs, Bool.or_eq_true, Bool.true_and] at e
              rcases e with e | e
              · have := of_decide_eq_true e
                omega
              · have := cl_lt hdec _ e
                omega
          · rcases hon with z | z
            · subst z
              have e := e.2
              rw [cl_some hdec (src q h1 hq), Bool.or_eq_true, Bool.true_and] at e
              rcases e with e | e
              · have := of_decide_eq_true e
                omega
              · have := cl_lt hdec _ e
                omega
            · rcases cl_line hdec _ e.2 z with y | y | y
              · exact c4 y
              · rw [cl_some hdec (src q h1 hq), Bool.or_eq_true, Bool.true_and] at y
                rcases y with y | y
                · have := of_decide_eq_true y
                  omega
                · have := cl_lt hdec _ y
                  omega
              · rw [cl_some hdec hcs, Bool.or_eq_true, Bool.true_and] at y
                rcases y with y | y
                · have := of_decide_eq_true y
                  omega
                · have := cl_lt hdec _ y
                  omega
        have eB : ∀ x, x < N → B (hg q) x * C (hg q) x = (if ok (hg q) x = true then C (hg q) x * PD N s hg sr rc A (hg q) q x else 0) * HS (sr q) (rc q) (B q) N x := by
          intro x hx
          rw [hB (hg q) hps x hx]
          rw [decide_eq_true pne, Bool.true_or, Bool.and_true]
          by_cases c : ok (hg q) x = true
          · rw [if_pos c, if_pos c]
            have e1 : PD N s hg sr rc B (hg q) s x = PD N s hg sr rc A (hg q) q x * HS (sr q) (rc q) (B q) N x := by
              rw [← PD_congr (A := B) (B := A) oth x]
              unfold PD
              rw [pr_out (q := q) s hq, if_pos ⟨hp, rfl, by omega⟩]
              congr 1
              refine pr_congr s (fun c hc => ?_)
              by_cases ec : c = q
              · rw [if_pos ec, if_neg (fun z => z.2.2 ec)]
              · rw [if_neg ec]
                by_cases z : hg q < c ∧ hg c = hg q
                · rw [if_pos ⟨z.1, z.2, by omega⟩, if_pos ⟨z.1, z.2, ec⟩]
                · rw [if_neg (fun y => z ⟨y.1, y.2.1⟩), if_neg (fun y => z ⟨y.1, y.2.1⟩)]
            rw [e1, Int64.mul_assoc, Int64.mul_comm (HS (sr q) (rc q) (B q) N x), ← Int64.mul_assoc, Int64.mul_comm (PD N s hg sr rc A (hg q) q x)]
          · rw [if_neg c, if_neg c, Int64.zero_mul, Int64.zero_mul]
        rw [sm_congr N eB]
        rw [sm_congr (f := fun k => B q k * C q k) (g := fun k => sm (fun x => (if cl (sr q) (rc q) x k = true then (if ok (hg q) x = true then C (hg q) x * PD N s hg sr rc A (hg q) q x else 0) * B q k else 0)) N) N (fun k hk => ?_), sm_swap]
        · refine sm_congr N (fun x hx => ?_)
          show _ * HS (sr q) (rc q) (B q) N x = _
          unfold HS
          rw [Int64.mul_comm, sm_mul]
          refine sm_congr N (fun k hk => ?_)
          by_cases c : cl (sr q) (rc q) x k = true
          · rw [if_pos c, if_pos c, Int64.mul_comm]
          · rw [if_neg c, if_neg c, Int64.zero_mul]
        · rw [hO.2 q h1 hq k hk, Int64.mul_comm]
          unfold OS
          rw [sm_mul]
          refine sm_congr N (fun x hx => ?_)
          by_cases c : cl (sr q) (rc q) x k = true
          · rw [if_pos c, if_pos c]
          · rw [if_neg c, if_neg c, Int64.zero_mul]
  refine up q0 hq0 (Or.inl rfl) ?_
  rw [sm_congr (g := fun k => if k = k0 then A q0 k0 * C q0 k0 else 0) N (fun k hk => ?_), sm_one (x := fun _ => A q0 k0 * C q0 k0), if_pos hk0]
  rw [hB q0 hq0 k hk]
  rw [decide_eq_false (show ¬ q0 ≠ q0 from fun z => z rfl), Bool.false_or]
  by_cases c : k = k0
  · subst c
    rw [decide_eq_true rfl, Bool.and_true, if_pos rfl, hA q0 hq0 k hk]
    congr 1
    by_cases c2 : ok q0 k = true
    · rw [if_pos c2, if_pos c2]
      refine PD_congr (fun c h1 h2 h3 _ => off s c (by omega) h2 (by omega) (fun e => ?_)) k
      have := cl_lt hdec _ e.2
      omega
    · rw [if_neg c2, if_neg c2]
  · rw [decide_eq_false c, Bool.and_false, if_neg (by decide), if_neg c, Int64.zero_mul]
end EQ2
