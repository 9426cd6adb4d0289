/-! THE ORDER: the walk from the root, node behind node, is the list pre -/
def upF (th : Nat → Bool) (pa ky : Nat → Nat) : Nat → Nat → Option Nat
  | 0, _ => none
  | m + 1, v => if v = 0 then none else match nk th pa ky (pa v) (ky v) with
    | some w => some w
    | none => upF th pa ky m (pa v)
def upN (th : Nat → Bool) (pa ky : Nat → Nat) (v : Nat) : Option Nat := upF th pa ky 24 v
/-- the one behind in the order -/
def bh (th : Nat → Bool) (pa ky : Nat → Nat) (v : Nat) : Option Nat := match nk th pa ky v 0 with
  | some w => some w
  | none => upN th pa ky v
def Ch (th : Nat → Bool) (pa ky : Nat → Nat) : Option Nat → List Nat → Option Nat → Prop
  | s, [], w => s = w
  | s, a :: L, w => s = some a ∧ Ch th pa ky (bh th pa ky a) L w
def klF (th : Nat → Bool) (pa ky : Nat → Nat) (p : Nat) : Nat → Nat → List Nat
  | 0, _ => []
  | m + 1, s => match nk th pa ky p s with
    | none => []
    | some v => v :: klF th pa ky p m (ky v)
def preF (th : Nat → Bool) (pa ky : Nat → Nat) : Nat → Nat → List Nat
  | 0, _ => []
  | m + 1, v => v :: (klF th pa ky v 24 0).flatMap (preF th pa ky m)
section WALK
variable {th : Nat → Bool} {pa ky : Nat → Nat}
theorem Ch.app : ∀ {L1 : List Nat} {s x w : Option Nat} {L2 : List Nat}, Ch th pa ky s L1 x → Ch th pa ky x L2 w → Ch th pa ky s (L1 ++ L2) w
  | [], s, x, w, L2, h1, h2 => by
    have h1 : s = x := h1
    rw [h1]
    exact h2
  | a :: L1, s, x, w, L2, h1, h2 => ⟨h1.1, Ch.app h1.2 h2⟩
theorem upF_eq (w : wfT th pa ky) : ∀ m k v, th v = true → v < m → v < k → upF th pa ky m v = upF th pa ky k v
  | 0, _, _, _, h, _ => absurd h (Nat.not_lt_zero _)
  | m + 1, 0, _, _, _, h => absurd h (Nat.not_lt_zero _)
  | m + 1, k + 1, v, ht, h1, h2 => by
    unfold upF
    by_cases c : v = 0
    · rw [if_pos c, if_pos c]
    · rw [if_neg c, if_neg c]
      have h := w.1 v (by omega) ht
      rw [upF_eq w m k (pa v) h.2.1 (by omega) (by omega)]
theorem up_step (w : wfT th pa ky) {v : Nat} (h1 : 1 ≤ v) (ht : th v = true) : upN th pa ky v = match nk th pa ky (pa v) (ky v) with
    | some w => some w
    | none => upN th pa ky (pa v) := by
  have h := w.1 v h1 ht
  have hv := w.lt ht
  show upF th pa ky (23 + 1) v = _
  unfold upF
  rw [if_neg (by omega)]
  cases nk th pa ky (pa v) (ky v) with
  | some x => rfl
  | none => exact upF_eq w 23 24 (pa v) h.2.1 (by omega) (by omega)
theorem up_0 : upN th pa ky 0 = none := rfl
theorem kl_walk (w : wfT th pa ky) {m p : Nat} (ih : ∀ c, 1 ≤ c → th c = true → pa c = p → Ch th pa ky (some c) (preF th pa ky m c) (upN th pa ky c)) : ∀ f s, kc th pa p ≤ kcsU th pa ky p s 24 + f → Ch th pa ky (match nk th pa ky p s with
    | some w => some w
    | none => upN th pa ky p) ((klF th pa ky p f s).flatMap (preF th pa ky m)) (upN th pa ky p)
  | 0, s, h => by
    cases hc : nk th pa ky p s with
    | none => exact rfl
    | some v =>
      have h1 := kcs_step w hc 24 (Nat.le_refl _)
      rw [if_pos (nk_spec hc).1] at h1
      have h2 := kcs_le (th := th) (pa := pa) (ky := ky) (p := p) (s := ky v) 24
      unfold kc at h
      omega
  | f + 1, s, h => by
    unfold klF
    cases hc : nk th pa ky p s with
    | none => exact rfl
    | some v =>
      obtain ⟨a1, a2, a3⟩ := nk_spec hc
      have h1 := kcs_step w hc 24 (Nat.le_refl _)
      rw [if_pos a1] at h1
      have hrec := kl_walk w ih f (ky v) (by omega)
      have hu := up_step w a2.1 a2.2.1
      rw [a2.2.2.1] at hu
      show Ch th pa ky (some v) (preF th pa ky m v ++ (klF th pa ky p f (ky v)).flatMap (preF th pa ky m)) (upN th pa ky p)
      refine Ch.app (ih v a2.1 a2.2.1 a2.2.2.1) ?_
      rw [hu]
      exact hrec
theorem pre_walk (w : wfT th pa ky) : ∀ m v, th v = true → 24 - v ≤ m → Ch th pa ky (some v) (preF th pa ky m v) (upN th pa ky v)
  | 0, v, ht, h => absurd (w.lt ht) (by omega)
  | m + 1, v, ht, h => by
    refine ⟨rfl, ?_⟩
    have := kl_walk w (m := m) (p := v) (fun c h1 h2 h3 => pre_walk w m c h2 (by have := (w.1 c h1 h2).1; omega)) 24 0 (by have := kc_le (th := th) (pa := pa) (p := v); omega)
    exact this
/-- the walk's i-th -/
def sqN (th : Nat → Bool) (pa ky : Nat → Nat) : Nat → Option Nat
  | 0 => some 0
  | i + 1 => (sqN th pa ky i).bind (bh th pa ky)
theorem Ch_get : ∀ {L : List Nat} {s : Option Nat}, Ch th pa ky s L none → ∀ {i : Nat}, (∀ f : Nat → Option Nat, f 0 = s → (∀ j, f (j + 1) = (f j).bind (bh th pa ky)) → f i = L[i]?)
  | [], s, h, i => fun f h0 hs => by
    have h : s = none := h
    have : ∀ j, f j = none := fun j => by
      induction j with
      | zero => rw [h0, h]
      | succ j ih => rw [hs, ih]; rfl
    rw [this i]
    simp
  | a :: L, s, h, 0 => fun f h0 hs => by rw [h0, h.1]; rfl
  | a :: L, s, h, i + 1 => fun f h0 hs => by
    have := Ch_get h.2 (i := i) (fun j => f (j + 1)) (by show f 1 = _; rw [hs 0, h0, h.1]; rfl) (fun j => hs (j + 1))
    rw [this]
    simp
theorem sq_get (w : wfT th pa ky) (h0 : th 0 = true) (i : Nat) : sqN th pa ky i = (preF th pa ky 24 0)[i]? :=
  Ch_get (pre_walk w 24 0 h0 (by decide)) (sqN th pa ky) rfl (fun _ => rfl)
/-- v is w or above it -/
def ovF (pa : Nat → Nat) (v : Nat) : Nat → Nat → Bool
  | 0, _ => false
  | m + 1, w => if w = v then true else if w = 0 then false else ovF pa v m (pa w)
def ov (pa : Nat → Nat) (v w : Nat) : Bool := ovF pa v 24 w
theorem ovF_eq (w : wfT th pa ky) {v : Nat} : ∀ m k x, th x = true → x < m → x < k → ovF pa v m x = ovF pa v k x
  | 0, _, _, _, h, _ => absurd h (Nat.not_lt_zero _)
  | m + 1, 0, _, _, _, h => absurd h (Nat.not_lt_zero _)
  | m + 1, k + 1, x, ht, h1, h2 => by
    unfold ovF
    by_cases c : x = v
    · rw [if_pos c, if_pos c]
    · rw [if_neg c, if_neg c]
      by_cases c2 : x = 0
      · rw [if_pos c2, if_pos c2]
      · rw [if_neg c2, if_neg c2]
        have h := w.1 x (by omega) ht
        exact ovF_eq w m k (pa x) h.2.1 (by omega) (by omega)
theorem ov_self (v : Nat) : ov pa v v = true := if_pos rfl
theorem ov_0 {v : Nat} (h : v ≠ 0) : ov pa v 0 = false := by
  show (if 0 = v then true else if 0 = 0 then false else _) = false
  rw [if_neg (fun e => h e.symm), if_pos rfl]
theorem ov_step (w : wfT th pa ky) {v x : Nat} (h1 : 1 ≤ x) (ht : th x = true) (hn : x ≠ v) : ov pa v x = ov pa v (pa x) := by
  have h := w.1 x h1 ht
  have hv := w.lt ht
  show ovF pa v (23 + 1) x = _
  unfold ovF
  rw [if_neg hn, if_neg (by omega)]
  exact ovF_eq w 23 24 (pa x) h.2.1 (by omega) (by omega)
theorem ov_le (w : wfT th pa ky) {v : Nat} : ∀ x, th x = true → ov pa v x = true → v ≤ x := fun x => by
  induction x using Nat.strongRecOn with
  | _ x ih =>
    intro ht h
    by_cases c : x = v
    · omega
    · by_cases c2 : x = 0
      · subst c2
        rw [ov_0 (fun e => c e.symm)] at h
        cases h
      · rw [ov_step w (by omega) ht c] at h
        have hp := w.1 x (by omega) ht
        have := ih (pa x) hp.1 hp.2.1 h
        omega
theorem ov_trans (w : wfT th pa ky) {u v : Nat} (huv : ov pa u v = true) : ∀ x, th x = true → ov pa v x = true → ov pa u x = true := fun x => by
  induction x using Nat.strongRecOn with
  | _ x ih =>
    intro ht h
    by_cases c : x = v
    · rw [c]
      exact huv
    · by_cases c2 : x = 0
      · subst c2
        rw [ov_0 (fun e => c e.symm)] at h
        cases h
      · rw [ov_step w (by omega) ht c] at h
        have hp := w.1 x (by omega) ht
        have := ih (pa x) hp.1 hp.2.1 h
        by_cases c3 : x = u
        · rw [c3]
          exact ov_self u
        · rw [ov_step w (by omega) ht c3]
          exact this
/-- those above one are above one another -/
theorem ov_line (w : wfT th pa ky) {u v : Nat} : ∀ x, th x = true → ov pa u x = true → ov pa v x = true → ov pa u v = true ∨ ov pa v u = true := fun x => by
  induction x using Nat.strongRecOn with
  | _ x ih =>
    intro ht h1 h2
    by_cases c : x = u
    · rw [c] at h2
      exact Or.inr h2
    · by_cases c1 : x = v
      · rw [c1] at h1
        exact Or.inl h1
      · by_cases c2 : x = 0
        · subst c2
          rw [ov_0 (fun e => c e.symm)] at h1
          cases h1
        · rw [ov_step w (by omega) ht c] at h1
          rw [ov_step w (by omega) ht c1] at h2
          have hp := w.1 x (by omega) ht
          exact ih (pa x) hp.1 hp.2.1 h1 h2
theorem ov_root (w : wfT th pa ky) : ∀ x, th x = true → ov pa 0 x = true := fun x => by
  induction x using Nat.strongRecOn with
  | _ x ih =>
    intro ht
    by_cases c : x = 0
    · rw [c]
      exact ov_self 0
    · rw [ov_step w (by omega) ht c]
      have hp := w.1 x (by omega) ht
      exact ih (pa x) hp.1 hp.2.1
end WALK
