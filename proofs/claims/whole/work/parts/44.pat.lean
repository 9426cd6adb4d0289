/-! PATTERNS, letter by letter on both sides -/
def tgv (t : Nat) : Option Nat := if t = 42 then some 6 else if 97 ≤ t ∧ t ≤ 102 then some (t - 97) else none
def axv (t : Nat) : Option Nat := if t = 47 then some 0 else if t = 58 then some 1 else if t = 43 then some 2 else if t = 126 then some 3 else none
theorem axisFor_s : ∀ t, t < 200 → fX6_axisFor (nI t) = e1 (axv t) := by decide +kernel
theorem axisBy_s : ∀ t, t < 200 → fX10_axisBy (nI t) = some (e4 (axv t)) := by decide +kernel
theorem axv_lt {t a : Nat} (h : axv t = some a) : a < 4 := by
  unfold axv at h
  split at h
  · cases h; omega
  split at h
  · cases h; omega
  split at h
  · cases h; omega
  split at h
  · cases h; omega
  cases h
theorem tgv_le {t a : Nat} (h : tgv t = some a) : a ≤ 6 := by
  unfold tgv at h
  split at h
  · cases h; omega
  split at h
  · cases h; omega
  cases h
theorem ttag_s : ∀ t, t < 200 → ¬ t = 42 → fX9_isTag (nI t - 97) = (if 97 ≤ t ∧ t ≤ 102 then 1 else 0) ∧ (97 ≤ t → nI t - 97 = nI (t - 97)) := by decide +kernel
/-- the STEPS that are read, on both sides -/
def PR (S : tS) (mt mh ma : Nat → Int32) (s : Nat) : Prop := S.2.2.2.1 = nI s ∧ s ≤ 8 ∧ ∀ q, q < s → (∃ t, t ≤ 6 ∧ S.1 q = nI t ∧ mt q = nI t) ∧ (1 ≤ q → (∃ h, h < q ∧ S.2.1 q = nI h ∧ mh q = nI h) ∧ ∃ a, a < 4 ∧ S.2.2.1 q = nI a ∧ ma q = nI a) ∧ (q = 0 → S.2.1 q = -1 ∧ mh q = -4 ∧ S.2.2.1 q = -1 ∧ ma q = -4)
def HA (la lm xa xm : Int32) (s : Nat) : Prop := (1 ≤ s ∧ (∃ h, h < s ∧ la = nI h ∧ lm = nI h) ∧ ∃ a, a < 4 ∧ xa = nI a ∧ xm = nI a) ∨ (s = 0 ∧ la = -1 ∧ lm = -4 ∧ xa = -1 ∧ xm = -4)
section PAT
variable {L : tL} {M : tM} {tx : Nat → Nat} {sz n s l i : Nat} {U : tU} {S : tS} {ax : Int32}
theorem PR.add {mt mh ma : Nat → Int32} (h : PR S mt mh ma s) (s8 : s < 8) {v : Nat} (hv : v ≤ 6) {la lm xa xm : Int32} (hA : HA la lm xa xm s) (la0 : Int32) : PR (upd S.1 s (nI v), upd S.2.1 s la, upd S.2.2.1 s xa, nI (s + 1), la0) (upd mt s (nI v)) (upd mh s lm) (upd ma s xm) (s + 1) := by
  refine ⟨rfl, by omega, fun q hq => ?_⟩
  show (∃ t, t ≤ 6 ∧ upd S.1 s (nI v) q = nI t ∧ upd mt s (nI v) q = nI t) ∧ (1 ≤ q → (∃ h, h < q ∧ upd S.2.1 s la q = nI h ∧ upd mh s lm q = nI h) ∧ ∃ a, a < 4 ∧ upd S.2.2.1 s xa q = nI a ∧ upd ma s xm q = nI a) ∧ (q = 0 → upd S.2.1 s la q = -1 ∧ upd mh s lm q = -4 ∧ upd S.2.2.1 s xa q = -1 ∧ upd ma s xm q = -4)
  by_cases e : q = s
  · subst e
    rw [pk_us, pk_us, pk_us, pk_us, pk_us, pk_us]
    refine ⟨⟨v, hv, rfl, rfl⟩, fun q1 => ?_, fun q0 => ?_⟩
    · rcases hA with ⟨_, h1, h2⟩ | ⟨z, _⟩
      · exact ⟨h1, h2⟩
      · omega
    · rcases hA with ⟨z, _⟩ | ⟨_, h1, h2, h3, h4⟩
      · omega
      · exact ⟨h1, h2, h3, h4⟩
  · rw [pk_un e, pk_un e, pk_un e, pk_un e, pk_un e, pk_un e]
    exact h.2.2 q (by omega)
/-! the class -/
def uTag (U : tU) (S : tS) (s v : Nat) : tU × tS := ((U.1, U.2.1, 2, nI s, U.2.2.2.2), (upd S.1 s (nI v), upd S.2.1 s U.2.2.2.1, upd S.2.2.1 s U.2.2.2.2, nI (s + 1), if U.2.1 = 0 then nI s else S.2.2.2.2))
theorem add5 (hS : S.2.2.2.1 = nI s) (s8 : s < 8) (a b c : Int32) : fX5_add S a b c = some (nI s, (upd S.1 s a, upd S.2.1 s b, upd S.2.2.1 s c, nI (s + 1), S.2.2.2.2)) := by
  unfold fX5_add
  rw [hS, if_pos (show nI s < 8 from nI_lt (b := 8) s8 (by decide)), if_neg (nI_in s8 (by decide)), nI_clamp (show s < 2 ^ 31 by omega), nI_1, nI_pred]
theorem add5f (hS : S.2.2.2.1 = nI 8) (a b c : Int32) : fX5_add S a b c = some (-1, S) := by
  unfold fX5_add
  rw [hS]
  rfl
theorem addT (hS : S.2.2.2.1 = nI s) (s8 : s < 8) (v : Nat) : ((fX5_add S (nI v) U.2.2.2.1 U.2.2.2.2).bind fun y4 => (if 0 ≤ y4.1 then (if ¬ U.2.1 = 0 then some ((1 : Int32), (U.1, U.2.1, (2 : Int32), y4.1, U.2.2.2.2), y4.2) else ((fX5_setLastOutermost y4.2 y4.1).bind fun y11 => some (1, (U.1, U.2.1, 2, y4.1, U.2.2.2.2), y11))) else some (0, U, y4.2))) = some (1, (uTag U S s v).1, (uTag U S s v).2) := by
  rw [add5 hS s8, Option.bind_some, if_pos (show 0 ≤ nI s from nI_pos' (by omega))]
  unfold uTag fX5_setLastOutermost
  by_cases c : U.2.1 = 0
  · rw [if_neg (fun q => q c), if_pos c]
    rfl
  · rw [if_pos c, if_neg c]
theorem addF (hS : S.2.2.2.1 = nI 8) (v : Int32) : ((fX5_add S v U.2.2.2.1 U.2.2.2.2).bind fun y4 => (if 0 ≤ y4.1 then (if ¬ U.2.1 = 0 then some ((1 : Int32), (U.1, U.2.1, (2 : Int32), y4.1, U.2.2.2.2), y4.2) else ((fX5_setLastOutermost y4.2 y4.1).bind fun y11 => some (1, (U.1, U.2.1, 2, y4.1, U.2.2.2.2), y11))) else some (0, U, y4.2))) = some (0, U, S) := by
  rw [add5f hS]
  rfl
theorem takesTag_s {t : Nat} (ht : t < 200) (hS : S.2.2.2.1 = nI s) (s8 : s ≤ 8) : fX6_takesTag U (nI t) S = match tgv t with
  | none => some (0, U, S)
  | some v => if s < 8 then some (1, (uTag U S s v).1, (uTag U S s v).2) else some (0, U, S) := by
  unfold fX6_takesTag tgv
  by_cases c : t = 42
  · subst c
    rw [if_neg (show ¬ ¬ nI 42 = 42 from fun q => q rfl), if_pos (show nI 42 = 42 from rfl), if_pos (show 42 = 42 from rfl)]
    dsimp only
    by_cases c8 : s < 8
    · rw [if_pos c8]
      exact addT hS c8 6
    · have : s = 8 := by omega
      subst this
      rw [if_neg c8]
      exact addF hS 6
  · have e : ¬ nI t = 42 := fun q => c ((nI_eq (a := t) (b := 42) (by omega) (by decide)).mp q)
    obtain ⟨h1, h2⟩ := ttag_s t ht c
    rw [if_pos e, if_neg e, if_neg c, h1]
    by_cases c2 : 97 ≤ t ∧ t ≤ 102
    · rw [if_pos c2, if_pos (show ¬ (1 : Int32) = 0 by decide), if_pos c2, h2 c2.1]
      dsimp only
      by_cases c8 : s < 8
      · rw [if_pos c8]
        exact addT hS c8 (t - 97)
      · have : s = 8 := by omega
        subst this
        rw [if_neg c8]
        exact addF hS _
    · rw [if_neg c2, if_neg (show ¬ ¬ (0 : Int32) = 0 from fun q => q rfl), if_neg c2]
theorem tk_0 {b lt : Int32} {U' : tU} {S' : tS} (h : U.2.2.1 = 0) (g : fX6_takesTag U lt S = some (b, U', S')) (hb : b = 0 ∨ b = 1) : fX6_takes U lt S = some (b, U', S') := by
  unfold fX6_takes
  rw [if_neg (fun q => q h), g, Option.bind_some]
  exact nb01 hb
theorem tk_1 {b lt : Int32} {U' : tU} (h : U.2.2.1 = 1) (g : fX6_takesAxis U lt = some (b, U')) (hb : b = 0 ∨ b = 1) : fX6_takes U lt S = some (b, U', S) := by
  unfold fX6_takes
  rw [h, if_pos (show ¬ (1 : Int32) = 0 by decide), if_pos (show ¬ (1 : Int32) = 2 by decide), if_pos (show ¬ (1 : Int32) = 2 by decide), g, Option.bind_some]
  exact nb01 hb
theorem tk_2 {b lt : Int32} {U' : tU} (h : U.2.2.1 = 2) (h1 : ¬ lt = 91) (h2 : ¬ lt = 93) (g : fX6_takesAxis U lt = some (b, U')) (hb : b = 0 ∨ b = 1) : fX6_takes U lt S = some (b, U', S) := by
  unfold fX6_takes
  rw [h, if_pos (show ¬ (2 : Int32) = 0 by decide), if_neg (show ¬ ¬ (2 : Int32) = 2 from fun q => q rfl), if_pos h1, if_neg (show ¬ ¬ (2 : Int32) = 2 from fun q => q rfl), if_pos h2, g, Option.bind_some]
  exact nb01 hb
theorem tk_o {b : Int32} {U' : tU} (h : U.2.2.1 = 2) (g : fX6_opens U = some (b, U')) (hb : b = 0 ∨ b = 1) : fX6_takes U (nI 91) S = some (b, U', S) := by
  unfold fX6_takes
  rw [h, if_pos (show ¬ (2 : Int32) = 0 by decide), if_neg (show ¬ ¬ (2 : Int32) = 2 from fun q => q rfl), if_neg (show ¬ ¬ nI 91 = 91 from fun q => q rfl), g, Option.bind_some]
  exact nb01 hb
theorem tk_c {b : Int32} {U' : tU} (h : U.2.2.1 = 2) (g : fX6_closes U = some (b, U')) (hb : b = 0 ∨ b = 1) : fX6_takes U (nI 93) S = some (b, U', S) := by
  unfold fX6_takes
  rw [h, if_pos (show ¬ (2 : Int32) = 0 by decide), if_neg (show ¬ ¬ (2 : Int32) = 2 from fun q => q rfl), if_pos (show ¬ nI 93 = 91 by decide), if_neg (show ¬ ¬ (2 : Int32) = 2 from fun q => q rfl), if_neg (show ¬ ¬ nI 93 = 93 from fun q => q rfl), g, Option.bind_some]
  exact nb01 hb
theorem takesAxis_s {t : Nat} (ht : t < 200) : fX6_takesAxis U (nI t) = match axv t with
  | none => some (0, U)
  | some a => some (1, (U.1, U.2.1, 0, U.2.2.2.1, nI a)) := by
  unfold fX6_takesAxis
  rw [axisFor_s t ht]
  cases h : axv t with
  | none => rfl
  | some a =>
    have := axv_lt h
    rw [if_pos (show 0 ≤ e1 (some a) from nI_pos' (by omega))]
    rfl
theorem r6_end (H : TL L tx sz) {m : Nat} (h : ¬ U.2.2.1 = 2) : lX6_read_26 n L (m + 1) (nI sz) U S = some (nI sz, U, S) := by
  have := H.2.1
  rw [lX6_read_26]
  unfold fX1_size
  rw [H.1, if_pos (nI_le (Nat.le_refl _) (by omega)), if_pos h]
theorem r6_n (H : TL L tx sz) {m : Nat} {U' : tU} {S' : tS} (hi : i < sz) (h : fX6_takes U (nI (tx i)) S = some (0, U', S')) : lX6_read_26 n L (m + 1) (nI i) U S = some (nI i, U', S') := by
  have := H.2.1
  rw [lX6_read_26]
  unfold fX1_size
  rw [H.1, if_neg (nI_ge hi (by omega)), letterAt_s H (by omega), Option.bind_some, if_pos hi, h, Option.bind_some]
  exact if_neg (fun q => q rfl)
theorem r6_y (H : TL L tx sz) {m : Nat} {U' : tU} {S' : tS} (hi : i < sz) (h : fX6_takes U (nI (tx i)) S = some (1, U', S')) : lX6_read_26 n L (m + 1) (nI i) U S = lX6_read_26 n L m (nI (i + 1)) U' S' := by
  have := H.2.1
  rw [lX6_read_26]
  unfold fX1_size
  rw [H.1, if_neg (nI_ge hi (by omega)), letterAt_s H (by omega), Option.bind_some, if_pos hi, h, Option.bind_some, nI_1]
  exact if_pos (show ¬ (1 : Int32) = 0 by decide)
/-! the reference's step -/
def rsM (M : tM) (s l i v : Nat) (ax : Int32) : tM := (if l = 0 then va_up (va_up (va_up M.1 12 (nI (i + 1))) 20 (nI (s + 1))) 21 (nI s) else va_up (va_up M.1 12 (nI (i + 1))) 20 (nI (s + 1)), va_up (va_up (va_up (va_up M.2.1 22 (upd (M.2.1 22) s (nI v))) 23 (upd (M.2.1 23) s ((M.2.1 25) l))) 24 (upd (M.2.1 24) s ax)) 25 (upd (M.2.1 25) l (nI s)), M.2.2)
theorem readsStep_s {t : Nat} (ht : t < 200) (hh : fX10_here M = some (nI t)) (h12 : M.1 12 = nI i) (h20 : M.1 20 = nI s) (s8 : s ≤ 8) (hl : l < 10) : fX10_readsStep M (nI l) ax = match tgv t with
  | none => some (0, M)
  | some v => if s < 8 then some (1, rsM M s l i v ax) else some (0, M) := by
  unfold fX10_readsStep tgv
  rw [hh, Option.bind_some, h20]
  by_cases c8 : s = 8
  · subst c8
    rw [if_pos (show nI 8 = 8 from rfl)]
    split
    · rfl
    · exact (if_neg (by omega)).symm
  have s8 : s < 8 := by omega
  rw [if_neg (show ¬ nI s = 8 from fun q => c8 ((nI_eq (a := s) (b := 8) (by omega) (by decide)).mp q))]
  have lc : ∀ (x y : Option (Int32 × tM)), (if ¬ nI l = 0 then x else y) = if l = 0 then y else x := fun x y => by
    by_cases c0 : l = 0
    · subst c0
      rfl
    · rw [if_pos (nI_ne0 (by omega) (by omega)), if_neg c0]
  by_cases c : t = 42
  · subst c
    rw [if_pos (show nI 42 = 42 from rfl), if_neg (show ¬ ¬ nI 42 = 42 from fun q => q rfl), if_neg (nI_in s8 (by decide)), if_neg (nI_in hl (by decide)), nI_clamp (show s < 2 ^ 31 by omega), nI_clamp (show l < 2 ^ 31 by omega), h12, nI_1, nI_1, lc, if_pos (show 42 = 42 from rfl)]
    dsimp only
    unfold rsM
    rw [if_pos s8]
    by_cases c0 : l = 0
    · rw [if_pos c0, if_pos c0]
      rfl
    · rw [if_neg c0, if_neg c0]
      rfl
  · have e : ¬ nI t = 42 := fun q => c ((nI_eq (a := t) (b := 42) (by omega) (by decide)).mp q)
    have hin : fX10_in (nI t) 97 102 = if 97 ≤ t ∧ t ≤ 102 then 1 else 0 := in_s (lo := 97) (hi := 102) (by decide) (by decide) (by omega)
    rw [if_neg e, if_pos e, hin, if_neg c]
    by_cases c2 : 97 ≤ t ∧ t ≤ 102
    · rw [if_pos c2, if_pos (show ¬ (1 : Int32) = 0 by decide), if_neg (nI_in s8 (by decide)), if_neg (nI_in hl (by decide)), nI_clamp (show s < 2 ^ 31 by omega), nI_clamp (show l < 2 ^ 31 by omega), h12, nI_1, nI_1, lc, if_pos c2, (ttag_s t ht c).2 c2.1]
      dsimp only
      unfold rsM
      rw [if_pos s8]
      by_cases c0 : l = 0
      · rw [if_pos c0, if_pos c0]
      · rw [if_neg c0, if_neg c0]
    · rw [if_neg c2, if_neg (show ¬ ¬ (0 : Int32) = 0 from fun q => q rfl), if_neg c2]
end PAT
