/-! PICTURES of the objects: what the places hold; a frame: what stays -/
def fr (L : List (Nat × Nat)) (h h1 : pH) : Prop := ∀ k, (∀ q ∈ L, k < q.1 ∨ q.2 ≤ k) → h1 k = h k
theorem pu_x {h : pH} {k j : Nat} {c : pE} (hj : j ≠ k) : pu h k c j = h j := if_neg hj
theorem Ev.live {d : Nat} {M : pM} {Q : Option Value → pH → Prop} {h : pH} {pc : Nat} {lv lv' : pLv} {st : List Value} {len : Nat} {a : Nat × Nat × Nat} {ps ks : List Nat} {i : Instr} (hf : List.lookup pc M.2.2.2.2.2 = some (i, len, a, ps, ks)) (hl : p_live ks lv = lv') (kk : Ev d M (h, pc, lv', st) Q) : Ev d M (h, pc, lv, st) Q := by
  subst hl
  obtain ⟨n, r, h', e, q⟩ := kk
  refine ⟨n, r, h', ?_, q⟩
  cases n with
  | zero => simp [p_run] at e
  | succ n =>
    have e2 : p_live ks (p_live ks lv) = p_live ks lv := by
      cases ks with
      | nil => rfl
      | cons x r =>
        show List.filter _ (List.filter _ lv) = List.filter _ lv
        rw [List.filter_filter]
        congr 1
        funext q
        exact Bool.and_self _
    simp only [p_run, hf] at e ⊢
    rw [e2] at e
    exact e
theorem fr0 {lo hi : Nat} : ∀ q ∈ ([] : List (Nat × Nat)), hi ≤ q.1 ∨ q.2 ≤ lo := fun _ q => absurd q List.not_mem_nil
theorem fr1 {lo hi a0 b0 : Nat} (h0 : hi ≤ a0 ∨ b0 ≤ lo) : ∀ q ∈ [(a0, b0)], hi ≤ q.1 ∨ q.2 ≤ lo := List.forall_mem_cons.mpr ⟨h0, fr0 ⟩
theorem fr2 {lo hi a0 b0 a1 b1 : Nat} (h0 : hi ≤ a0 ∨ b0 ≤ lo) (h1 : hi ≤ a1 ∨ b1 ≤ lo) : ∀ q ∈ [(a0, b0), (a1, b1)], hi ≤ q.1 ∨ q.2 ≤ lo := List.forall_mem_cons.mpr ⟨h0, fr1 h1⟩
theorem fr3 {lo hi a0 b0 a1 b1 a2 b2 : Nat} (h0 : hi ≤ a0 ∨ b0 ≤ lo) (h1 : hi ≤ a1 ∨ b1 ≤ lo) (h2 : hi ≤ a2 ∨ b2 ≤ lo) : ∀ q ∈ [(a0, b0), (a1, b1), (a2, b2)], hi ≤ q.1 ∨ q.2 ≤ lo := List.forall_mem_cons.mpr ⟨h0, fr2 h1 h2⟩
theorem fr4 {lo hi a0 b0 a1 b1 a2 b2 a3 b3 : Nat} (h0 : hi ≤ a0 ∨ b0 ≤ lo) (h1 : hi ≤ a1 ∨ b1 ≤ lo) (h2 : hi ≤ a2 ∨ b2 ≤ lo) (h3 : hi ≤ a3 ∨ b3 ≤ lo) : ∀ q ∈ [(a0, b0), (a1, b1), (a2, b2), (a3, b3)], hi ≤ q.1 ∨ q.2 ≤ lo := List.forall_mem_cons.mpr ⟨h0, fr3 h1 h2 h3⟩
theorem fr5 {lo hi a0 b0 a1 b1 a2 b2 a3 b3 a4 b4 : Nat} (h0 : hi ≤ a0 ∨ b0 ≤ lo) (h1 : hi ≤ a1 ∨ b1 ≤ lo) (h2 : hi ≤ a2 ∨ b2 ≤ lo) (h3 : hi ≤ a3 ∨ b3 ≤ lo) (h4 : hi ≤ a4 ∨ b4 ≤ lo) : ∀ q ∈ [(a0, b0), (a1, b1), (a2, b2), (a3, b3), (a4, b4)], hi ≤ q.1 ∨ q.2 ≤ lo := List.forall_mem_cons.mpr ⟨h0, fr4 h1 h2 h3 h4⟩
theorem fr6 {lo hi a0 b0 a1 b1 a2 b2 a3 b3 a4 b4 a5 b5 : Nat} (h0 : hi ≤ a0 ∨ b0 ≤ lo) (h1 : hi ≤ a1 ∨ b1 ≤ lo) (h2 : hi ≤ a2 ∨ b2 ≤ lo) (h3 : hi ≤ a3 ∨ b3 ≤ lo) (h4 : hi ≤ a4 ∨ b4 ≤ lo) (h5 : hi ≤ a5 ∨ b5 ≤ lo) : ∀ q ∈ [(a0, b0), (a1, b1), (a2, b2), (a3, b3), (a4, b4), (a5, b5)], hi ≤ q.1 ∨ q.2 ≤ lo := List.forall_mem_cons.mpr ⟨h0, fr5 h1 h2 h3 h4 h5⟩
theorem fr7 {lo hi a0 b0 a1 b1 a2 b2 a3 b3 a4 b4 a5 b5 a6 b6 : Nat} (h0 : hi ≤ a0 ∨ b0 ≤ lo) (h1 : hi ≤ a1 ∨ b1 ≤ lo) (h2 : hi ≤ a2 ∨ b2 ≤ lo) (h3 : hi ≤ a3 ∨ b3 ≤ lo) (h4 : hi ≤ a4 ∨ b4 ≤ lo) (h5 : hi ≤ a5 ∨ b5 ≤ lo) (h6 : hi ≤ a6 ∨ b6 ≤ lo) : ∀ q ∈ [(a0, b0), (a1, b1), (a2, b2), (a3, b3), (a4, b4), (a5, b5), (a6, b6)], hi ≤ q.1 ∨ q.2 ≤ lo := List.forall_mem_cons.mpr ⟨h0, fr6 h1 h2 h3 h4 h5 h6⟩
theorem fr8 {lo hi a0 b0 a1 b1 a2 b2 a3 b3 a4 b4 a5 b5 a6 b6 a7 b7 : Nat} (h0 : hi ≤ a0 ∨ b0 ≤ lo) (h1 : hi ≤ a1 ∨ b1 ≤ lo) (h2 : hi ≤ a2 ∨ b2 ≤ lo) (h3 : hi ≤ a3 ∨ b3 ≤ lo) (h4 : hi ≤ a4 ∨ b4 ≤ lo) (h5 : hi ≤ a5 ∨ b5 ≤ lo) (h6 : hi ≤ a6 ∨ b6 ≤ lo) (h7 : hi ≤ a7 ∨ b7 ≤ lo) : ∀ q ∈ [(a0, b0), (a1, b1), (a2, b2), (a3, b3), (a4, b4), (a5, b5), (a6, b6), (a7, b7)], hi ≤ q.1 ∨ q.2 ≤ lo := List.forall_mem_cons.mpr ⟨h0, fr7 h1 h2 h3 h4 h5 h6 h7⟩
theorem fr9 {lo hi a0 b0 a1 b1 a2 b2 a3 b3 a4 b4 a5 b5 a6 b6 a7 b7 a8 b8 : Nat} (h0 : hi ≤ a0 ∨ b0 ≤ lo) (h1 : hi ≤ a1 ∨ b1 ≤ lo) (h2 : hi ≤ a2 ∨ b2 ≤ lo) (h3 : hi ≤ a3 ∨ b3 ≤ lo) (h4 : hi ≤ a4 ∨ b4 ≤ lo) (h5 : hi ≤ a5 ∨ b5 ≤ lo) (h6 : hi ≤ a6 ∨ b6 ≤ lo) (h7 : hi ≤ a7 ∨ b7 ≤ lo) (h8 : hi ≤ a8 ∨ b8 ≤ lo) : ∀ q ∈ [(a0, b0), (a1, b1), (a2, b2), (a3, b3), (a4, b4), (a5, b5), (a6, b6), (a7, b7), (a8, b8)], hi ≤ q.1 ∨ q.2 ≤ lo := List.forall_mem_cons.mpr ⟨h0, fr8 h1 h2 h3 h4 h5 h6 h7 h8⟩
abbrev tT : Type := (Nat → Int32) × (Nat → Int32) × (Nat → Int32) × Int32 × Int32 × Int32
def isT (h : pH) (t : Nat) (X : tT) : Prop := h t = eO 6 [.ref (t + 1), .ref (t + 2), .ref (t + 3), .int X.2.2.2.1, .int X.2.2.2.2.1, .int X.2.2.2.2.2] ∧ h (t + 1) = eI 24 X.1 ∧ h (t + 2) = eI 24 X.2.1 ∧ h (t + 3) = eI 24 X.2.2.1 ∧ t + 3 < pN
theorem isT.fr {L : List (Nat × Nat)} {h h1 : pH} {t : Nat} {X : tT} (f : fr L h h1) (hd : ∀ q ∈ L, t + 4 ≤ q.1 ∨ q.2 ≤ t) (hx : isT h t X) : isT h1 t X := ⟨(f _ (fun q hq => by have := hd q hq; omega)).trans hx.1, (f _ (fun q hq => by have := hd q hq; omega)).trans hx.2.1, (f _ (fun q hq => by have := hd q hq; omega)).trans hx.2.2.1, (f _ (fun q hq => by have := hd q hq; omega)).trans hx.2.2.2.1, hx.2.2.2.2⟩
abbrev tL : Type := (Nat → Int32) × Int32
def isL (h : pH) (X : tL) : Prop := h 1 = eO 0 [.ref 2, .int X.2] ∧ h 2 = eI 200 X.1
theorem isL.fr {L : List (Nat × Nat)} {h h1 : pH} {X : tL} (f : fr L h h1) (hd : ∀ q ∈ L, 3 ≤ q.1 ∨ q.2 ≤ 1) (hx : isL h X) : isL h1 X := ⟨(f _ (fun q hq => by have := hd q hq; omega)).trans hx.1, (f _ (fun q hq => by have := hd q hq; omega)).trans hx.2⟩
abbrev tK : Type := (Nat → Int32) × Int32 × Int32
def isK (h : pH) (X : tK) : Prop := h 3 = eO 7 [.ref 4, .int X.2.1, .int X.2.2] ∧ h 4 = eI 3 X.1
theorem isK.fr {L : List (Nat × Nat)} {h h1 : pH} {X : tK} (f : fr L h h1) (hd : ∀ q ∈ L, 5 ≤ q.1 ∨ q.2 ≤ 3) (hx : isK h X) : isK h1 X := ⟨(f _ (fun q hq => by have := hd q hq; omega)).trans hx.1, (f _ (fun q hq => by have := hd q hq; omega)).trans hx.2⟩
abbrev tU : Type := (Nat → Int32) × Int32 × Int32 × Int32 × Int32
def isU (h : pH) (X : tU) : Prop := h 5 = eO 5 [.ref 6, .int X.2.1, .int X.2.2.1, .int X.2.2.2.1, .int X.2.2.2.2] ∧ h 6 = eI 8 X.1
theorem isU.fr {L : List (Nat × Nat)} {h h1 : pH} {X : tU} (f : fr L h h1) (hd : ∀ q ∈ L, 7 ≤ q.1 ∨ q.2 ≤ 5) (hx : isU h X) : isU h1 X := ⟨(f _ (fun q hq => by have := hd q hq; omega)).trans hx.1, (f _ (fun q hq => by have := hd q hq; omega)).trans hx.2⟩
abbrev tO : Type := (Nat → Int32) × (Nat → Int32) × (Nat → Int32) × (Nat → Int32) × (Nat → Int32) × (Nat → Int32) × (Nat → Int32) × Int32
def isO (h : pH) (X : tO) : Prop := h 15 = eO 2 [.ref 16, .ref 17, .ref 18, .ref 19, .ref 20, .ref 21, .ref 22, .int X.2.2.2.2.2.2.2] ∧ h 16 = eI 24 X.1 ∧ h 17 = eI 24 X.2.1 ∧ h 18 = eI 24 X.2.2.1 ∧ h 19 = eI 24 X.2.2.2.1 ∧ h 20 = eI 24 X.2.2.2.2.1 ∧ h 21 = eI 24 X.2.2.2.2.2.1 ∧ h 22 = eI 24 X.2.2.2.2.2.2.1
theorem isO.fr {L : List (Nat × Nat)} {h h1 : pH} {X : tO} (f : fr L h h1) (hd : ∀ q ∈ L, 23 ≤ q.1 ∨ q.2 ≤ 15) (hx : isO h X) : isO h1 X := ⟨(f _ (fun q hq => by have := hd q hq; omega)).trans hx.1, (f _ (fun q hq => by have := hd q hq; omega)).trans hx.2.1, (f _ (fun q hq => by have := hd q hq; omega)).trans hx.2.2.1, (f _ (fun q hq => by have := hd q hq; omega)).trans hx.2.2.2.1, (f _ (fun q hq => by have := hd q hq; omega)).trans hx.2.2.2.2.1, (f _ (fun q hq => by have := hd q hq; omega)).trans hx.2.2.2.2.2.1, (f _ (fun q hq => by have := hd q hq; omega)).trans hx.2.2.2.2.2.2.1, (f _ (fun q hq => by have := hd q hq; omega)).trans hx.2.2.2.2.2.2.2⟩
abbrev tP : Type := (Nat → Int32) × (Nat → Int32) × (Nat → Int32) × (Nat → Int32) × Int32
def isP (h : pH) (X : tP) : Prop := h 23 = eO 3 [.ref 24, .ref 25, .ref 26, .ref 27, .int X.2.2.2.2] ∧ h 24 = eI 8 X.1 ∧ h 25 = eI 8 X.2.1 ∧ h 26 = eI 8 X.2.2.1 ∧ h 27 = eI 8 X.2.2.2.1
theorem isP.fr {L : List (Nat × Nat)} {h h1 : pH} {X : tP} (f : fr L h h1) (hd : ∀ q ∈ L, 28 ≤ q.1 ∨ q.2 ≤ 23) (hx : isP h X) : isP h1 X := ⟨(f _ (fun q hq => by have := hd q hq; omega)).trans hx.1, (f _ (fun q hq => by have := hd q hq; omega)).trans hx.2.1, (f _ (fun q hq => by have := hd q hq; omega)).trans hx.2.2.1, (f _ (fun q hq => by have := hd q hq; omega)).trans hx.2.2.2.1, (f _ (fun q hq => by have := hd q hq; omega)).trans hx.2.2.2.2⟩
abbrev tS : Type := (Nat → Int32) × (Nat → Int32) × (Nat → Int32) × Int32 × Int32
def isS (h : pH) (t : Nat) (X : tS) : Prop := h t = eO 4 [.ref (t + 1), .ref (t + 2), .ref (t + 3), .int X.2.2.2.1, .int X.2.2.2.2] ∧ h (t + 1) = eI 8 X.1 ∧ h (t + 2) = eI 8 X.2.1 ∧ h (t + 3) = eI 8 X.2.2.1 ∧ t + 3 < pN
theorem isS.fr {L : List (Nat × Nat)} {h h1 : pH} {t : Nat} {X : tS} (f : fr L h h1) (hd : ∀ q ∈ L, t + 4 ≤ q.1 ∨ q.2 ≤ t) (hx : isS h t X) : isS h1 t X := ⟨(f _ (fun q hq => by have := hd q hq; omega)).trans hx.1, (f _ (fun q hq => by have := hd q hq; omega)).trans hx.2.1, (f _ (fun q hq => by have := hd q hq; omega)).trans hx.2.2.1, (f _ (fun q hq => by have := hd q hq; omega)).trans hx.2.2.2.1, hx.2.2.2.2⟩
abbrev tM : Type := (Nat → Int32) × (Nat → Nat → Int32) × (Nat → Int64)
def isM (h : pH) (X : tM) : Prop := h 73 = eO 9 [.int (X.1 0), .int (X.1 1), .int (X.1 2), .ref 74, .ref 75, .ref 76, .ref 77, .int (X.1 7), .ref 78, .int (X.1 9), .ref 79, .int (X.1 11), .int (X.1 12), .int (X.1 13), .ref 80, .int (X.1 15), .int (X.1 16), .ref 81, .ref 82, .ref 83, .int (X.1 20), .int (X.1 21), .ref 84, .ref 85, .ref 86, .ref 87, .ref 88] ∧ h 74 = eI 24 (X.2.1 3) ∧ h 75 = eI 24 (X.2.1 4) ∧ h 76 = eI 24 (X.2.1 5) ∧ h 77 = eI 600 (X.2.1 6) ∧ h 78 = eI 150 (X.2.1 8) ∧ h 79 = eI 200 (X.2.1 10) ∧ h 80 = eI 75 (X.2.1 14) ∧ h 81 = eI 8 (X.2.1 17) ∧ h 82 = eI 8 (X.2.1 18) ∧ h 83 = eI 8 (X.2.1 19) ∧ h 84 = eI 8 (X.2.1 22) ∧ h 85 = eI 8 (X.2.1 23) ∧ h 86 = eI 8 (X.2.1 24) ∧ h 87 = eI 10 (X.2.1 25) ∧ h 88 = eJ 192 X.2.2
theorem isM.fr {L : List (Nat × Nat)} {h h1 : pH} {X : tM} (f : fr L h h1) (hd : ∀ q ∈ L, 89 ≤ q.1 ∨ q.2 ≤ 73) (hx : isM h X) : isM h1 X := ⟨(f _ (fun q hq => by have := hd q hq; omega)).trans hx.1, (f _ (fun q hq => by have := hd q hq; omega)).trans hx.2.1, (f _ (fun q hq => by have := hd q hq; omega)).trans hx.2.2.1, (f _ (fun q hq => by have := hd q hq; omega)).trans hx.2.2.2.1, (f _ (fun q hq => by have := hd q hq; omega)).trans hx.2.2.2.2.1, (f _ (fun q hq => by have := hd q hq; omega)).trans hx.2.2.2.2.2.1, (f _ (fun q hq => by have := hd q hq; omega)).trans hx.2.2.2.2.2.2.1, (f _ (fun q hq => by have := hd q hq; omega)).trans hx.2.2.2.2.2.2.2.1, (f _ (fun q hq => by have := hd q hq; omega)).trans hx.2.2.2.2.2.2.2.2.1, (f _ (fun q hq => by have := hd q hq; omega)).trans hx.2.2.2.2.2.2.2.2.2.1, (f _ (fun q hq => by have := hd q hq; omega)).trans hx.2.2.2.2.2.2.2.2.2.2.1, (f _ (fun q hq => by have := hd q hq; omega)).trans hx.2.2.2.2.2.2.2.2.2.2.2.1, (f _ (fun q hq => by have := hd q hq; omega)).trans hx.2.2.2.2.2.2.2.2.2.2.2.2.1, (f _ (fun q hq => by have := hd q hq; omega)).trans hx.2.2.2.2.2.2.2.2.2.2.2.2.2.1, (f _ (fun q hq => by have := hd q hq; omega)).trans hx.2.2.2.2.2.2.2.2.2.2.2.2.2.2.1, (f _ (fun q hq => by have := hd q hq; omega)).trans hx.2.2.2.2.2.2.2.2.2.2.2.2.2.2.2⟩
abbrev tX : Type := Int32 × Int32
def isX (h : pH) (X : tX) : Prop := h 0 = eO 8 [.ref 1, .ref 3, .ref 5, .ref 7, .ref 11, .ref 15, .ref 23, .ref 28, .ref 32, .int X.1, .ref 36, .ref 40, .ref 44, .int X.2]
theorem isX.fr {L : List (Nat × Nat)} {h h1 : pH} {X : tX} (f : fr L h h1) (hd : ∀ q ∈ L, 1 ≤ q.1 ∨ q.2 ≤ 0) (hx : isX h X) : isX h1 X := (f _ (fun q hq => by have := hd q hq; omega)).trans hx
abbrev tG : Type := (Nat → Nat → Int64) × (Nat → Nat → Int64) × (Nat → Nat → Int64) × (Nat → Int64)
def isG (h : pH) (X : tG) : Prop := h 44 = eO 1 [.ref 45, .ref 54, .ref 63, .ref 72, .ref 7, .ref 15, .ref 36] ∧ h 45 = eR 8 (fun j => if j < 8 then some (46 + j) else none) ∧ (∀ i, i < 8 → h (46 + i) = eJ 24 (X.1 i)) ∧ h 54 = eR 8 (fun j => if j < 8 then some (55 + j) else none) ∧ (∀ i, i < 8 → h (55 + i) = eJ 24 (X.2.1 i)) ∧ h 63 = eR 8 (fun j => if j < 8 then some (64 + j) else none) ∧ (∀ i, i < 8 → h (64 + i) = eJ 24 (X.2.2.1 i)) ∧ h 72 = eJ 24 X.2.2.2
theorem isG.fr {L : List (Nat × Nat)} {h h1 : pH} {X : tG} (f : fr L h h1) (hd : ∀ q ∈ L, 73 ≤ q.1 ∨ q.2 ≤ 44) (hx : isG h X) : isG h1 X := ⟨(f _ (fun q hq => by have := hd q hq; omega)).trans hx.1, (f _ (fun q hq => by have := hd q hq; omega)).trans hx.2.1, fun i hi => (f _ (fun q hq => by have := hd q hq; omega)).trans (hx.2.2.1 i hi), (f _ (fun q hq => by have := hd q hq; omega)).trans hx.2.2.2.1, fun i hi => (f _ (fun q hq => by have := hd q hq; omega)).trans (hx.2.2.2.2.1 i hi), (f _ (fun q hq => by have := hd q hq; omega)).trans hx.2.2.2.2.2.1, fun i hi => (f _ (fun q hq => by have := hd q hq; omega)).trans (hx.2.2.2.2.2.2.1 i hi), (f _ (fun q hq => by have := hd q hq; omega)).trans hx.2.2.2.2.2.2.2⟩
theorem vp_lt {i : Int32} {n : Nat} (h : vp_in i n) : i.toNatClampNeg < n := Nat.not_le.mp fun q => h (Or.inr q)
theorem rw_put {h : pH} {b X : Nat} {f : Nat → Nat → Int64} {r : Nat → Int64} (H : ∀ i, i < 8 → h (b + i) = eJ 24 (f i)) (hX : X < 8) : ∀ i, i < 8 → pu h (b + X) (eJ 24 r) (b + i) = eJ 24 (va_up f X r i) := fun i hi => by
  by_cases e : i = X
  · subst e
    rw [va_up_self]
    exact pu_s
  · rw [va_up_ne f r e]
    exact pu_n (by omega) (H i hi)
theorem rw_keep {h : pH} {b p : Nat} {c : pE} {f : Nat → Nat → Int64} (H : ∀ i, i < 8 → h (b + i) = eJ 24 (f i)) (hp : p < b ∨ b + 8 ≤ p) : ∀ i, i < 8 → pu h p c (b + i) = eJ 24 (f i) := fun i hi => pu_n (by omega) (H i hi)
/-- Arrays.fill of a row of 24 -/
def p_fill (f : Nat → Int64) (x : Int64) : Nat → Int64 := fun j => if j < 24 then x else f j
/-- a call of a method without an answer, the heap behind it known -/
theorem Ev.callU {d : Nat} {M : pM} {Q : Option Value → pH → Prop} {h h2 : pH} {pc : Nat} {lv : pLv} {st : List Value} {len : Nat} {a : Nat × Nat × Nat} {ps : List Nat} {i : Instr} {M' : pM} {vs rest : List Value} (hf : List.lookup pc M.2.2.2.2.2 = some (i, len, a, ps, [])) (hk : p_kd i = 2) (hc : p_isCp i a.2.2 = false) (ha : p_args pN i a.2.1 a.2.2 (h, pc, lv, st) = some (vs, rest)) (hM : p_T[a.1]? = some M') (hl : (lg_sl vs).length ≤ M'.2.2.1)
    (he : Ev d M' (h, 0, lv_args 0 vs, []) (fun r h1 => r = none ∧ h1 = h2)) (kk : Ev (d + 1) M (h2, pc + 3, lv, rest) Q) : Ev (d + 1) M (h, pc, lv, st) Q := by
  refine Ev.call hf hk hc ha hM hl (he.mono (fun r h1 hq => ?_))
  obtain ⟨rfl, rfl⟩ := hq
  exact kk
theorem p_swt {N : Nat} {Cs : List pCi} {mx len pc tgt : Nat} {a : Nat × Nat × Nat} {h : pH} {lv : pLv} {r : List Value} {dflt lo hi : Int} {offs : Array Int} {x : Int32} (hx : x.toInt < lo ∨ hi < x.toInt) (ht : (pc : Int) + dflt = (tgt : Int) := by decide) : p_step N Cs mx (.tableswitch dflt lo hi offs) len a (h, pc, lv, .int x :: r) = some (h, tgt, lv, r) := by
  have e0 : 0 ≤ (pc : Int) + dflt := by omega
  have e1 : ((pc : Int) + dflt).toNat = tgt := by omega
  simp only [p_step, p_tsw]
  rw [if_pos hx, if_pos e0, e1]
theorem p_swl {N : Nat} {Cs : List pCi} {mx len pc tgt : Nat} {a : Nat × Nat × Nat} {h : pH} {lv : pLv} {r : List Value} {dflt : Int} {ps : Array (Int × Int)} {x : Int32} (hx : Op.lookupswitch.offset ps.toList dflt x.toInt = dflt) (hp : (ps.toList.zip (ps.toList.drop 1)).all (fun (a, next) => a.1 < next.1) = true := by decide) (ht : (pc : Int) + dflt = (tgt : Int) := by decide) : p_step N Cs mx (.lookupswitch dflt ps) len a (h, pc, lv, .int x :: r) = some (h, tgt, lv, r) := by
  have e0 : 0 ≤ (pc : Int) + dflt := by omega
  have e1 : ((pc : Int) + dflt).toNat = tgt := by omega
  simp only [p_step, p_lsw]
  rw [hx, if_pos ⟨hp, e0⟩, e1]
theorem p_sw_1_3 {x : Int32} (c1 : ¬ x = 1) (c2 : ¬ x = 2) (c3 : ¬ x = 3) : x.toInt < 1 ∨ 3 < x.toInt := by
  rcases Classical.em (x.toInt < 1 ∨ 3 < x.toInt) with h | h
  · exact h
  · have e : x.toInt = 1 ∨ x.toInt = 2 ∨ x.toInt = 3 := by omega
    rcases e with e | e | e
    · exact absurd (Int32.toInt_inj.mp (e.trans (show (1 : Int) = (1 : Int32).toInt from rfl))) c1
    · exact absurd (Int32.toInt_inj.mp (e.trans (show (2 : Int) = (2 : Int32).toInt from rfl))) c2
    · exact absurd (Int32.toInt_inj.mp (e.trans (show (3 : Int) = (3 : Int32).toInt from rfl))) c3
theorem p_sw_0_5 {x : Int32} (c0 : ¬ x = 0) (c1 : ¬ x = 1) (c2 : ¬ x = 2) (c3 : ¬ x = 3) (c4 : ¬ x = 4) (c5 : ¬ x = 5) : x.toInt < 0 ∨ 5 < x.toInt := by
  rcases Classical.em (x.toInt < 0 ∨ 5 < x.toInt) with h | h
  · exact h
  · have e : x.toInt = 0 ∨ x.toInt = 1 ∨ x.toInt = 2 ∨ x.toInt = 3 ∨ x.toInt = 4 ∨ x.toInt = 5 := by omega
    rcases e with e | e | e | e | e | e
    · exact absurd (Int32.toInt_inj.mp (e.trans (show (0 : Int) = (0 : Int32).toInt from rfl))) c0
    · exact absurd (Int32.toInt_inj.mp (e.trans (show (1 : Int) = (1 : Int32).toInt from rfl))) c1
    · exact absurd (Int32.toInt_inj.mp (e.trans (show (2 : Int) = (2 : Int32).toInt from rfl))) c2
    · exact absurd (Int32.toInt_inj.mp (e.trans (show (3 : Int) = (3 : Int32).toInt from rfl))) c3
    · exact absurd (Int32.toInt_inj.mp (e.trans (show (4 : Int) = (4 : Int32).toInt from rfl))) c4
    · exact absurd (Int32.toInt_inj.mp (e.trans (show (5 : Int) = (5 : Int32).toInt from rfl))) c5
theorem p_sw_0_2 {x : Int32} (c0 : ¬ x = 0) (c1 : ¬ x = 1) (c2 : ¬ x = 2) : x.toInt < 0 ∨ 2 < x.toInt := by
  rcases Classical.em (x.toInt < 0 ∨ 2 < x.toInt) with h | h
  · exact h
  · have e : x.toInt = 0 ∨ x.toInt = 1 ∨ x.toInt = 2 := by omega
    rcases e with e | e | e
    · exact absurd (Int32.toInt_inj.mp (e.trans (show (0 : Int) = (0 : Int32).toInt from rfl))) c0
    · exact absurd (Int32.toInt_inj.mp (e.trans (show (1 : Int) = (1 : Int32).toInt from rfl))) c1
    · exact absurd (Int32.toInt_inj.mp (e.trans (show (2 : Int) = (2 : Int32).toInt from rfl))) c2
theorem p_sw_0_8 {x : Int32} (c0 : ¬ x = 0) (c1 : ¬ x = 1) (c2 : ¬ x = 2) (c3 : ¬ x = 3) (c4 : ¬ x = 4) (c5 : ¬ x = 5) (c6 : ¬ x = 6) (c7 : ¬ x = 7) (c8 : ¬ x = 8) : x.toInt < 0 ∨ 8 < x.toInt := by
  rcases Classical.em (x.toInt < 0 ∨ 8 < x.toInt) with h | h
  · exact h
  · have e : x.toInt = 0 ∨ x.toInt = 1 ∨ x.toInt = 2 ∨ x.toInt = 3 ∨ x.toInt = 4 ∨ x.toInt = 5 ∨ x.toInt = 6 ∨ x.toInt = 7 ∨ x.toInt = 8 := by omega
    rcases e with e | e | e | e | e | e | e | e | e
    · exact absurd (Int32.toInt_inj.mp (e.trans (show (0 : Int) = (0 : Int32).toInt from rfl))) c0
    · exact absurd (Int32.toInt_inj.mp (e.trans (show (1 : Int) = (1 : Int32).toInt from rfl))) c1
    · exact absurd (Int32.toInt_inj.mp (e.trans (show (2 : Int) = (2 : Int32).toInt from rfl))) c2
    · exact absurd (Int32.toInt_inj.mp (e.trans (show (3 : Int) = (3 : Int32).toInt from rfl))) c3
    · exact absurd (Int32.toInt_inj.mp (e.trans (show (4 : Int) = (4 : Int32).toInt from rfl))) c4
    · exact absurd (Int32.toInt_inj.mp (e.trans (show (5 : Int) = (5 : Int32).toInt from rfl))) c5
    · exact absurd (Int32.toInt_inj.mp (e.trans (show (6 : Int) = (6 : Int32).toInt from rfl))) c6
    · exact absurd (Int32.toInt_inj.mp (e.trans (show (7 : Int) = (7 : Int32).toInt from rfl))) c7
    · exact absurd (Int32.toInt_inj.mp (e.trans (show (8 : Int) = (8 : Int32).toInt from rfl))) c8
theorem p_sw_0_4 {x : Int32} (c0 : ¬ x = 0) (c1 : ¬ x = 1) (c2 : ¬ x = 2) (c3 : ¬ x = 3) (c4 : ¬ x = 4) : x.toInt < 0 ∨ 4 < x.toInt := by
  rcases Classical.em (x.toInt < 0 ∨ 4 < x.toInt) with h | h
  · exact h
  · have e : x.toInt = 0 ∨ x.toInt = 1 ∨ x.toInt = 2 ∨ x.toInt = 3 ∨ x.toInt = 4 := by omega
    rcases e with e | e | e | e | e
    · exact absurd (Int32.toInt_inj.mp (e.trans (show (0 : Int) = (0 : Int32).toInt from rfl))) c0
    · exact absurd (Int32.toInt_inj.mp (e.trans (show (1 : Int) = (1 : Int32).toInt from rfl))) c1
    · exact absurd (Int32.toInt_inj.mp (e.trans (show (2 : Int) = (2 : Int32).toInt from rfl))) c2
    · exact absurd (Int32.toInt_inj.mp (e.trans (show (3 : Int) = (3 : Int32).toInt from rfl))) c3
    · exact absurd (Int32.toInt_inj.mp (e.trans (show (4 : Int) = (4 : Int32).toInt from rfl))) c4
theorem p_sw_0_7 {x : Int32} (c0 : ¬ x = 0) (c1 : ¬ x = 1) (c2 : ¬ x = 2) (c3 : ¬ x = 3) (c4 : ¬ x = 4) (c5 : ¬ x = 5) (c6 : ¬ x = 6) (c7 : ¬ x = 7) : x.toInt < 0 ∨ 7 < x.toInt := by
  rcases Classical.em (x.toInt < 0 ∨ 7 < x.toInt) with h | h
  · exact h
  · have e : x.toInt = 0 ∨ x.toInt = 1 ∨ x.toInt = 2 ∨ x.toInt = 3 ∨ x.toInt = 4 ∨ x.toInt = 5 ∨ x.toInt = 6 ∨ x.toInt = 7 := by omega
    rcases e with e | e | e | e | e | e | e | e
    · exact absurd (Int32.toInt_inj.mp (e.trans (show (0 : Int) = (0 : Int32).toInt from rfl))) c0
    · exact absurd (Int32.toInt_inj.mp (e.trans (show (1 : Int) = (1 : Int32).toInt from rfl))) c1
    · exact absurd (Int32.toInt_inj.mp (e.trans (show (2 : Int) = (2 : Int32).toInt from rfl))) c2
    · exact absurd (Int32.toInt_inj.mp (e.trans (show (3 : Int) = (3 : Int32).toInt from rfl))) c3
    · exact absurd (Int32.toInt_inj.mp (e.trans (show (4 : Int) = (4 : Int32).toInt from rfl))) c4
    · exact absurd (Int32.toInt_inj.mp (e.trans (show (5 : Int) = (5 : Int32).toInt from rfl))) c5
    · exact absurd (Int32.toInt_inj.mp (e.trans (show (6 : Int) = (6 : Int32).toInt from rfl))) c6
    · exact absurd (Int32.toInt_inj.mp (e.trans (show (7 : Int) = (7 : Int32).toInt from rfl))) c7
theorem p_sw_43_126 {x : Int32} (c0 : ¬ x = 43) (c1 : ¬ x = 47) (c2 : ¬ x = 58) (c3 : ¬ x = 126) {o0 o1 o2 o3 d : Int} : Op.lookupswitch.offset (#[(43, o0), (47, o1), (58, o2), (126, o3)] : Array (Int × Int)).toList d x.toInt = d := by
  show Op.lookupswitch.offset [(43, o0), (47, o1), (58, o2), (126, o3)] d x.toInt = d
  rw [lv_osw (a := 43) c0 rfl, lv_osw (a := 47) c1 rfl, lv_osw (a := 58) c2 rfl, lv_osw (a := 126) c3 rfl]
  first | rfl | simp [Op.lookupswitch.offset]
