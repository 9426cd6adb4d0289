/-! THE START: what both constructors leave (written by program: wip/whole/gen71.py) -/
def st_0 : tM := (fun _ => 0, fun _ _ => 0, fun _ => 0)
def st_c (M : tM) (p q t : Int32) : tM := match fX10_comes 3000 M p q t with
  | some y => y.2
  | none => M
def st_1 : tM := (va_up (va_up st_0.1 0 1) 1 1, va_up (va_up (va_up st_0.2.1 3 (upd (st_0.2.1 3) 0 0)) 4 (upd (st_0.2.1 4) 0 (-4))) 5 (upd (st_0.2.1 5) 0 0), st_0.2.2)
def st_2 : tM := st_c st_1 0 0 1
def st_3 : tM := st_c st_2 0 1 2
def st_4 : tM := st_c st_3 0 1 1
def st_5 : tM := st_c st_4 1 0 3
def st_6 : tM := st_c st_5 1 1 2
def st_7 : tM := st_c st_6 3 0 3
def st_8 : tM := st_c st_7 0 0 4
def st_9 : tM := st_c st_8 2 0 1
def st_10 : tM := st_c st_9 8 0 3
theorem st_ok {M : tM} {p q t : Int32} (h : (fX10_comes 3000 M p q t).isSome = true) : ∃ r, fX10_comes 3000 M p q t = some (r, st_c M p q t) := by
  unfold st_c
  cases e : fX10_comes 3000 M p q t with
  | none => rw [e] at h; cases h
  | some y => exact ⟨y.1, rfl⟩
theorem st_r1 : fX10_root st_0 0 = some st_1 := rfl
set_option maxRecDepth 100000 in
theorem st_r2 : ∃ r, fX10_comes 3000 st_1 0 0 1 = some (r, st_2) := st_ok (by decide +kernel)
set_option maxRecDepth 100000 in
theorem st_r3 : ∃ r, fX10_comes 3000 st_2 0 1 2 = some (r, st_3) := st_ok (by decide +kernel)
set_option maxRecDepth 100000 in
theorem st_r4 : ∃ r, fX10_comes 3000 st_3 0 1 1 = some (r, st_4) := st_ok (by decide +kernel)
set_option maxRecDepth 100000 in
theorem st_r5 : ∃ r, fX10_comes 3000 st_4 1 0 3 = some (r, st_5) := st_ok (by decide +kernel)
set_option maxRecDepth 100000 in
theorem st_r6 : ∃ r, fX10_comes 3000 st_5 1 1 2 = some (r, st_6) := st_ok (by decide +kernel)
set_option maxRecDepth 100000 in
theorem st_r7 : ∃ r, fX10_comes 3000 st_6 3 0 3 = some (r, st_7) := st_ok (by decide +kernel)
set_option maxRecDepth 100000 in
theorem st_r8 : ∃ r, fX10_comes 3000 st_7 0 0 4 = some (r, st_8) := st_ok (by decide +kernel)
set_option maxRecDepth 100000 in
theorem st_r9 : ∃ r, fX10_comes 3000 st_8 2 0 1 = some (r, st_9) := st_ok (by decide +kernel)
set_option maxRecDepth 100000 in
theorem st_r10 : ∃ r, fX10_comes 3000 st_9 8 0 3 = some (r, st_10) := st_ok (by decide +kernel)
/-- a model whose TEXT is the first tree, for the reading -/
def st_g : tM := (fun j => if j = 11 then 69 else 0, fun a i => if a = 10 then nI (s_tx.getD i 0) else 0, fun _ => 0)
def st_q (M N : tM) : Bool := decide (M.1 0 = N.1 0) && (decide (M.1 1 = N.1 1) && (decide (M.1 2 = N.1 2) && (List.range 24).all (fun v => decide (M.2.1 3 v = N.2.1 3 v) && (decide (M.2.1 4 v = N.2.1 4 v) && decide (M.2.1 5 v = N.2.1 5 v)))))
set_option maxRecDepth 100000 in
theorem st_text : (match fX10_reads 3000 st_g with | some y => decide (y.1 = -4) && st_q y.2 st_10 | none => false) = true := by decide +kernel
theorem st_eS {M N : tM} (h : st_q M N = true) : eS (mS M) (mS N) := by
  unfold st_q at h
  simp only [Bool.and_eq_true, decide_eq_true_eq, List.all_eq_true, List.mem_range] at h
  obtain ⟨h1, h2, h3, h4⟩ := h
  exact ⟨h1, h2, h3, fun v hv => h4 v hv⟩
def st_tx (i : Nat) : Nat := s_tx.getD i 0
theorem st_let : ∀ i, i < 69 → s_ch i = nI (st_tx i) ∧ 32 ≤ st_tx i ∧ st_tx i ≤ 126 := by decide +kernel
theorem st_TL {L : tL} (h : L.2 = nI 69) (h2 : ∀ i, i < 69 → L.1 i = s_ch i) : TL L st_tx 69 := ⟨h, by decide, fun i hi => by
  obtain ⟨a, b, c⟩ := st_let i hi
  exact ⟨(h2 i hi).trans a, b, c⟩⟩
theorem st_TM : TM st_g st_tx 69 := ⟨rfl, by decide, fun i hi => ⟨rfl, (st_let i hi).2⟩⟩
theorem st_add {L : tL} {k : Nat} (hk : k < 69) (h : L.2 = nI k) (x : Int32) : fX1_add L x = some (upd L.1 k x, nI (k + 1)) := by
  unfold fX1_add
  rw [h, if_neg (show ¬ (200 : Int32) ≤ nI k from nI_ge (b := 200) (by omega) (by decide)), if_neg (show ¬ (nI k < 0 ∨ 200 ≤ (nI k).toNatClampNeg) from fun q => by
    rcases q with q | q
    · exact nI_pos (by omega) q
    · rw [nI_clamp (by omega)] at q
      omega), nI_clamp (by omega), nI_1]
/-- the first tree, read -/
theorem st_read {L : tL} (H : TL L st_tx 69) (K : tK) (T : tT) : ∃ K' T' M', fX8_read 3000 K L T = some (-1, K', T') ∧ DRs T' (mS M') ∧ eS (mS M') (mS st_10) := by
  have hz := st_text
  rcases reads_s (n := 3000) (Nat.le_refl _) (L := L) (M := st_g) ⟨st_tx, 69, H, st_TM⟩ K T with ⟨K', T', M', b1, b2, b3, b4⟩ | ⟨p, K', T', M', bp, b1, b2, b3⟩
  · rw [b2] at hz
    simp only [Bool.and_eq_true, decide_eq_true_eq] at hz
    exact ⟨K', T', M', b1, b4, st_eS hz.2⟩
  · rw [b2] at hz
    simp only [Bool.and_eq_true, decide_eq_true_eq] at hz
    exact absurd hz.1 (m4_ne (by omega))
set_option maxRecDepth 100000 in
theorem st_there : ¬ (mS st_10).1 = 0 := by decide +kernel
set_option maxRecDepth 100000 in
theorem st_nil : st_10.1 7 = 0 ∧ st_10.1 9 = 0 ∧ st_10.1 11 = 0 ∧ st_10.1 15 = 0 := by decide +kernel
theorem st_Cu {T : tT} {M : tM} (h : DRs T (mS M)) (e : eS (mS M) (mS st_10)) (X : tX) (O : tO) : ∃ O', fX9_settle 3000 X T O = some ((X.1, 0), O') ∧ Cu T O' st_10 := by
  rcases h with ⟨-, h0, -⟩ | ⟨th, pa, ky, c, kd, g, a, -⟩
  · exact absurd (e.1.symm.trans h0) st_there
  · obtain ⟨O', o1, o2⟩ := settle_s (n := 3000) (by decide) g a X O
    exact ⟨O', o1, th, pa, ky, c, kd, g.congr e, a.congr g.2.2.2.1.2.1 e, o2⟩
theorem st_IV {X : tX} {L : tL} {T : tT} {O : tO} {P : tP} {A B : tT} {S : tS} {G : tG} (C : Cu T O st_10) (hX : X = (0, 0)) (hL : L.2 = 0) (hP : P.2.2.2.2 = 0) (hS : S.2.2.2.1 = 0) : IV X L T O P A B S G st_10 := by
  obtain ⟨n7, n9, n11, n15⟩ := st_nil
  subst hX
  exact ⟨C, ⟨0, fun _ => mS st_10, by decide, hP, n7, fun k hk => absurd hk (Nat.not_lt_zero _), eS.refl _, fun k hk => absurd hk (Nat.not_lt_zero _)⟩, ⟨0, by decide, rfl, n9, fun h => absurd h (by decide), fun h => absurd h (by decide)⟩, ⟨fun _ => 0, 0, ⟨hL, by decide, fun i hi => absurd hi (Nat.not_lt_zero _)⟩, ⟨n11, by decide, fun i hi => absurd hi (Nat.not_lt_zero _)⟩⟩, ⟨0, n15, ⟨hS, by decide, fun q hq => absurd hq (Nat.not_lt_zero _)⟩, fun h => absurd h (by decide)⟩, Or.inl rfl⟩
/-! the pictures of LabelTree's own places -/
def PX (h : pH) (X : tX) (L : tL) (K : tK) (U : tU) (T D : tT) (O : tO) (P : tP) (A B : tT) (S E : tS) (G : tG) : Prop := isX h X ∧ isL h L ∧ isK h K ∧ isU h U ∧ isT h 7 T ∧ isT h 11 D ∧ isO h O ∧ isP h P ∧ isT h 28 A ∧ isT h 32 B ∧ isS h 36 S ∧ isS h 40 E ∧ isG h G
def h_st : pH := fun j => [eO 8 [.ref 1, .ref 3, .ref 5, .ref 7, .ref 11, .ref 15, .ref 23, .ref 28, .ref 32, .int 0, .ref 36, .ref 40, .ref 44, .int 0], eO 0 [.ref 2, .int 0], eI 200 (fun _ => 0), eO 7 [.ref 4, .int 0, .int 0], eI 3 (fun _ => 0), eO 5 [.ref 6, .int 0, .int 0, .int 0, .int 0], eI 8 (fun _ => 0), eO 6 [.ref 8, .ref 9, .ref 10, .int 0, .int 0, .int 0], eI 24 (fun _ => 0), eI 24 (fun _ => 0), eI 24 (fun _ => 0), eO 6 [.ref 12, .ref 13, .ref 14, .int 0, .int 0, .int 0], eI 24 (fun _ => 0), eI 24 (fun _ => 0), eI 24 (fun _ => 0), eO 2 [.ref 16, .ref 17, .ref 18, .ref 19, .ref 20, .ref 21, .ref 22, .int 0], eI 24 (fun _ => 0), eI 24 (fun _ => 0), eI 24 (fun _ => 0), eI 24 (fun _ => 0), eI 24 (fun _ => 0), eI 24 (fun _ => 0), eI 24 (fun _ => 0), eO 3 [.ref 24, .ref 25, .ref 26, .ref 27, .int 0], eI 8 (fun _ => 0), eI 8 (fun _ => 0), eI 8 (fun _ => 0), eI 8 (fun _ => 0), eO 6 [.ref 29, .ref 30, .ref 31, .int 0, .int 0, .int 0], eI 24 (fun _ => 0), eI 24 (fun _ => 0), eI 24 (fun _ => 0), eO 6 [.ref 33, .ref 34, .ref 35, .int 0, .int 0, .int 0], eI 24 (fun _ => 0), eI 24 (fun _ => 0), eI 24 (fun _ => 0), eO 4 [.ref 37, .ref 38, .ref 39, .int 0, .int 0], eI 8 (fun _ => 0), eI 8 (fun _ => 0), eI 8 (fun _ => 0), eO 4 [.ref 41, .ref 42, .ref 43, .int 0, .int 0], eI 8 (fun _ => 0), eI 8 (fun _ => 0), eI 8 (fun _ => 0), eO 1 [.ref 45, .ref 54, .ref 63, .ref 72, .ref 7, .ref 15, .ref 36], eR 8 (fun j => if j < 8 then some (46 + j) else none), eJ 24 (fun _ => 0), eJ 24 (fun _ => 0), eJ 24 (fun _ => 0), eJ 24 (fun _ => 0), eJ 24 (fun _ => 0), eJ 24 (fun _ => 0), eJ 24 (fun _ => 0), eJ 24 (fun _ => 0), eR 8 (fun j => if j < 8 then some (55 + j) else none), eJ 24 (fun _ => 0), eJ 24 (fun _ => 0), eJ 24 (fun _ => 0), eJ 24 (fun _ => 0), eJ 24 (fun _ => 0), eJ 24 (fun _ => 0), eJ 24 (fun _ => 0), eJ 24 (fun _ => 0), eR 8 (fun j => if j < 8 then some (64 + j) else none), eJ 24 (fun _ => 0), eJ 24 (fun _ => 0), eJ 24 (fun _ => 0), eJ 24 (fun _ => 0), eJ 24 (fun _ => 0), eJ 24 (fun _ => 0), eJ 24 (fun _ => 0), eJ 24 (fun _ => 0), eJ 24 (fun _ => 0)].getD j (eI 0 (fun _ => 0))
def z_T : tT := (fun _ => 0, fun _ => 0, fun _ => 0, 0, 0, 0)
def z_S : tS := (fun _ => 0, fun _ => 0, fun _ => 0, 0, 0)
def z_O : tO := (fun _ => 0, fun _ => 0, fun _ => 0, fun _ => 0, fun _ => 0, fun _ => 0, fun _ => 0, 0)
def z_P : tP := (fun _ => 0, fun _ => 0, fun _ => 0, fun _ => 0, 0)
def z_G : tG := (fun _ _ => 0, fun _ _ => 0, fun _ _ => 0, fun _ => 0)
theorem h8 {i : Nat} (hi : i < 8) : i = 0 ∨ i = 1 ∨ i = 2 ∨ i = 3 ∨ i = 4 ∨ i = 5 ∨ i = 6 ∨ i = 7 := by omega
theorem h_PX : PX h_st (0, 0) (fun _ => 0, 0) (fun _ => 0, 0, 0) (fun _ => 0, 0, 0, 0, 0) z_T z_T z_O z_P z_T z_T z_S z_S z_G := by
  refine ⟨rfl, ⟨rfl, rfl⟩, ⟨rfl, rfl⟩, ⟨rfl, rfl⟩, ⟨rfl, rfl, rfl, rfl, by decide⟩, ⟨rfl, rfl, rfl, rfl, by decide⟩, ⟨rfl, rfl, rfl, rfl, rfl, rfl, rfl, rfl⟩, ⟨rfl, rfl, rfl, rfl, rfl⟩, ⟨rfl, rfl, rfl, rfl, by decide⟩, ⟨rfl, rfl, rfl, rfl, by decide⟩, ⟨rfl, rfl, rfl, rfl, by decide⟩, ⟨rfl, rfl, rfl, rfl, by decide⟩, rfl, rfl, fun i hi => ?_, rfl, fun i hi => ?_, rfl, fun i hi => ?_, rfl⟩
  · rcases h8 hi with rfl | rfl | rfl | rfl | rfl | rfl | rfl | rfl <;> rfl
  · rcases h8 hi with rfl | rfl | rfl | rfl | rfl | rfl | rfl | rfl <;> rfl
  · rcases h8 hi with rfl | rfl | rfl | rfl | rfl | rfl | rfl | rfl <;> rfl
/-- no reference beyond the 73 places -/
def rb (e : pE) : Prop := ∀ (kc : ClassId × ClassId × ClassId) (ad ad' : Nat → Nat), (∀ k, k < 73 → ad' k = ad k) → p_e kc ad' e = p_e kc ad e
def rv : Value → Bool
  | .ref k => decide (k < 73)
  | _ => true
theorem rb_o {c : Nat} {fs : List Value} (h : fs.all rv = true) : rb (eO c fs) := by
  intro kc ad ad' ha
  show (Sum.inr (c, fs.map (p_v ad')) : va_E) = .inr (c, fs.map (p_v ad))
  have e : fs.map (p_v ad') = fs.map (p_v ad) := List.map_congr_left (fun v hv => by
    have h1 := List.all_eq_true.mp h v hv
    cases v with
    | ref k =>
      simp only [rv, decide_eq_true_eq] at h1
      simp only [p_v, ha k h1]
    | _ => rfl)
  rw [e]
theorem rb_i {n : Nat} {f : Nat → Int32} : rb (eI n f) := fun _ _ _ _ => rfl
theorem rb_j {n : Nat} {f : Nat → Int64} : rb (eJ n f) := fun _ _ _ _ => rfl
theorem rb_r {b : Nat} (hb : b + 8 ≤ 73) : rb (eR 8 (fun j => if j < 8 then some (b + j) else none)) := by
  intro kc ad ad' ha
  have e : (fun i => ((if i < 8 then some (b + i) else none : Option Nat)).map ad') = (fun i => ((if i < 8 then some (b + i) else none : Option Nat)).map ad) := funext fun i => by
    by_cases c : i < 8
    · rw [if_pos c, Option.map_some, Option.map_some, ha _ (by omega)]
    · rw [if_neg c]
      rfl
  show (Sum.inl (kc.2.2, 8, .inr (.inr (.inr (.inr (fun i => ((if i < 8 then some (b + i) else none : Option Nat)).map ad'))))) : va_E) = .inl (kc.2.2, 8, .inr (.inr (.inr (.inr (fun i => ((if i < 8 then some (b + i) else none : Option Nat)).map ad)))))
  rw [e]
section RB
variable {h : pH} {j t : Nat} {X : tX} {L : tL} {K : tK} {U : tU} {T D : tT} {O : tO} {P : tP} {A B : tT} {S E : tS} {G : tG}
theorem isT.rb (x : isT h t T) (ht : t + 3 < 73) (h1 : t ≤ j) (h2 : j < t + 4) : rb (h j) := by
  obtain ⟨x0, x1, x2, x3, -⟩ := x
  rcases (show j = t ∨ j = t + 1 ∨ j = t + 2 ∨ j = t + 3 by omega) with rfl | rfl | rfl | rfl
  · rw [x0]
    have e1 : decide (j + 1 < 73) = true := decide_eq_true (by omega)
    have e2 : decide (j + 2 < 73) = true := decide_eq_true (by omega)
    have e3 : decide (j + 3 < 73) = true := decide_eq_true (by omega)
    refine rb_o ?_
    show (decide (j + 1 < 73) && (decide (j + 2 < 73) && (decide (j + 3 < 73) && (true && (true && (true && true)))))) = true
    rw [e1, e2, e3]
    rfl
  · rw [x1]; exact rb_i
  · rw [x2]; exact rb_i
  · rw [x3]; exact rb_i
theorem isS.rb (x : isS h t S) (ht : t + 3 < 73) (h1 : t ≤ j) (h2 : j < t + 4) : rb (h j) := by
  obtain ⟨x0, x1, x2, x3, -⟩ := x
  rcases (show j = t ∨ j = t + 1 ∨ j = t + 2 ∨ j = t + 3 by omega) with rfl | rfl | rfl | rfl
  · rw [x0]
    have e1 : decide (j + 1 < 73) = true := decide_eq_true (by omega)
    have e2 : decide (j + 2 < 73) = true := decide_eq_true (by omega)
    have e3 : decide (j + 3 < 73) = true := decide_eq_true (by omega)
    refine rb_o ?_
    show (decide (j + 1 < 73) && (decide (j + 2 < 73) && (decide (j + 3 < 73) && (true && (true && true))))) = true
    rw [e1, e2, e3]
    rfl
  · rw [x1]; exact rb_i
  · rw [x2]; exact rb_i
  · rw [x3]; exact rb_i
theorem isG.rb (x : isG h G) (h1 : 44 ≤ j) (h2 : j < 73) : rb (h j) := by
  obtain ⟨x0, x1, x2, x3, x4, x5, x6, x7⟩ := x
  by_cases c0 : j = 44
  · rw [c0, x0]; exact rb_o rfl
  by_cases c1 : j = 45
  · rw [c1, x1]; exact rb_r (by decide)
  by_cases c2 : j < 54
  · obtain ⟨i, rfl⟩ : ∃ i, j = 46 + i := ⟨j - 46, by omega⟩
    rw [x2 i (by omega)]; exact rb_j
  by_cases c3 : j = 54
  · rw [c3, x3]; exact rb_r (by decide)
  by_cases c4 : j < 63
  · obtain ⟨i, rfl⟩ : ∃ i, j = 55 + i := ⟨j - 55, by omega⟩
    rw [x4 i (by omega)]; exact rb_j
  by_cases c5 : j = 63
  · rw [c5, x5]; exact rb_r (by decide)
  by_cases c6 : j < 72
  · obtain ⟨i, rfl⟩ : ∃ i, j = 64 + i := ⟨j - 64, by omega⟩
    rw [x6 i (by omega)]; exact rb_j
  · rw [show j = 72 by omega, x7]; exact rb_j
theorem PX.rb (x : PX h X L K U T D O P A B S E G) (hj : j < 73) : rb (h j) := by
  obtain ⟨xX, ⟨l0, l1⟩, ⟨k0, k1⟩, ⟨u0, u1⟩, xT, xD, ⟨o0, o1, o2, o3, o4, o5, o6, o7⟩, ⟨p0, p1, p2, p3, p4⟩, xA, xB, xS, xE, xG⟩ := x
  by_cases c : 44 ≤ j
  · exact xG.rb c hj
  by_cases c1 : 40 ≤ j
  · exact xE.rb (by decide) c1 (by omega)
  by_cases c2 : 36 ≤ j
  · exact xS.rb (by decide) c2 (by omega)
  by_cases c3 : 32 ≤ j
  · exact xB.rb (by decide) c3 (by omega)
  by_cases c4 : 28 ≤ j
  · exact xA.rb (by decide) c4 (by omega)
  by_cases c5 : 23 ≤ j
  · rcases (show j = 23 ∨ j = 24 ∨ j = 25 ∨ j = 26 ∨ j = 27 by omega) with rfl | rfl | rfl | rfl | rfl
    · rw [p0]; exact rb_o rfl
    · rw [p1]; exact rb_i
    · rw [p2]; exact rb_i
    · rw [p3]; exact rb_i
    · rw [p4]; exact rb_i
  by_cases c6 : 15 ≤ j
  · rcases (show j = 15 ∨ j = 16 ∨ j = 17 ∨ j = 18 ∨ j = 19 ∨ j = 20 ∨ j = 21 ∨ j = 22 by omega) with rfl | rfl | rfl | rfl | rfl | rfl | rfl | rfl
    · rw [o0]; exact rb_o rfl
    · rw [o1]; exact rb_i
    · rw [o2]; exact rb_i
    · rw [o3]; exact rb_i
    · rw [o4]; exact rb_i
    · rw [o5]; exact rb_i
    · rw [o6]; exact rb_i
    · rw [o7]; exact rb_i
  by_cases c7 : 11 ≤ j
  · exact xD.rb (by decide) c7 (by omega)
  by_cases c8 : 7 ≤ j
  · exact xT.rb (by decide) c8 (by omega)
  rcases (show j = 0 ∨ j = 1 ∨ j = 2 ∨ j = 3 ∨ j = 4 ∨ j = 5 ∨ j = 6 by omega) with rfl | rfl | rfl | rfl | rfl | rfl | rfl
  · rw [xX]; exact rb_o rfl
  · rw [l0]; exact rb_o rfl
  · rw [l1]; exact rb_i
  · rw [k0]; exact rb_o rfl
  · rw [k1]; exact rb_i
  · rw [u0]; exact rb_o rfl
  · rw [u1]; exact rb_i
end RB
