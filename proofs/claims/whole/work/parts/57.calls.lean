/-! every call, on both sides (written by program: wip/whole/gen57.py) -/
/-- what the heap of places holds between two calls -/
def PI (h : pH) : Prop := ∃ (X : tX) (L : tL) (K : tK) (U : tU) (T D : tT) (O : tO) (P : tP) (A B : tT) (S E : tS) (G : tG) (M : tM), (isX h X ∧ isL h L ∧ isK h K ∧ isU h U ∧ isT h 7 T ∧ isT h 11 D ∧ isO h O ∧ isP h P ∧ isT h 28 A ∧ isT h 32 B ∧ isS h 36 S ∧ isS h 40 E ∧ isG h G) ∧ isM h M ∧ IV X L T O P A B S G M
theorem C_write {h : pH} (H : PI h) (a0 : Int32) : Ev 10 mX9_write (h, 0, [(0, .ref 0), (1, .int a0)], []) (fun r h1 => ∃ M z, isM h1 M ∧ r = some (.int z) ∧ Ev 10 mX10_write (h1, 0, [(0, .ref 73), (1, .int a0)], []) (fun r2 h2 => r2 = some (.int z) ∧ PI h2)) := by
  obtain ⟨X, L, K, U, T, D, O, P, A, B, S, E, G, M, ⟨xX, xL, xK, xU, xT, xD, xO, xP, xA, xB, xS, xE, xG⟩, xM, I⟩ := H
  obtain ⟨r, L', M', e1, e2, I2⟩ := I_write I a0
  refine (spX9_write (d := 9) xX xL a0 e1).mono (fun r1 h1 q1 => ?_)
  obtain ⟨rfl, yL, f1⟩ := q1
  have xM := isM.fr f1 (by decide) xM
  refine ⟨M, _, xM, rfl, (spX10_write (d := 9) xM a0 e2).mono (fun r2 h2 q2 => ?_)⟩
  obtain ⟨rfl, yM, f2⟩ := q2
  exact ⟨rfl, X, _, K, U, T, D, O, P, A, B, S, E, G, _, ⟨isX.fr f2 (by decide) (isX.fr f1 (by decide) xX), isL.fr f2 (by decide) yL, isK.fr f2 (by decide) (isK.fr f1 (by decide) xK), isU.fr f2 (by decide) (isU.fr f1 (by decide) xU), isT.fr f2 (by decide) (isT.fr f1 (by decide) xT), isT.fr f2 (by decide) (isT.fr f1 (by decide) xD), isO.fr f2 (by decide) (isO.fr f1 (by decide) xO), isP.fr f2 (by decide) (isP.fr f1 (by decide) xP), isT.fr f2 (by decide) (isT.fr f1 (by decide) xA), isT.fr f2 (by decide) (isT.fr f1 (by decide) xB), isS.fr f2 (by decide) (isS.fr f1 (by decide) xS), isS.fr f2 (by decide) (isS.fr f1 (by decide) xE), isG.fr f2 (by decide) (isG.fr f1 (by decide) xG)⟩, yM, I2⟩
theorem C_wipe {h : pH} (H : PI h) : Ev 10 mX9_wipe (h, 0, [(0, .ref 0)], []) (fun r h1 => ∃ M z, isM h1 M ∧ r = some (.int z) ∧ Ev 10 mX10_wipe (h1, 0, [(0, .ref 73)], []) (fun r2 h2 => r2 = some (.int z) ∧ PI h2)) := by
  obtain ⟨X, L, K, U, T, D, O, P, A, B, S, E, G, M, ⟨xX, xL, xK, xU, xT, xD, xO, xP, xA, xB, xS, xE, xG⟩, xM, I⟩ := H
  obtain ⟨r, L', M', e1, e2, I2⟩ := I_wipe I 
  refine (spX9_wipe (d := 9) xX xL  e1).mono (fun r1 h1 q1 => ?_)
  obtain ⟨rfl, yL, f1⟩ := q1
  have xM := isM.fr f1 (by decide) xM
  refine ⟨M, _, xM, rfl, (spX10_wipe (d := 10) xM  e2).mono (fun r2 h2 q2 => ?_)⟩
  obtain ⟨rfl, yM, f2⟩ := q2
  exact ⟨rfl, X, _, K, U, T, D, O, P, A, B, S, E, G, _, ⟨isX.fr f2 (by decide) (isX.fr f1 (by decide) xX), isL.fr f2 (by decide) yL, isK.fr f2 (by decide) (isK.fr f1 (by decide) xK), isU.fr f2 (by decide) (isU.fr f1 (by decide) xU), isT.fr f2 (by decide) (isT.fr f1 (by decide) xT), isT.fr f2 (by decide) (isT.fr f1 (by decide) xD), isO.fr f2 (by decide) (isO.fr f1 (by decide) xO), isP.fr f2 (by decide) (isP.fr f1 (by decide) xP), isT.fr f2 (by decide) (isT.fr f1 (by decide) xA), isT.fr f2 (by decide) (isT.fr f1 (by decide) xB), isS.fr f2 (by decide) (isS.fr f1 (by decide) xS), isS.fr f2 (by decide) (isS.fr f1 (by decide) xE), isG.fr f2 (by decide) (isG.fr f1 (by decide) xG)⟩, yM, I2⟩
theorem C_fault {h : pH} (H : PI h) : Ev 10 mX9_fault (h, 0, [(0, .ref 0)], []) (fun r h1 => ∃ M z, isM h1 M ∧ r = some (.int z) ∧ Ev 10 mX10_fault (h1, 0, [(0, .ref 73)], []) (fun r2 h2 => r2 = some (.int z) ∧ PI h2)) := by
  obtain ⟨X, L, K, U, T, D, O, P, A, B, S, E, G, M, ⟨xX, xL, xK, xU, xT, xD, xO, xP, xA, xB, xS, xE, xG⟩, xM, I⟩ := H
  obtain ⟨r, K', D', M', e1, e2, I2⟩ := I_fault (n := 3000) (Nat.le_refl _) I K D
  refine (spX9_fault (d := 3) xX xL xK xD  e1).mono (fun r1 h1 q1 => ?_)
  obtain ⟨rfl, yK, yD, f1⟩ := q1
  have xM := isM.fr f1 (by decide) xM
  refine ⟨M, _, xM, rfl, (spX10_fault (d := 2) xM  e2).mono (fun r2 h2 q2 => ?_)⟩
  obtain ⟨rfl, yM, f2⟩ := q2
  exact ⟨rfl, X, L, _, U, T, _, O, P, A, B, S, E, G, _, ⟨isX.fr f2 (by decide) (isX.fr f1 (by decide) xX), isL.fr f2 (by decide) (isL.fr f1 (by decide) xL), isK.fr f2 (by decide) yK, isU.fr f2 (by decide) (isU.fr f1 (by decide) xU), isT.fr f2 (by decide) (isT.fr f1 (by decide) xT), isT.fr f2 (by decide) yD, isO.fr f2 (by decide) (isO.fr f1 (by decide) xO), isP.fr f2 (by decide) (isP.fr f1 (by decide) xP), isT.fr f2 (by decide) (isT.fr f1 (by decide) xA), isT.fr f2 (by decide) (isT.fr f1 (by decide) xB), isS.fr f2 (by decide) (isS.fr f1 (by decide) xS), isS.fr f2 (by decide) (isS.fr f1 (by decide) xE), isG.fr f2 (by decide) (isG.fr f1 (by decide) xG)⟩, yM, I2⟩
theorem C_lay {h : pH} (H : PI h) : Ev 10 mX9_lay (h, 0, [(0, .ref 0)], []) (fun r h1 => ∃ M z, isM h1 M ∧ r = some (.int z) ∧ Ev 10 mX10_lay (h1, 0, [(0, .ref 73)], []) (fun r2 h2 => r2 = some (.int z) ∧ PI h2)) := by
  obtain ⟨X, L, K, U, T, D, O, P, A, B, S, E, G, M, ⟨xX, xL, xK, xU, xT, xD, xO, xP, xA, xB, xS, xE, xG⟩, xM, I⟩ := H
  obtain ⟨r, X', K', T', D', O', P', S', M', e1, e2, I2⟩ := I_lay (n := 3000) (Nat.le_refl _) I K D
  refine (spX9_lay (d := 3) xX xL xK xT xD xO xP xS  e1).mono (fun r1 h1 q1 => ?_)
  obtain ⟨rfl, yX, yK, yT, yD, yO, yP, yS, f1⟩ := q1
  have xM := isM.fr f1 (by decide) xM
  refine ⟨M, _, xM, rfl, (spX10_lay (d := 2) xM  e2).mono (fun r2 h2 q2 => ?_)⟩
  obtain ⟨rfl, yM, f2⟩ := q2
  exact ⟨rfl, _, L, _, U, _, _, _, _, A, B, _, E, G, _, ⟨isX.fr f2 (by decide) yX, isL.fr f2 (by decide) (isL.fr f1 (by decide) xL), isK.fr f2 (by decide) yK, isU.fr f2 (by decide) (isU.fr f1 (by decide) xU), isT.fr f2 (by decide) yT, isT.fr f2 (by decide) yD, isO.fr f2 (by decide) yO, isP.fr f2 (by decide) yP, isT.fr f2 (by decide) (isT.fr f1 (by decide) xA), isT.fr f2 (by decide) (isT.fr f1 (by decide) xB), isS.fr f2 (by decide) yS, isS.fr f2 (by decide) (isS.fr f1 (by decide) xE), isG.fr f2 (by decide) (isG.fr f1 (by decide) xG)⟩, yM, I2⟩
theorem C_node {h : pH} (H : PI h) (a0 a1 : Int32) : Ev 10 mX9_node (h, 0, [(0, .ref 0), (1, .int a0), (2, .int a1)], []) (fun r h1 => ∃ M z, isM h1 M ∧ r = some (.int z) ∧ Ev 10 mX10_node (h1, 0, [(0, .ref 73), (1, .int a0), (2, .int a1)], []) (fun r2 h2 => r2 = some (.int z) ∧ PI h2)) := by
  obtain ⟨X, L, K, U, T, D, O, P, A, B, S, E, G, M, ⟨xX, xL, xK, xU, xT, xD, xO, xP, xA, xB, xS, xE, xG⟩, xM, I⟩ := H
  obtain ⟨r, e1, e2⟩ := I_node (n := 3000) (Nat.le_refl _) I a0 a1
  refine (spX9_node (d := 8) xX xT xO a0 a1 e1).mono (fun r1 h1 q1 => ?_)
  obtain ⟨rfl, rfl⟩ := q1
  refine ⟨M, _, xM, rfl, (spX10_node (d := 6) xM a0 a1 e2).mono (fun r2 h2 q2 => ?_)⟩
  obtain ⟨rfl, rfl⟩ := q2
  exact ⟨rfl, X, L, K, U, T, D, O, P, A, B, S, E, G, M, ⟨xX, xL, xK, xU, xT, xD, xO, xP, xA, xB, xS, xE, xG⟩, xM, I⟩
theorem C_child {h : pH} (H : PI h) (a0 a1 : Int32) : Ev 10 mX9_child (h, 0, [(0, .ref 0), (1, .int a0), (2, .int a1)], []) (fun r h1 => ∃ M z, isM h1 M ∧ r = some (.int z) ∧ Ev 10 mX10_child (h1, 0, [(0, .ref 73), (1, .int a0), (2, .int a1)], []) (fun r2 h2 => r2 = some (.int z) ∧ PI h2)) := by
  obtain ⟨X, L, K, U, T, D, O, P, A, B, S, E, G, M, ⟨xX, xL, xK, xU, xT, xD, xO, xP, xA, xB, xS, xE, xG⟩, xM, I⟩ := H
  obtain ⟨r, e1, e2⟩ := I_child (n := 3000) (Nat.le_refl _) I a0 a1
  refine (spX9_child (d := 8) xX xT a0 a1 e1).mono (fun r1 h1 q1 => ?_)
  obtain ⟨rfl, rfl⟩ := q1
  refine ⟨M, _, xM, rfl, (spX10_child (d := 7) xM a0 a1 e2).mono (fun r2 h2 q2 => ?_)⟩
  obtain ⟨rfl, rfl⟩ := q2
  exact ⟨rfl, X, L, K, U, T, D, O, P, A, B, S, E, G, M, ⟨xX, xL, xK, xU, xT, xD, xO, xP, xA, xB, xS, xE, xG⟩, xM, I⟩
theorem C_key {h : pH} (H : PI h) (a0 a1 a2 : Int32) : Ev 10 mX9_key (h, 0, [(0, .ref 0), (1, .int a0), (2, .int a1), (3, .int a2)], []) (fun r h1 => ∃ M z, isM h1 M ∧ r = some (.int z) ∧ Ev 10 mX10_key (h1, 0, [(0, .ref 73), (1, .int a0), (2, .int a1), (3, .int a2)], []) (fun r2 h2 => r2 = some (.int z) ∧ PI h2)) := by
  obtain ⟨X, L, K, U, T, D, O, P, A, B, S, E, G, M, ⟨xX, xL, xK, xU, xT, xD, xO, xP, xA, xB, xS, xE, xG⟩, xM, I⟩ := H
  obtain ⟨r, e1, e2⟩ := I_key (n := 3000) (Nat.le_refl _) I a0 a1 a2
  refine (spX9_key (d := 7) xX xT xO a0 a1 a2 e1).mono (fun r1 h1 q1 => ?_)
  obtain ⟨rfl, rfl⟩ := q1
  refine ⟨M, _, xM, rfl, (spX10_key (d := 8) xM a0 a1 a2 e2).mono (fun r2 h2 q2 => ?_)⟩
  obtain ⟨rfl, rfl⟩ := q2
  exact ⟨rfl, X, L, K, U, T, D, O, P, A, B, S, E, G, M, ⟨xX, xL, xK, xU, xT, xD, xO, xP, xA, xB, xS, xE, xG⟩, xM, I⟩
theorem C_at {h : pH} (H : PI h) (a0 : Int32) : Ev 10 mX9_at (h, 0, [(0, .ref 0), (1, .int a0)], []) (fun r h1 => ∃ M z, isM h1 M ∧ r = some (.int z) ∧ Ev 10 mX10_at (h1, 0, [(0, .ref 73), (1, .int a0)], []) (fun r2 h2 => r2 = some (.int z) ∧ PI h2)) := by
  obtain ⟨X, L, K, U, T, D, O, P, A, B, S, E, G, M, ⟨xX, xL, xK, xU, xT, xD, xO, xP, xA, xB, xS, xE, xG⟩, xM, I⟩ := H
  obtain ⟨r, e1, e2⟩ := I_at (n := 3000) (Nat.le_refl _) I a0
  refine (spX9_at (d := 8) xX xO a0 e1).mono (fun r1 h1 q1 => ?_)
  obtain ⟨rfl, rfl⟩ := q1
  refine ⟨M, _, xM, rfl, (spX10_at (d := 7) xM a0 e2).mono (fun r2 h2 q2 => ?_)⟩
  obtain ⟨rfl, rfl⟩ := q2
  exact ⟨rfl, X, L, K, U, T, D, O, P, A, B, S, E, G, M, ⟨xX, xL, xK, xU, xT, xD, xO, xP, xA, xB, xS, xE, xG⟩, xM, I⟩
theorem C_grow {h : pH} (H : PI h) (a0 a1 a2 : Int32) : Ev 10 mX9_grow (h, 0, [(0, .ref 0), (1, .int a0), (2, .int a1), (3, .int a2)], []) (fun r h1 => ∃ M z, isM h1 M ∧ r = some (.int z) ∧ Ev 10 mX10_grow (h1, 0, [(0, .ref 73), (1, .int a0), (2, .int a1), (3, .int a2)], []) (fun r2 h2 => r2 = some (.int z) ∧ PI h2)) := by
  obtain ⟨X, L, K, U, T, D, O, P, A, B, S, E, G, M, ⟨xX, xL, xK, xU, xT, xD, xO, xP, xA, xB, xS, xE, xG⟩, xM, I⟩ := H
  obtain ⟨r, X', T', O', P', M', e1, e2, I2⟩ := I_grow (n := 3000) (Nat.le_refl _) I a0 a1 a2
  refine (spX9_grow (d := 4) xX xT xO xP a0 a1 a2 e1).mono (fun r1 h1 q1 => ?_)
  obtain ⟨rfl, yX, yT, yO, yP, f1⟩ := q1
  have xM := isM.fr f1 (by decide) xM
  refine ⟨M, _, xM, rfl, (spX10_grow (d := 5) xM a0 a1 a2 e2).mono (fun r2 h2 q2 => ?_)⟩
  obtain ⟨rfl, yM, f2⟩ := q2
  exact ⟨rfl, _, L, K, U, _, D, _, _, A, B, S, E, G, _, ⟨isX.fr f2 (by decide) yX, isL.fr f2 (by decide) (isL.fr f1 (by decide) xL), isK.fr f2 (by decide) (isK.fr f1 (by decide) xK), isU.fr f2 (by decide) (isU.fr f1 (by decide) xU), isT.fr f2 (by decide) yT, isT.fr f2 (by decide) (isT.fr f1 (by decide) xD), isO.fr f2 (by decide) yO, isP.fr f2 (by decide) yP, isT.fr f2 (by decide) (isT.fr f1 (by decide) xA), isT.fr f2 (by decide) (isT.fr f1 (by decide) xB), isS.fr f2 (by decide) (isS.fr f1 (by decide) xS), isS.fr f2 (by decide) (isS.fr f1 (by decide) xE), isG.fr f2 (by decide) (isG.fr f1 (by decide) xG)⟩, yM, I2⟩
theorem C_cut {h : pH} (H : PI h) (a0 : Int32) : Ev 10 mX9_cut (h, 0, [(0, .ref 0), (1, .int a0)], []) (fun r h1 => ∃ M z, isM h1 M ∧ r = some (.int z) ∧ Ev 10 mX10_cut (h1, 0, [(0, .ref 73), (1, .int a0)], []) (fun r2 h2 => r2 = some (.int z) ∧ PI h2)) := by
  obtain ⟨X, L, K, U, T, D, O, P, A, B, S, E, G, M, ⟨xX, xL, xK, xU, xT, xD, xO, xP, xA, xB, xS, xE, xG⟩, xM, I⟩ := H
  obtain ⟨r, X', T', O', P', M', e1, e2, I2⟩ := I_cut (n := 3000) (Nat.le_refl _) I a0
  refine (spX9_cut (d := 4) xX xT xO xP a0 e1).mono (fun r1 h1 q1 => ?_)
  obtain ⟨rfl, yX, yT, yO, yP, f1⟩ := q1
  have xM := isM.fr f1 (by decide) xM
  refine ⟨M, _, xM, rfl, (spX10_cut (d := 8) xM a0 e2).mono (fun r2 h2 q2 => ?_)⟩
  obtain ⟨rfl, yM, f2⟩ := q2
  exact ⟨rfl, _, L, K, U, _, D, _, _, A, B, S, E, G, _, ⟨isX.fr f2 (by decide) yX, isL.fr f2 (by decide) (isL.fr f1 (by decide) xL), isK.fr f2 (by decide) (isK.fr f1 (by decide) xK), isU.fr f2 (by decide) (isU.fr f1 (by decide) xU), isT.fr f2 (by decide) yT, isT.fr f2 (by decide) (isT.fr f1 (by decide) xD), isO.fr f2 (by decide) yO, isP.fr f2 (by decide) yP, isT.fr f2 (by decide) (isT.fr f1 (by decide) xA), isT.fr f2 (by decide) (isT.fr f1 (by decide) xB), isS.fr f2 (by decide) (isS.fr f1 (by decide) xS), isS.fr f2 (by decide) (isS.fr f1 (by decide) xE), isG.fr f2 (by decide) (isG.fr f1 (by decide) xG)⟩, yM, I2⟩
theorem C_tag {h : pH} (H : PI h) (a0 a1 : Int32) : Ev 10 mX9_tag (h, 0, [(0, .ref 0), (1, .int a0), (2, .int a1)], []) (fun r h1 => ∃ M z, isM h1 M ∧ r = some (.int z) ∧ Ev 10 mX10_tag (h1, 0, [(0, .ref 73), (1, .int a0), (2, .int a1)], []) (fun r2 h2 => r2 = some (.int z) ∧ PI h2)) := by
  obtain ⟨X, L, K, U, T, D, O, P, A, B, S, E, G, M, ⟨xX, xL, xK, xU, xT, xD, xO, xP, xA, xB, xS, xE, xG⟩, xM, I⟩ := H
  obtain ⟨r, X', T', O', P', M', e1, e2, I2⟩ := I_tag (n := 3000) (Nat.le_refl _) I a0 a1
  refine (spX9_tag (d := 4) xX xT xO xP a0 a1 e1).mono (fun r1 h1 q1 => ?_)
  obtain ⟨rfl, yX, yT, yO, yP, f1⟩ := q1
  have xM := isM.fr f1 (by decide) xM
  refine ⟨M, _, xM, rfl, (spX10_tag (d := 8) xM a0 a1 e2).mono (fun r2 h2 q2 => ?_)⟩
  obtain ⟨rfl, yM, f2⟩ := q2
  exact ⟨rfl, _, L, K, U, _, D, _, _, A, B, S, E, G, _, ⟨isX.fr f2 (by decide) yX, isL.fr f2 (by decide) (isL.fr f1 (by decide) xL), isK.fr f2 (by decide) (isK.fr f1 (by decide) xK), isU.fr f2 (by decide) (isU.fr f1 (by decide) xU), isT.fr f2 (by decide) yT, isT.fr f2 (by decide) (isT.fr f1 (by decide) xD), isO.fr f2 (by decide) yO, isP.fr f2 (by decide) yP, isT.fr f2 (by decide) (isT.fr f1 (by decide) xA), isT.fr f2 (by decide) (isT.fr f1 (by decide) xB), isS.fr f2 (by decide) (isS.fr f1 (by decide) xS), isS.fr f2 (by decide) (isS.fr f1 (by decide) xE), isG.fr f2 (by decide) (isG.fr f1 (by decide) xG)⟩, yM, I2⟩
theorem C_undo {h : pH} (H : PI h) : Ev 10 mX9_undo (h, 0, [(0, .ref 0)], []) (fun r h1 => ∃ M z, isM h1 M ∧ r = some (.int z) ∧ Ev 10 mX10_undo (h1, 0, [(0, .ref 73)], []) (fun r2 h2 => r2 = some (.int z) ∧ PI h2)) := by
  obtain ⟨X, L, K, U, T, D, O, P, A, B, S, E, G, M, ⟨xX, xL, xK, xU, xT, xD, xO, xP, xA, xB, xS, xE, xG⟩, xM, I⟩ := H
  obtain ⟨r, X', T', O', P', M', e1, e2, I2⟩ := I_undo (n := 3000) (Nat.le_refl _) I 
  refine (spX9_undo (d := 4) xX xT xO xP  e1).mono (fun r1 h1 q1 => ?_)
  obtain ⟨rfl, yX, yT, yO, yP, f1⟩ := q1
  have xM := isM.fr f1 (by decide) xM
  refine ⟨M, _, xM, rfl, (spX10_undo (d := 9) xM  e2).mono (fun r2 h2 q2 => ?_)⟩
  obtain ⟨rfl, yM, f2⟩ := q2
  exact ⟨rfl, _, L, K, U, _, D, _, _, A, B, S, E, G, _, ⟨isX.fr f2 (by decide) yX, isL.fr f2 (by decide) (isL.fr f1 (by decide) xL), isK.fr f2 (by decide) (isK.fr f1 (by decide) xK), isU.fr f2 (by decide) (isU.fr f1 (by decide) xU), isT.fr f2 (by decide) yT, isT.fr f2 (by decide) (isT.fr f1 (by decide) xD), isO.fr f2 (by decide) yO, isP.fr f2 (by decide) yP, isT.fr f2 (by decide) (isT.fr f1 (by decide) xA), isT.fr f2 (by decide) (isT.fr f1 (by decide) xB), isS.fr f2 (by decide) (isS.fr f1 (by decide) xS), isS.fr f2 (by decide) (isS.fr f1 (by decide) xE), isG.fr f2 (by decide) (isG.fr f1 (by decide) xG)⟩, yM, I2⟩
theorem C_between {h : pH} (H : PI h) (a0 a1 a2 : Int32) : Ev 10 mX9_between (h, 0, [(0, .ref 0), (1, .int a0), (2, .int a1), (3, .int a2)], []) (fun r h1 => ∃ M z, isM h1 M ∧ r = some (.int z) ∧ Ev 10 mX10_between (h1, 0, [(0, .ref 73), (1, .int a0), (2, .int a1), (3, .int a2)], []) (fun r2 h2 => r2 = some (.int z) ∧ PI h2)) := by
  obtain ⟨X, L, K, U, T, D, O, P, A, B, S, E, G, M, ⟨xX, xL, xK, xU, xT, xD, xO, xP, xA, xB, xS, xE, xG⟩, xM, I⟩ := H
  obtain ⟨r, e1, e2⟩ := I_between (n := 3000) (Nat.le_refl _) I a0 a1 a2
  refine (spX9_between (d := 6) xX xT a0 a1 a2 e1).mono (fun r1 h1 q1 => ?_)
  obtain ⟨rfl, rfl⟩ := q1
  refine ⟨M, _, xM, rfl, (spX10_between (d := 6) xM a0 a1 a2 e2).mono (fun r2 h2 q2 => ?_)⟩
  obtain ⟨rfl, rfl⟩ := q2
  exact ⟨rfl, X, L, K, U, T, D, O, P, A, B, S, E, G, M, ⟨xX, xL, xK, xU, xT, xD, xO, xP, xA, xB, xS, xE, xG⟩, xM, I⟩
theorem C_ahead {h : pH} (H : PI h) (a0 a1 : Int32) : Ev 10 mX9_ahead (h, 0, [(0, .ref 0), (1, .int a0), (2, .int a1)], []) (fun r h1 => ∃ M z, isM h1 M ∧ r = some (.int z) ∧ Ev 10 mX10_ahead (h1, 0, [(0, .ref 73), (1, .int a0), (2, .int a1)], []) (fun r2 h2 => r2 = some (.int z) ∧ PI h2)) := by
  obtain ⟨X, L, K, U, T, D, O, P, A, B, S, E, G, M, ⟨xX, xL, xK, xU, xT, xD, xO, xP, xA, xB, xS, xE, xG⟩, xM, I⟩ := H
  obtain ⟨r, e1, e2⟩ := I_ahead (n := 3000) (Nat.le_refl _) I a0 a1
  refine (spX9_ahead (d := 8) xX xT xO a0 a1 e1).mono (fun r1 h1 q1 => ?_)
  obtain ⟨rfl, rfl⟩ := q1
  refine ⟨M, _, xM, rfl, (spX10_ahead (d := 6) xM a0 a1 e2).mono (fun r2 h2 q2 => ?_)⟩
  obtain ⟨rfl, rfl⟩ := q2
  exact ⟨rfl, X, L, K, U, T, D, O, P, A, B, S, E, G, M, ⟨xX, xL, xK, xU, xT, xD, xO, xP, xA, xB, xS, xE, xG⟩, xM, I⟩
theorem C_above {h : pH} (H : PI h) (a0 a1 : Int32) : Ev 10 mX9_above (h, 0, [(0, .ref 0), (1, .int a0), (2, .int a1)], []) (fun r h1 => ∃ M z, isM h1 M ∧ r = some (.int z) ∧ Ev 10 mX10_above (h1, 0, [(0, .ref 73), (1, .int a0), (2, .int a1)], []) (fun r2 h2 => r2 = some (.int z) ∧ PI h2)) := by
  obtain ⟨X, L, K, U, T, D, O, P, A, B, S, E, G, M, ⟨xX, xL, xK, xU, xT, xD, xO, xP, xA, xB, xS, xE, xG⟩, xM, I⟩ := H
  obtain ⟨r, e1, e2⟩ := I_above (n := 3000) (Nat.le_refl _) I a0 a1
  refine (spX9_above (d := 7) xX xT xO a0 a1 e1).mono (fun r1 h1 q1 => ?_)
  obtain ⟨rfl, rfl⟩ := q1
  refine ⟨M, _, xM, rfl, (spX10_above (d := 8) xM a0 a1 e2).mono (fun r2 h2 q2 => ?_)⟩
  obtain ⟨rfl, rfl⟩ := q2
  exact ⟨rfl, X, L, K, U, T, D, O, P, A, B, S, E, G, M, ⟨xX, xL, xK, xU, xT, xD, xO, xP, xA, xB, xS, xE, xG⟩, xM, I⟩
theorem C_meet {h : pH} (H : PI h) (a0 a1 : Int32) : Ev 10 mX9_meet (h, 0, [(0, .ref 0), (1, .int a0), (2, .int a1)], []) (fun r h1 => ∃ M z, isM h1 M ∧ r = some (.int z) ∧ Ev 10 mX10_meet (h1, 0, [(0, .ref 73), (1, .int a0), (2, .int a1)], []) (fun r2 h2 => r2 = some (.int z) ∧ PI h2)) := by
  obtain ⟨X, L, K, U, T, D, O, P, A, B, S, E, G, M, ⟨xX, xL, xK, xU, xT, xD, xO, xP, xA, xB, xS, xE, xG⟩, xM, I⟩ := H
  obtain ⟨r, e1, e2⟩ := I_meet (n := 3000) (Nat.le_refl _) I a0 a1
  refine (spX9_meet (d := 7) xX xT xO a0 a1 e1).mono (fun r1 h1 q1 => ?_)
  obtain ⟨rfl, rfl⟩ := q1
  refine ⟨M, _, xM, rfl, (spX10_meet (d := 8) xM a0 a1 e2).mono (fun r2 h2 q2 => ?_)⟩
  obtain ⟨rfl, rfl⟩ := q2
  exact ⟨rfl, X, L, K, U, T, D, O, P, A, B, S, E, G, M, ⟨xX, xL, xK, xU, xT, xD, xO, xP, xA, xB, xS, xE, xG⟩, xM, I⟩
theorem C_pattern {h : pH} (H : PI h) : Ev 10 mX9_pattern (h, 0, [(0, .ref 0)], []) (fun r h1 => ∃ M z, isM h1 M ∧ r = some (.int z) ∧ Ev 10 mX10_pattern (h1, 0, [(0, .ref 73)], []) (fun r2 h2 => r2 = some (.int z) ∧ PI h2)) := by
  obtain ⟨X, L, K, U, T, D, O, P, A, B, S, E, G, M, ⟨xX, xL, xK, xU, xT, xD, xO, xP, xA, xB, xS, xE, xG⟩, xM, I⟩ := H
  obtain ⟨r, X', U', S', E', M', e1, e2, I2⟩ := I_pattern (n := 3000) (Nat.le_refl _) I U E
  refine (spX9_pattern (d := 6) xX xL xU xS xE  e1).mono (fun r1 h1 q1 => ?_)
  obtain ⟨rfl, yX, yU, yS, yE, f1⟩ := q1
  have xM := isM.fr f1 (by decide) xM
  refine ⟨M, _, xM, rfl, (spX10_pattern (d := 7) xM  e2).mono (fun r2 h2 q2 => ?_)⟩
  obtain ⟨rfl, yM, f2⟩ := q2
  exact ⟨rfl, _, L, K, _, T, D, O, P, A, B, _, _, G, _, ⟨isX.fr f2 (by decide) yX, isL.fr f2 (by decide) (isL.fr f1 (by decide) xL), isK.fr f2 (by decide) (isK.fr f1 (by decide) xK), isU.fr f2 (by decide) yU, isT.fr f2 (by decide) (isT.fr f1 (by decide) xT), isT.fr f2 (by decide) (isT.fr f1 (by decide) xD), isO.fr f2 (by decide) (isO.fr f1 (by decide) xO), isP.fr f2 (by decide) (isP.fr f1 (by decide) xP), isT.fr f2 (by decide) (isT.fr f1 (by decide) xA), isT.fr f2 (by decide) (isT.fr f1 (by decide) xB), isS.fr f2 (by decide) yS, isS.fr f2 (by decide) yE, isG.fr f2 (by decide) (isG.fr f1 (by decide) xG)⟩, yM, I2⟩
theorem C_step {h : pH} (H : PI h) (a0 a1 : Int32) : Ev 10 mX9_step (h, 0, [(0, .ref 0), (1, .int a0), (2, .int a1)], []) (fun r h1 => ∃ M z, isM h1 M ∧ r = some (.int z) ∧ Ev 10 mX10_step (h1, 0, [(0, .ref 73), (1, .int a0), (2, .int a1)], []) (fun r2 h2 => r2 = some (.int z) ∧ PI h2)) := by
  obtain ⟨X, L, K, U, T, D, O, P, A, B, S, E, G, M, ⟨xX, xL, xK, xU, xT, xD, xO, xP, xA, xB, xS, xE, xG⟩, xM, I⟩ := H
  obtain ⟨r, e1, e2⟩ := I_step I a0 a1
  refine (spX9_step (d := 8) xX xS a0 a1 e1).mono (fun r1 h1 q1 => ?_)
  obtain ⟨rfl, rfl⟩ := q1
  refine ⟨M, _, xM, rfl, (spX10_step (d := 8) xM a0 a1 e2).mono (fun r2 h2 q2 => ?_)⟩
  obtain ⟨rfl, rfl⟩ := q2
  exact ⟨rfl, X, L, K, U, T, D, O, P, A, B, S, E, G, M, ⟨xX, xL, xK, xU, xT, xD, xO, xP, xA, xB, xS, xE, xG⟩, xM, I⟩
theorem C_matches {h : pH} (H : PI h) : Ev 10 mX9_matches (h, 0, [(0, .ref 0)], []) (fun r h1 => ∃ M z, isM h1 M ∧ r = some (.long z) ∧ Ev 10 mX10_matches (h1, 0, [(0, .ref 73)], []) (fun r2 h2 => r2 = some (.long z) ∧ PI h2)) := by
  obtain ⟨X, L, K, U, T, D, O, P, A, B, S, E, G, M, ⟨xX, xL, xK, xU, xT, xD, xO, xP, xA, xB, xS, xE, xG⟩, xM, I⟩ := H
  obtain ⟨r, X', G', M', e1, e2, I2⟩ := I_matches (n := 3000) (Nat.le_refl _) I 
  refine (spX9_matches (d := 4) xX xT xO xS xG  e1).mono (fun r1 h1 q1 => ?_)
  obtain ⟨rfl, yX, yG, f1⟩ := q1
  have xM := isM.fr f1 (by decide) xM
  refine ⟨M, _, xM, rfl, (spX10_matches (d := 5) xM  e2).mono (fun r2 h2 q2 => ?_)⟩
  obtain ⟨rfl, yM, f2⟩ := q2
  exact ⟨rfl, _, L, K, U, T, D, O, P, A, B, S, E, _, _, ⟨isX.fr f2 (by decide) yX, isL.fr f2 (by decide) (isL.fr f1 (by decide) xL), isK.fr f2 (by decide) (isK.fr f1 (by decide) xK), isU.fr f2 (by decide) (isU.fr f1 (by decide) xU), isT.fr f2 (by decide) (isT.fr f1 (by decide) xT), isT.fr f2 (by decide) (isT.fr f1 (by decide) xD), isO.fr f2 (by decide) (isO.fr f1 (by decide) xO), isP.fr f2 (by decide) (isP.fr f1 (by decide) xP), isT.fr f2 (by decide) (isT.fr f1 (by decide) xA), isT.fr f2 (by decide) (isT.fr f1 (by decide) xB), isS.fr f2 (by decide) (isS.fr f1 (by decide) xS), isS.fr f2 (by decide) (isS.fr f1 (by decide) xE), isG.fr f2 (by decide) yG⟩, yM, I2⟩
theorem C_puts {h : pH} (H : PI h) (a0 a1 : Int32) : Ev 10 mX9_puts (h, 0, [(0, .ref 0), (1, .int a0), (2, .int a1)], []) (fun r h1 => ∃ M z, isM h1 M ∧ r = some (.long z) ∧ Ev 10 mX10_puts (h1, 0, [(0, .ref 73), (1, .int a0), (2, .int a1)], []) (fun r2 h2 => r2 = some (.long z) ∧ PI h2)) := by
  obtain ⟨X, L, K, U, T, D, O, P, A, B, S, E, G, M, ⟨xX, xL, xK, xU, xT, xD, xO, xP, xA, xB, xS, xE, xG⟩, xM, I⟩ := H
  obtain ⟨r, X', G', M', e1, e2, I2⟩ := I_puts (n := 3000) (Nat.le_refl _) I a0 a1
  refine (spX9_puts (d := 4) xX xT xO xS xG a0 a1 e1).mono (fun r1 h1 q1 => ?_)
  obtain ⟨rfl, yX, yG, f1⟩ := q1
  have xM := isM.fr f1 (by decide) xM
  refine ⟨M, _, xM, rfl, (spX10_puts (d := 5) xM a0 a1 e2).mono (fun r2 h2 q2 => ?_)⟩
  obtain ⟨rfl, yM, f2⟩ := q2
  exact ⟨rfl, _, L, K, U, T, D, O, P, A, B, S, E, _, _, ⟨isX.fr f2 (by decide) yX, isL.fr f2 (by decide) (isL.fr f1 (by decide) xL), isK.fr f2 (by decide) (isK.fr f1 (by decide) xK), isU.fr f2 (by decide) (isU.fr f1 (by decide) xU), isT.fr f2 (by decide) (isT.fr f1 (by decide) xT), isT.fr f2 (by decide) (isT.fr f1 (by decide) xD), isO.fr f2 (by decide) (isO.fr f1 (by decide) xO), isP.fr f2 (by decide) (isP.fr f1 (by decide) xP), isT.fr f2 (by decide) (isT.fr f1 (by decide) xA), isT.fr f2 (by decide) (isT.fr f1 (by decide) xB), isS.fr f2 (by decide) (isS.fr f1 (by decide) xS), isS.fr f2 (by decide) (isS.fr f1 (by decide) xE), isG.fr f2 (by decide) yG⟩, yM, I2⟩
theorem C_useful {h : pH} (H : PI h) (a0 : Int32) : Ev 10 mX9_useful (h, 0, [(0, .ref 0), (1, .int a0)], []) (fun r h1 => ∃ M z, isM h1 M ∧ r = some (.int z) ∧ Ev 10 mX10_useful (h1, 0, [(0, .ref 73), (1, .int a0)], []) (fun r2 h2 => r2 = some (.int z) ∧ PI h2)) := by
  obtain ⟨X, L, K, U, T, D, O, P, A, B, S, E, G, M, ⟨xX, xL, xK, xU, xT, xD, xO, xP, xA, xB, xS, xE, xG⟩, xM, I⟩ := H
  obtain ⟨r, X', G', M', e1, e2, I2⟩ := I_useful (n := 3000) (Nat.le_refl _) I a0
  refine (spX9_useful (d := 4) xX xT xO xS xG a0 e1).mono (fun r1 h1 q1 => ?_)
  obtain ⟨rfl, yX, yG, f1⟩ := q1
  have xM := isM.fr f1 (by decide) xM
  refine ⟨M, _, xM, rfl, (spX10_useful (d := 4) xM a0 e2).mono (fun r2 h2 q2 => ?_)⟩
  obtain ⟨rfl, yM, f2⟩ := q2
  exact ⟨rfl, _, L, K, U, T, D, O, P, A, B, S, E, _, _, ⟨isX.fr f2 (by decide) yX, isL.fr f2 (by decide) (isL.fr f1 (by decide) xL), isK.fr f2 (by decide) (isK.fr f1 (by decide) xK), isU.fr f2 (by decide) (isU.fr f1 (by decide) xU), isT.fr f2 (by decide) (isT.fr f1 (by decide) xT), isT.fr f2 (by decide) (isT.fr f1 (by decide) xD), isO.fr f2 (by decide) (isO.fr f1 (by decide) xO), isP.fr f2 (by decide) (isP.fr f1 (by decide) xP), isT.fr f2 (by decide) (isT.fr f1 (by decide) xA), isT.fr f2 (by decide) (isT.fr f1 (by decide) xB), isS.fr f2 (by decide) (isS.fr f1 (by decide) xS), isS.fr f2 (by decide) (isS.fr f1 (by decide) xE), isG.fr f2 (by decide) yG⟩, yM, I2⟩
theorem C_end {h : pH} (H : PI h) (a0 : Int32) : Ev 10 mX9_end (h, 0, [(0, .ref 0), (1, .int a0)], []) (fun r h1 => ∃ M z, isM h1 M ∧ r = some (.int z) ∧ Ev 10 mX10_end (h1, 0, [(0, .ref 73), (1, .int a0)], []) (fun r2 h2 => r2 = some (.int z) ∧ PI h2)) := by
  obtain ⟨X, L, K, U, T, D, O, P, A, B, S, E, G, M, ⟨xX, xL, xK, xU, xT, xD, xO, xP, xA, xB, xS, xE, xG⟩, xM, I⟩ := H
  obtain ⟨r, X', G', M', e1, e2, I2⟩ := I_end (n := 3000) (Nat.le_refl _) I a0
  refine (spX9_end (d := 4) xX xT xO xS xG a0 e1).mono (fun r1 h1 q1 => ?_)
  obtain ⟨rfl, yX, yG, f1⟩ := q1
  have xM := isM.fr f1 (by decide) xM
  refine ⟨M, _, xM, rfl, (spX10_end (d := 4) xM a0 e2).mono (fun r2 h2 q2 => ?_)⟩
  obtain ⟨rfl, yM, f2⟩ := q2
  exact ⟨rfl, _, L, K, U, T, D, O, P, A, B, S, E, _, _, ⟨isX.fr f2 (by decide) yX, isL.fr f2 (by decide) (isL.fr f1 (by decide) xL), isK.fr f2 (by decide) (isK.fr f1 (by decide) xK), isU.fr f2 (by decide) (isU.fr f1 (by decide) xU), isT.fr f2 (by decide) (isT.fr f1 (by decide) xT), isT.fr f2 (by decide) (isT.fr f1 (by decide) xD), isO.fr f2 (by decide) (isO.fr f1 (by decide) xO), isP.fr f2 (by decide) (isP.fr f1 (by decide) xP), isT.fr f2 (by decide) (isT.fr f1 (by decide) xA), isT.fr f2 (by decide) (isT.fr f1 (by decide) xB), isS.fr f2 (by decide) (isS.fr f1 (by decide) xS), isS.fr f2 (by decide) (isS.fr f1 (by decide) xE), isG.fr f2 (by decide) yG⟩, yM, I2⟩
theorem C_keep {h : pH} (H : PI h) : Ev 10 mX9_keep (h, 0, [(0, .ref 0)], []) (fun r h1 => ∃ M z, isM h1 M ∧ r = some (.int z) ∧ Ev 10 mX10_keep (h1, 0, [(0, .ref 73)], []) (fun r2 h2 => r2 = some (.int z) ∧ PI h2)) := by
  obtain ⟨X, L, K, U, T, D, O, P, A, B, S, E, G, M, ⟨xX, xL, xK, xU, xT, xD, xO, xP, xA, xB, xS, xE, xG⟩, xM, I⟩ := H
  obtain ⟨r, X', A', B', M', e1, e2, I2⟩ := I_keep (n := 3000) (Nat.le_refl _) I 
  refine (spX9_keep (d := 8) xX xT xA xB  e1).mono (fun r1 h1 q1 => ?_)
  obtain ⟨rfl, yX, yA, yB, f1⟩ := q1
  have xM := isM.fr f1 (by decide) xM
  refine ⟨M, _, xM, rfl, (spX10_keep (d := 9) xM  e2).mono (fun r2 h2 q2 => ?_)⟩
  obtain ⟨rfl, yM, f2⟩ := q2
  exact ⟨rfl, _, L, K, U, T, D, O, P, _, _, S, E, G, _, ⟨isX.fr f2 (by decide) yX, isL.fr f2 (by decide) (isL.fr f1 (by decide) xL), isK.fr f2 (by decide) (isK.fr f1 (by decide) xK), isU.fr f2 (by decide) (isU.fr f1 (by decide) xU), isT.fr f2 (by decide) (isT.fr f1 (by decide) xT), isT.fr f2 (by decide) (isT.fr f1 (by decide) xD), isO.fr f2 (by decide) (isO.fr f1 (by decide) xO), isP.fr f2 (by decide) (isP.fr f1 (by decide) xP), isT.fr f2 (by decide) yA, isT.fr f2 (by decide) yB, isS.fr f2 (by decide) (isS.fr f1 (by decide) xS), isS.fr f2 (by decide) (isS.fr f1 (by decide) xE), isG.fr f2 (by decide) (isG.fr f1 (by decide) xG)⟩, yM, I2⟩
theorem C_back {h : pH} (H : PI h) : Ev 10 mX9_back (h, 0, [(0, .ref 0)], []) (fun r h1 => ∃ M z, isM h1 M ∧ r = some (.int z) ∧ Ev 10 mX10_back (h1, 0, [(0, .ref 73)], []) (fun r2 h2 => r2 = some (.int z) ∧ PI h2)) := by
  obtain ⟨X, L, K, U, T, D, O, P, A, B, S, E, G, M, ⟨xX, xL, xK, xU, xT, xD, xO, xP, xA, xB, xS, xE, xG⟩, xM, I⟩ := H
  obtain ⟨r, X', T', O', P', M', e1, e2, I2⟩ := I_back (n := 3000) (Nat.le_refl _) I 
  refine (spX9_back (d := 4) xX xT xO xP xA xB  e1).mono (fun r1 h1 q1 => ?_)
  obtain ⟨rfl, yX, yT, yO, yP, f1⟩ := q1
  have xM := isM.fr f1 (by decide) xM
  refine ⟨M, _, xM, rfl, (spX10_back (d := 9) xM  e2).mono (fun r2 h2 q2 => ?_)⟩
  obtain ⟨rfl, yM, f2⟩ := q2
  exact ⟨rfl, _, L, K, U, _, D, _, _, A, B, S, E, G, _, ⟨isX.fr f2 (by decide) yX, isL.fr f2 (by decide) (isL.fr f1 (by decide) xL), isK.fr f2 (by decide) (isK.fr f1 (by decide) xK), isU.fr f2 (by decide) (isU.fr f1 (by decide) xU), isT.fr f2 (by decide) yT, isT.fr f2 (by decide) (isT.fr f1 (by decide) xD), isO.fr f2 (by decide) yO, isP.fr f2 (by decide) yP, isT.fr f2 (by decide) (isT.fr f1 (by decide) xA), isT.fr f2 (by decide) (isT.fr f1 (by decide) xB), isS.fr f2 (by decide) (isS.fr f1 (by decide) xS), isS.fr f2 (by decide) (isS.fr f1 (by decide) xE), isG.fr f2 (by decide) (isG.fr f1 (by decide) xG)⟩, yM, I2⟩
theorem C_count {h : pH} (H : PI h) (a0 : Int32) : Ev 10 mX9_count (h, 0, [(0, .ref 0), (1, .int a0)], []) (fun r h1 => ∃ M z, isM h1 M ∧ r = some (.int z) ∧ Ev 10 mX10_count (h1, 0, [(0, .ref 73), (1, .int a0)], []) (fun r2 h2 => r2 = some (.int z) ∧ PI h2)) := by
  obtain ⟨X, L, K, U, T, D, O, P, A, B, S, E, G, M, ⟨xX, xL, xK, xU, xT, xD, xO, xP, xA, xB, xS, xE, xG⟩, xM, I⟩ := H
  obtain ⟨r, e1, e2⟩ := I_count (n := 3000) (Nat.le_refl _) I a0
  refine (spX9_count (d := 7) xX xL xT xO xP xS a0 e1).mono (fun r1 h1 q1 => ?_)
  obtain ⟨rfl, rfl⟩ := q1
  refine ⟨M, _, xM, rfl, (spX10_count (d := 8) xM a0 e2).mono (fun r2 h2 q2 => ?_)⟩
  obtain ⟨rfl, rfl⟩ := q2
  exact ⟨rfl, X, L, K, U, T, D, O, P, A, B, S, E, G, M, ⟨xX, xL, xK, xU, xT, xD, xO, xP, xA, xB, xS, xE, xG⟩, xM, I⟩
