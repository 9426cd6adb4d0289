/-! the ITEMS r and g; the whole TEXT -/
section ITEMS2
variable {L : tL} {M : tM} {tx : Nat → Nat} {sz n : Nat} {K : tK} {D : tT} {F : tK → tT → Option (Int32 × tK × tT)} {i : Nat} {first : Int32} {th : Nat → Bool} {pa ky : Nat → Nat} {c kd : Nat}
theorem DRs.came (h : DRs D (mS M)) : (D.2.2.2.2.1 = 0 ∧ M.1 1 = 0 ∧ D.2.2.2.1 = 0 ∧ M.1 0 = 0 ∧ ∃ kd, kd < 4 ∧ D.2.2.2.2.2 = nI kd ∧ M.1 2 = nI kd) ∨ ∃ th pa ky c kd, GS (mS M) th pa ky c kd ∧ TA D (mS M) c ∧ (∀ v, v < c → th v = true) ∧ 1 ≤ c ∧ c ≤ 24 ∧ D.2.2.2.2.1 = nI c ∧ M.1 1 = nI c := by
  rcases h with ⟨d1, d2, d3, d4, d5⟩ | ⟨th, pa, ky, c, kd, g, a, h⟩
  · exact Or.inl ⟨d3, d4, d1, d2, d5⟩
  · have e1 := g.2.2.2.1
    exact Or.inr ⟨th, pa, ky, c, kd, g, a, h, e1.2.2 0 g.2.2.1, e1.2.1, a.2.1.trans e1.1, e1.1⟩
theorem tag_y {v : Nat} (h : v < 6) : fX9_isTag (nI v) = 1 := by
  unfold fX9_isTag
  rw [if_neg (nI_pos (by omega)), if_neg (show ¬ (6 : Int32) ≤ nI v from nI_ge (b := 6) h (by decide))]
theorem tag_n {v : Nat} (h : 6 ≤ v) (h2 : v < 1000) : fX9_isTag (nI v) = 0 := by
  unfold fX9_isTag
  rw [if_neg (nI_pos (by omega)), if_pos (show (6 : Int32) ≤ nI v from nI_le (a := 6) h (by omega))]
theorem root_GS (hk : kd < 4) (tag : Int32) (f p q : Nat → Int32) : GS (1, 1, nI kd, upd f 0 tag, upd p 0 (-4), upd q 0 0) (fun v => decide (v = 0)) (fun _ => 0) (fun _ => 0) 1 kd := by
  refine ⟨⟨?_, fun v hv => decide_eq_false (by omega), fun v h1 hv => ?_, fun _ => ⟨pk_us (f := p) (k := 0), pk_us (f := q) (k := 0) (x := 0)⟩⟩, ⟨fun v h1 hv => ?_, fun v w h1 h2 hv => ?_, fun v hv => decide_eq_false (by omega)⟩, rfl, ⟨rfl, by omega, fun v hv => ?_⟩, rfl, hk⟩
  · have : ∀ v, v < 24 → decide (v = 0) = bt 1 v := by decide +kernel
    exact this
  · have := of_decide_eq_true hv
    omega
  · have := of_decide_eq_true hv
    omega
  · have := of_decide_eq_true hv
    omega
  · have := of_decide_eq_true hv
    omega
theorem rr_0 {M' : tM} (h : M.1 1 = 0) (g : fX10_number M 0 5 59 = some (0, M')) : fX10_readsRoot M = some (0, M') := by
  unfold fX10_readsRoot
  rw [h, if_neg (show ¬ (0 : Int32) < 0 by decide), g, Option.bind_some]
  exact if_neg (fun q => q rfl)
theorem rr_1 {M' M2 : tM} (h : M.1 1 = 0) (g : fX10_number M 0 5 59 = some (1, M')) (r : fX10_root M' (M'.1 13) = some M2) : fX10_readsRoot M = some (1, M2) := by
  unfold fX10_readsRoot
  rw [h, if_neg (show ¬ (0 : Int32) < 0 by decide), g, Option.bind_some, if_pos (show ¬ (1 : Int32) = 0 by decide)]
  dsimp only
  rw [r]
  rfl
theorem rr_n (h : 0 < M.1 1) : fX10_readsRoot M = some (0, M) := by
  unfold fX10_readsRoot
  exact if_pos h
theorem item_r (H : TL L tx sz) (G : TM M tx sz) (hn : 100 ≤ n) (hi : i < sz) (hM : M.1 12 = nI i) (hD : DRs D (mS M)) (ht : tx i = 114) : ItR n L sz K D M i (nI (tx i)) first F := by
  have hs := H.2.1
  unfold ItR
  rw [ht]
  have hh : fX10_here M = some (nI 114) := by
    rw [here_s G (by omega) hM, if_pos hi, ht]
  have h1 : M.1 12 + 1 = nI (i + 1) := by rw [hM, nI_1]
  have G1 : TM (va_up M.1 12 (M.1 12 + 1), M.2.1, M.2.2) tx sz := G
  have q := number_s G1 (i := i + 1) (lo := 0) (hi := 5) (e := 59) (by omega) h1 (by omega) (by omega) (by omega)
  rcases hD.came with ⟨d1, d2, d3, d4, kd, d5, d6, d7⟩ | ⟨th, pa, ky, c, kd, g, a, hall, c1, c24, d1, d2⟩
  · have m1 : (va_up M.1 12 (M.1 12 + 1), M.2.1, M.2.2).1 1 = 0 := d2
    rcases rn1 H (K := (K.1, nI (i + 1), K.2.2)) hn (show i + 1 < 900 by omega) rfl with ⟨c1, K', c2⟩ | ⟨v, k, c1, c2⟩
    · left
      rw [c1] at q
      obtain ⟨M', q1, q2⟩ := q
      exact ⟨_, _, _, bF_0 (lt := nI 114) c2, it_r hh (rr_0 m1 q1) (Or.inl rfl), FRM.at.trans q2.frm⟩
    · have hk := nuC_in c1
      rw [c1] at q
      dsimp only at q
      by_cases cv : v < 6
      · right
        rw [if_pos (show 0 ≤ v ∧ v ≤ 5 by omega)] at q
        have z : fX8_applyRoot (upd K.1 0 (nI v), nI k, K.2.2) D = some (1, (upd D.1 0 (nI v), upd D.2.1 0 (-1), upd D.2.2.1 0 0, 1, 1, D.2.2.2.2.2)) := by
          unfold fX8_applyRoot fX7_came fX7_add fX7_isFull
          rw [d1, d3, if_neg (show ¬ (0 : Int32) < 0 by decide)]
          dsimp only
          rw [if_pos (show ¬ fX9_isTag (upd K.1 0 (nI v) 0) = 0 by rw [pk_us, tag_y cv]; decide), pk_us]
          rfl
        refine ⟨_, _, _, k, bF_y c2 (ap_r z (Or.inr rfl)), it_r hh (rr_1 m1 q rfl) (Or.inr rfl), ?_, by omega, hk.2.1, rfl, rfl, ?_, Or.inr (show (0 : Int32) < 1 by decide)⟩
        · exact ⟨fun j j0 j1 j2 j12 j13 => by
            show va_up (va_up (va_up (va_up (va_up M.1 12 _) 12 (nI k)) 13 (nI v)) 0 1) 1 1 j = M.1 j
            rw [vu_n j1, vu_n j0, vu_n j13, vu_n j12, vu_n j12], fun j hj => by
            show va_up (va_up (va_up M.2.1 3 _) 4 _) 5 _ j = M.2.1 j
            rw [vu_n (by omega), vu_n (by omega), vu_n (by omega)]⟩
        · right
          have gg := root_GS d5 (nI v) (M.2.1 3) (M.2.1 4) (M.2.1 5)
          rw [← d7] at gg
          refine ⟨_, _, _, _, _, gg, ⟨rfl, rfl, d6.trans d7.symm, pk_us (f := D.2.1) (k := 0) (x := -1), pk_us (f := D.2.2.1) (k := 0) (x := 0), fun w hw => ?_⟩, fun w hw => decide_eq_true (by omega)⟩
          have : w = 0 := by omega
          subst this
          refine ⟨?_, fun q => absurd q (by omega)⟩
          show upd D.1 0 (nI v) 0 = upd (M.2.1 3) 0 (nI v) 0
          rw [pk_us, pk_us]
      · left
        rw [if_neg (show ¬ (0 ≤ v ∧ v ≤ 5) by omega)] at q
        obtain ⟨M', q1, q2⟩ := q
        have z : fX8_applyRoot (upd K.1 0 (nI v), nI k, K.2.2) D = some (0, D) := by
          unfold fX8_applyRoot fX7_came
          rw [d1, if_neg (show ¬ (0 : Int32) < 0 by decide)]
          dsimp only
          rw [if_neg (show ¬ ¬ fX9_isTag (upd K.1 0 (nI v) 0) = 0 from fun q => q (by rw [pk_us, tag_n (by omega) (by omega)]))]
        exact ⟨_, _, _, bF_n c2 (ap_r z (Or.inl rfl)), it_r hh (rr_0 m1 q1) (Or.inl rfl), FRM.at.trans q2.frm⟩
  · left
    have p2 : (0 : Int32) < nI c := nI_lt (a := 0) (by omega) (by omega)
    have m1 : 0 < (va_up M.1 12 (M.1 12 + 1), M.2.1, M.2.2).1 1 := by
      show 0 < M.1 1
      rw [d2]
      exact p2
    have it := it_r (n := n) (first := first) hh (rr_n m1) (Or.inl rfl)
    rcases rn1 H (K := (K.1, nI (i + 1), K.2.2)) hn (show i + 1 < 900 by omega) rfl with ⟨c1, K', c2⟩ | ⟨v, k, c1, c2⟩
    · exact ⟨_, _, _, bF_0 (lt := nI 114) c2, it, FRM.at⟩
    · have z : fX8_applyRoot (upd K.1 0 (nI v), nI k, K.2.2) D = some (0, D) := by
        unfold fX8_applyRoot fX7_came
        rw [d1, if_pos p2]
      exact ⟨_, _, _, bF_n c2 (ap_r z (Or.inl rfl)), it, FRM.at⟩
/-! g -/
def gOK (th : Nat → Bool) (pa ky : Nat → Nat) (c kd a b t : Nat) : Prop := a < c ∧ b ≤ kc th pa a ∧ t ≤ 5 ∧ sfN th pa ky kd a b ≠ 0
theorem comes_0 (hn : 100 ≤ n) (g : GS (mS M) th pa ky c kd) {p j : Nat} (tp : th p = true) (hj : j ≤ kc th pa p) (hs : sfN th pa ky kd p j = 0) (tag : Int32) : fX10_comes n M (nI p) (nI j) tag = some (-4, M) := by
  unfold fX10_comes
  have R : RM M th pa ky := g.1
  rw [X10_keyFor g.2.1 R g.2.2.2.2.1 g.2.2.2.2.2 hn (g.2.1.lt tp) hj, hs]
  rfl
theorem rnode_s (G : TM M tx sz) (hn : 100 ≤ n) (g : GS (mS M) th pa ky c kd) (hall : ∀ v, v < c → th v = true) (c24 : c < 24) {j : Nat} (hj : j < 300) (h12 : M.1 12 = nI j) : ((∀ a k1 b k2 t k3, nuC tx sz j 44 = some (a, k1) → nuC tx sz k1 44 = some (b, k2) → nuC tx sz k2 59 = some (t, k3) → ¬ gOK th pa ky c kd a b t) ∧ ∃ M', fX10_readsNode n M = some (0, M') ∧ FRM M M') ∨ (∃ a k1 b k2 t k3 M', nuC tx sz j 44 = some (a, k1) ∧ nuC tx sz k1 44 = some (b, k2) ∧ nuC tx sz k2 59 = some (t, k3) ∧ gOK th pa ky c kd a b t ∧ fX10_readsNode n M = some (1, M') ∧ FRM M M' ∧ M'.1 12 = nI k3 ∧ mS M' = (M.1 0 ||| (1 <<< (nI c &&& 31)), nI (c + 1), M.1 2, upd (M.2.1 3) c (nI t), upd (M.2.1 4) c (nI a), upd (M.2.1 5) c (nI (sfN th pa ky kd a b)))) := by
  have hsz := G.2.1
  have e1 := g.2.2.2.1
  have c1 : 1 ≤ c := e1.2.2 0 g.2.2.1
  have mc : M.1 1 = nI c := e1.1
  unfold fX10_readsNode
  rw [mc, if_neg (nI_ne0 c1 (by omega)), if_neg (show ¬ nI c = 24 from fun q => by have := (nI_eq (a := c) (b := 24) (by omega) (by decide)).mp q; omega), show nI c - 1 = nI (c - 1) from pk_sub (b := 1) c1]
  have q := number_s G (i := j) (lo := 0) (hi := c - 1) (e := 44) (by omega) h12 (by omega) (by omega) (by omega)
  cases h1 : nuC tx sz j 44 with
  | none =>
    rw [h1] at q
    obtain ⟨M', q1, q2⟩ := q
    have q1 : fX10_number M 0 (nI (c - 1)) 44 = some (0, M') := q1
    rw [q1]
    exact Or.inl ⟨fun a k1 b k2 t k3 z => (by cases z), M', rfl, q2.frm⟩
  | some p =>
    obtain ⟨a, k1⟩ := p
    have i1 := nuC_in h1
    rw [h1] at q
    dsimp only at q
    by_cases ca : a < c
    · rw [if_pos (by omega)] at q
      have q : fX10_number M 0 (nI (c - 1)) 44 = _ := q
      rw [q, Option.bind_some, if_pos (show ¬ (1 : Int32) = 0 by decide)]
      have ta := hall a ca
      have R2 : RM (va_up (va_up M.1 12 (nI k1)) 13 (nI a), M.2.1, M.2.2) th pa ky := g.1
      have kl := kc_le (th := th) (pa := pa) (p := a)
      show ((∀ a' k1' b k2 t k3, some (a, k1) = some (a', k1') → nuC tx sz k1' 44 = some (b, k2) → nuC tx sz k2 59 = some (t, k3) → ¬ gOK th pa ky c kd a' b t) ∧ ∃ M', ((fX10_childMany n (va_up (va_up M.1 12 (nI k1)) 13 (nI a), M.2.1, M.2.2) (nI a)).bind fun y9 => _) = some (0, M') ∧ FRM M M') ∨ _
      rw [show (va_up (va_up M.1 12 (nI k1)) 13 (nI a), M.2.1, M.2.2).1 13 = nI a from rfl, X10_childMany R2 hn (g.2.1.lt ta), Option.bind_some]
      have q := number_s (M := (va_up (va_up M.1 12 (nI k1)) 13 (nI a), M.2.1, M.2.2)) G (i := k1) (lo := 0) (hi := kc th pa a) (e := 44) (by omega) rfl (by omega) (by omega) (by omega)
      cases h2 : nuC tx sz k1 44 with
      | none =>
        rw [h2] at q
        obtain ⟨M', q1, q2⟩ := q
        have q1 : fX10_number (va_up (va_up M.1 12 (nI k1)) 13 (nI a), M.2.1, M.2.2) 0 (nI (kc th pa a)) 44 = some (0, M') := q1
        rw [q1]
        exact Or.inl ⟨fun a k1 b k2 t k3 z z2 => (by cases z; rw [h2] at z2; cases z2), M', rfl, FRM.at2.trans q2.frm⟩
      | some p =>
        obtain ⟨b, k2⟩ := p
        have i2 := nuC_in h2
        rw [h2] at q
        dsimp only at q
        by_cases cb : b ≤ kc th pa a
        · rw [if_pos (by omega)] at q
          have q : fX10_number (va_up (va_up M.1 12 (nI k1)) 13 (nI a), M.2.1, M.2.2) 0 (nI (kc th pa a)) 44 = _ := q
          rw [q, Option.bind_some, if_pos (show ¬ (1 : Int32) = 0 by decide)]
          have q := number_s (M := (va_up (va_up (va_up (va_up M.1 12 (nI k1)) 13 (nI a)) 12 (nI k2)) 13 (nI b), M.2.1, M.2.2)) G (i := k2) (lo := 0) (hi := 5) (e := 59) (by omega) rfl (by omega) (by omega) (by omega)
          cases h3 : nuC tx sz k2 59 with
          | none =>
            rw [h3] at q
            obtain ⟨M', q1, q2⟩ := q
            have q1 : fX10_number (va_up (va_up (va_up (va_up M.1 12 (nI k1)) 13 (nI a)) 12 (nI k2)) 13 (nI b), M.2.1, M.2.2) 0 5 59 = some (0, M') := q1
            rw [q1]
            refine Or.inl ⟨fun a k1 b k2 t k3 z z2 z3 => ?_, M', rfl, (FRM.at2.trans (FRM.at2 (M := (va_up (va_up M.1 12 (nI k1)) 13 (nI a), M.2.1, M.2.2)))).trans q2.frm⟩
            cases z
            rw [h2] at z2
            cases z2
            rw [h3] at z3
            cases z3
          | some p =>
            obtain ⟨t, k3⟩ := p
            have i3 := nuC_in h3
            rw [h3] at q
            dsimp only at q
            by_cases ct : t ≤ 5
            · rw [if_pos (by omega)] at q
              have q : fX10_number (va_up (va_up (va_up (va_up M.1 12 (nI k1)) 13 (nI a)) 12 (nI k2)) 13 (nI b), M.2.1, M.2.2) 0 5 59 = _ := q
              rw [q, Option.bind_some, if_neg (show ¬ (1 : Int32) = 0 by decide)]
              have g4 : GS (mS (va_up (va_up (va_up (va_up (va_up (va_up M.1 12 (nI k1)) 13 (nI a)) 12 (nI k2)) 13 (nI b)) 12 (nI k3)) 13 (nI t), M.2.1, M.2.2)) th pa ky c kd := g
              have f4 : FRM M (va_up (va_up (va_up (va_up (va_up (va_up M.1 12 (nI k1)) 13 (nI a)) 12 (nI k2)) 13 (nI b)) 12 (nI k3)) 13 (nI t), M.2.1, M.2.2) := (FRM.at2.trans (FRM.at2 (M := (va_up (va_up M.1 12 (nI k1)) 13 (nI a), M.2.1, M.2.2)))).trans (FRM.at2 (M := (va_up (va_up (va_up (va_up M.1 12 (nI k1)) 13 (nI a)) 12 (nI k2)) 13 (nI b), M.2.1, M.2.2)))
              by_cases s0 : sfN th pa ky kd a b = 0
              · have cm := comes_0 hn g4 ta cb s0 (nI t)
                refine Or.inl ⟨fun a k1 b k2 t k3 z z2 z3 => ?_, _, ?_, f4⟩
                · cases z
                  rw [h2] at z2
                  cases z2
                  exact fun o => o.2.2.2 s0
                · show ((fX10_comes n (va_up (va_up (va_up (va_up (va_up (va_up M.1 12 (nI k1)) 13 (nI a)) 12 (nI k2)) 13 (nI b)) 12 (nI k3)) 13 (nI t), M.2.1, M.2.2) (nI a) (nI b) (nI t)).bind fun y21 => if y21.1 = (-4) then some ((0 : Int32), y21.2) else some (1, y21.2)) = _
                  rw [cm]
                  rfl
              · obtain ⟨M', m1, m2, m3, m4⟩ := comes_s hn g4 ta cb s0 c24 (nI t)
                refine Or.inr ⟨a, k1, b, k2, t, k3, M', rfl, h2, h3, ⟨ca, cb, ct, s0⟩, ?_, f4.trans ⟨fun i i0 i1 i2 i3 i4 => m3 i (by omega), fun i hi => m4 i hi⟩, m3 12 (by omega), m2⟩
                show ((fX10_comes n (va_up (va_up (va_up (va_up (va_up (va_up M.1 12 (nI k1)) 13 (nI a)) 12 (nI k2)) 13 (nI b)) 12 (nI k3)) 13 (nI t), M.2.1, M.2.2) (nI a) (nI b) (nI t)).bind fun y21 => if y21.1 = (-4) then some ((0 : Int32), y21.2) else some (1, y21.2)) = _
                rw [m1, Option.bind_some]
                exact if_neg (m4_ne (by omega))
            · rw [if_neg (by omega)] at q
              obtain ⟨M', q1, q2⟩ := q
              have q1 : fX10_number (va_up (va_up (va_up (va_up M.1 12 (nI k1)) 13 (nI a)) 12 (nI k2)) 13 (nI b), M.2.1, M.2.2) 0 5 59 = some (0, M') := q1
              rw [q1]
              refine Or.inl ⟨fun a k1 b k2 t k3 z z2 z3 => ?_, M', rfl, (FRM.at2.trans (FRM.at2 (M := (va_up (va_up M.1 12 (nI k1)) 13 (nI a), M.2.1, M.2.2)))).trans q2.frm⟩
              cases z
              rw [h2] at z2
              cases z2
              rw [h3] at z3
              cases z3
              exact fun o => ct o.2.2.1
        · rw [if_neg (by omega)] at q
          obtain ⟨M', q1, q2⟩ := q
          have q1 : fX10_number (va_up (va_up M.1 12 (nI k1)) 13 (nI a), M.2.1, M.2.2) 0 (nI (kc th pa a)) 44 = some (0, M') := q1
          rw [q1]
          exact Or.inl ⟨fun a k1 b k2 t k3 z z2 z3 => (by cases z; rw [h2] at z2; cases z2; exact fun o => cb o.2.1), M', rfl, FRM.at2.trans q2.frm⟩
    · rw [if_neg (by omega)] at q
      obtain ⟨M', q1, q2⟩ := q
      have q1 : fX10_number M 0 (nI (c - 1)) 44 = some (0, M') := q1
      rw [q1]
      exact Or.inl ⟨fun a k1 b k2 t k3 z z2 z3 => (by cases z; exact fun o => ca o.1), M', rfl, q2.frm⟩
end ITEMS2
