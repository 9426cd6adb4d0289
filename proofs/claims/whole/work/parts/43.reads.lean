/-! g of the class; a whole TEXT; fault, lay -/
section READS
variable {L : tL} {M : tM} {tx : Nat → Nat} {sz n : Nat} {K : tK} {D T : tT} {F : tK → tT → Option (Int32 × tK × tT)} {i : Nat} {first : Int32} {th : Nat → Bool} {pa ky : Nat → Nat} {c kd : Nat} {O : tO} {P : tP} {X : tX} {S : tS}
theorem there_s (R : RT D th pa ky) {a : Nat} (h : a < 1000) : fX7_isThere D (nI a) = if th a = true then 1 else 0 := by
  by_cases c : a < 24
  · exact X7_there R c
  · rw [if_neg (show ¬ th a = true by rw [R.2.1 a (by omega)]; decide)]
    unfold fX7_isThere fX7_isNumber
    rw [if_neg (nI_pos (by omega)), if_pos (show (24 : Int32) ≤ nI a from nI_le (a := 24) (by omega) (by omega))]
    exact if_pos rfl
theorem anode_s {s : tN} (hn : 100 ≤ n) (g : GS s th pa ky c kd) (ta : TA D s c) (hall : ∀ v, v < c → th v = true) (c24 : c < 24) {a b t : Nat} (k0 : K.1 0 = nI a) (k1 : K.1 1 = nI b) (k2 : K.1 2 = nI t) (ha : a ≤ 99) (hb : b ≤ 99) (ht : t ≤ 99) : (¬ gOK th pa ky c kd a b t → fX8_applyNode n K D = some (0, D)) ∧ (gOK th pa ky c kd a b t → ∃ D', fX8_applyNode n K D = some (1, D') ∧ GS (s.1 ||| (1 <<< (nI c &&& 31)), nI (c + 1), s.2.2.1, upd s.2.2.2.1 c (nI t), upd s.2.2.2.2.1 c (nI a), upd s.2.2.2.2.2 c (nI (sfN th pa ky kd a b))) (thA th c) (fnA pa c a) (fnA ky c (sfN th pa ky kd a b)) (c + 1) kd ∧ TA D' (s.1 ||| (1 <<< (nI c &&& 31)), nI (c + 1), s.2.2.1, upd s.2.2.2.1 c (nI t), upd s.2.2.2.2.1 c (nI a), upd s.2.2.2.2.2 c (nI (sfN th pa ky kd a b))) (c + 1)) := by
  have R := TA_RT g ta
  have w := g.2.1
  have hc := g.2.2.2.1
  have hf : fX7_isFull D = 0 := by
    unfold fX7_isFull
    rw [ta.2.1, hc.1]
    exact if_pos (nI_lt (b := 24) c24 (by decide))
  have hkd : D.2.2.2.2.2 = nI kd := ta.2.2.1.trans g.2.2.2.2.1
  unfold fX8_applyNode
  rw [hf, k0, k1, k2, if_neg (show ¬ ¬ (0 : Int32) = 0 from fun q => q rfl), there_s R (by omega)]
  by_cases ca : a < c
  · have tha := hall a ca
    have a24 := w.lt tha
    have kl := kc_le (th := th) (pa := pa) (p := a)
    rw [if_pos tha, if_neg (show ¬ (1 : Int32) = 0 by decide), X7_kidsOf R hn a24, Option.bind_some]
    by_cases cb : b ≤ kc th pa a
    · rw [if_neg (nI_nlt cb (by omega))]
      by_cases ct : t ≤ 5
      · rw [if_pos (show ¬ fX9_isTag (nI t) = 0 by rw [tag_y (by omega)]; decide), X7_spotFor w R hkd g.2.2.2.2.2 hn a24 cb, Option.bind_some]
        have sl := sf_lt (kd := kd) w (p := a) (place := b)
        by_cases s0 : sfN th pa ky kd a b = 0
        · rw [s0]
          exact ⟨fun _ => rfl, fun o => absurd s0 o.2.2.2⟩
        · obtain ⟨D', d1, d2, d3⟩ := add_s g ta tha cb s0 c24 (nI t)
          rw [if_pos (nI_ne0 (by omega) (by omega)), d1]
          exact ⟨fun o => absurd ⟨ca, cb, ct, s0⟩ o, fun _ => ⟨D', rfl, d2, d3⟩⟩
      · rw [if_neg (show ¬ ¬ fX9_isTag (nI t) = 0 from fun q => q (tag_n (by omega) (by omega)))]
        exact ⟨fun _ => rfl, fun o => absurd o.2.2.1 ct⟩
    · rw [if_pos (nI_lt (by omega) (by omega))]
      exact ⟨fun _ => rfl, fun o => absurd o.2.1 cb⟩
  · have : ¬ th a = true := fun q => ca (hc.2.2 a q)
    rw [if_neg this, if_pos (show (0 : Int32) = 0 from rfl)]
    exact ⟨fun _ => rfl, fun o => absurd o.1 ca⟩
theorem anode_0 (h : D.2.2.2.1 = 0) : fX8_applyNode n K D = some (0, D) := by
  unfold fX8_applyNode
  by_cases cf : fX7_isFull D = 0
  · rw [if_neg (fun q => q cf)]
    have : fX7_isThere D (K.1 0) = 0 := by
      unfold fX7_isThere
      rcases num_cases (K.1 0) with ⟨n1, n2⟩ | ⟨k, hk, e, n1⟩
      · rw [n1, if_pos rfl]
      · rw [n1, e, if_neg (by decide), h, if_pos]
        intro q
        have := (tb_iff 0 (show k < 32 by omega)).mp q
        rw [b_0] at this
        cases this
    rw [if_pos this]
  · rw [if_pos cf]
theorem anode_24 (h : fX7_isFull D = 1) : fX8_applyNode n K D = some (0, D) := by
  unfold fX8_applyNode
  rw [h]
  exact if_pos (by decide)
theorem u3 (f : Nat → Int32) (a b t : Int32) : upd (upd (upd f 0 a) 1 b) 2 t 0 = a ∧ upd (upd (upd f 0 a) 1 b) 2 t 1 = b ∧ upd (upd (upd f 0 a) 1 b) 2 t 2 = t := by
  refine ⟨?_, ?_, pk_us⟩
  · rw [pk_un (by omega), pk_un (by omega), pk_us]
  · rw [pk_un (by omega), pk_us]
theorem item_g (H : TL L tx sz) (G : TM M tx sz) (hn : 100 ≤ n) (hi : i < sz) (hM : M.1 12 = nI i) (hD : DRs D (mS M)) (ht : tx i = 103) : ItR n L sz K D M i (nI (tx i)) first F := by
  have hs := H.2.1
  unfold ItR
  rw [ht]
  have hh : fX10_here M = some (nI 103) := by
    rw [here_s G (by omega) hM, if_pos hi, ht]
  have h1 : M.1 12 + 1 = nI (i + 1) := by rw [hM, nI_1]
  have G1 : TM (va_up M.1 12 (M.1 12 + 1), M.2.1, M.2.2) tx sz := G
  have rn := rn3 H (K := (K.1, nI (i + 1), K.2.2)) hn (show i + 1 < 300 by omega) rfl
  have fl : (∃ M', fX10_readsNode n (va_up M.1 12 (M.1 12 + 1), M.2.1, M.2.2) = some (0, M') ∧ FRM (va_up M.1 12 (M.1 12 + 1), M.2.1, M.2.2) M') → (∀ K1, fX8_readNumbers n (K.1, nI (i + 1), K.2.2) L 3 = some (1, K1) → fX8_applyNode n K1 D = some (0, D)) → ∃ K' D' M', bodyF n L K D i (nI 103) F = some (nI i, K', D') ∧ fX10_readsItem n M first = some (0, M') ∧ FRM M M' := by
    rintro ⟨M', z1, z2⟩ z3
    rcases rn with ⟨_, K', c2⟩ | ⟨a, k1, b, k2, t, k3, _, _, _, c2⟩
    · exact ⟨_, _, M', bF_0 (lt := nI 103) c2, it_g hh z1 (Or.inl rfl), FRM.at.trans z2⟩
    · exact ⟨_, _, M', bF_n c2 (ap_g (z3 _ c2) (Or.inl rfl)), it_g hh z1 (Or.inl rfl), FRM.at.trans z2⟩
  rcases hD.came with ⟨d1, d2, d3, d4, _⟩ | ⟨th, pa, ky, c, kd, g, a, hall, c1, c24, d1, d2⟩
  · left
    refine fl ⟨_, ?_, FRM.refl _⟩ (fun K1 _ => anode_0 d3)
    unfold fX10_readsNode
    exact if_pos d2
  by_cases cc : c = 24
  · left
    refine fl ⟨_, ?_, FRM.refl _⟩ (fun K1 _ => anode_24 ?_)
    · unfold fX10_readsNode
      have e : (va_up M.1 12 (M.1 12 + 1), M.2.1, M.2.2).1 1 = 24 := by
        show M.1 1 = 24
        rw [d2, cc]
        rfl
      rw [e]
      rfl
    · unfold fX7_isFull
      rw [d1, cc]
      rfl
  have c24 : c < 24 := by omega
  have g1 : GS (mS (va_up M.1 12 (M.1 12 + 1), M.2.1, M.2.2)) th pa ky c kd := g
  rcases rnode_s G1 hn g1 hall c24 (show i + 1 < 300 by omega) h1 with ⟨q1, q2⟩ | ⟨a', k1, b, k2, t, k3, M', p1, p2, p3, ok, q1, q2, q3, q4⟩
  · left
    refine fl q2 (fun K1 hK1 => ?_)
    rcases rn with ⟨_, K', c2⟩ | ⟨a', k1, b, k2, t, k3, p1, p2, p3, c2⟩
    · rw [hK1] at c2
      cases c2
    · rw [hK1] at c2
      cases c2
      have i1 := nuC_in p1
      have i2 := nuC_in p2
      have i3 := nuC_in p3
      exact (anode_s (K := (upd (upd (upd K.1 0 (nI a')) 1 (nI b)) 2 (nI t), nI k3, K.2.2)) hn g a hall c24 (u3 K.1 (nI a') (nI b) (nI t)).1 (u3 K.1 (nI a') (nI b) (nI t)).2.1 (u3 K.1 (nI a') (nI b) (nI t)).2.2 i1.2.2 i2.2.2 i3.2.2).1 (q1 _ _ _ _ _ _ p1 p2 p3)
  · right
    rcases rn with ⟨z, K', c2⟩ | ⟨a2, l1, b2, l2, t2, l3, r1, r2, r3, c2⟩
    · rw [z _ _ p1 _ _ p2] at p3
      cases p3
    · rw [r1] at p1
      cases p1
      rw [r2] at p2
      cases p2
      rw [r3] at p3
      cases p3
      have i1 := nuC_in r1
      have i2 := nuC_in r2
      have i3 := nuC_in r3
      obtain ⟨D', e1, e2, e3⟩ := (anode_s (K := (upd (upd (upd K.1 0 (nI a')) 1 (nI b)) 2 (nI t), nI k3, K.2.2)) hn g a hall c24 (u3 K.1 (nI a') (nI b) (nI t)).1 (u3 K.1 (nI a') (nI b) (nI t)).2.1 (u3 K.1 (nI a') (nI b) (nI t)).2.2 i1.2.2 i2.2.2 i3.2.2).2 ok
      have q4 : mS M' = ((mS M).1 ||| (1 <<< (nI c &&& 31)), nI (c + 1), (mS M).2.2.1, upd (mS M).2.2.2.1 c (nI t), upd (mS M).2.2.2.2.1 c (nI a'), upd (mS M).2.2.2.2.2 c (nI (sfN th pa ky kd a' b))) := q4
      rw [← q4] at e2 e3
      refine ⟨_, D', M', k3, bF_y c2 (ap_g e1 (Or.inr rfl)), it_g hh q1 (Or.inr rfl), FRM.at.trans q2, by omega, i3.2.1, rfl, q3, Or.inr ⟨_, _, _, _, _, e2, e3, fun v hv => ?_⟩, Or.inr ?_⟩
      · unfold thA
        by_cases e : v = c
        · rw [decide_eq_true e, Bool.or_true]
        · rw [hall v (by omega)]
          rfl
      · rw [e3.2.1, e2.2.2.2.1.1]
        exact nI_lt (a := 0) (by omega) (by omega)
theorem TM.frm {M' : tM} (G : TM M tx sz) (h : FRM M M') : TM M' tx sz := by
  refine ⟨(h.1 11 (by omega) (by omega) (by omega) (by omega) (by omega)).trans G.1, G.2.1, fun i hi => ?_⟩
  rw [h.2 10 (by omega)]
  exact G.2.2 i hi
theorem lread (H : TL L tx sz) (hn : 100 ≤ n) : ∀ m i j K D M, i ≤ sz → sz - i < m → j ≤ i → K.2.1 = nI i → M.1 12 = nI i → TM M tx sz → DRs D (mS M) → FL i K D → (∃ K' D' M', lX8_read_16 n L m (nI j) K D = some (-1, K', D') ∧ lX10_reads_20 n m M = some (-4, M') ∧ FRM M M' ∧ DRs D' (mS M')) ∨ (∃ p K' D' M', p < 200 ∧ lX8_read_16 n L m (nI j) K D = some (nI p, K', D') ∧ lX10_reads_20 n m M = some (nI p, M') ∧ FRM M M')
  | 0, _, _, _, _, _, _, h, _, _, _, _, _, _ => absurd h (Nat.not_lt_zero _)
  | m + 1, i, j, K, D, M, hi, hm, hj, hK, hM, G, hD, hF => by
    have hs := H.2.1
    rw [lX8_read_16, lX10_reads_20]
    unfold fX1_size
    rw [H.1, hK, hM, G.1]
    by_cases e : i = sz
    · have le : nI sz ≤ nI i := nI_le (by omega) (by omega)
      rw [if_pos le, if_pos le, ite_self]
      exact Or.inl ⟨_, _, _, rfl, rfl, FRM.refl _, hD⟩
    have his : i < sz := by omega
    have nle : ¬ nI sz ≤ nI i := nI_ge his (by omega)
    rw [if_neg (show ¬ (200 : Int32) ≤ nI j from nI_ge (b := 200) (by omega) (by decide)), if_neg nle, if_neg nle, letterAt_s H (by omega), Option.bind_some, if_pos his, nI_1 i, nI_1 j]
    have it : ItR n L sz K D M i (nI (tx i)) (if i = 0 then 1 else 0) (lX8_read_16 n L m (nI (j + 1))) := by
      by_cases t1 : tx i = 107
      · exact item_k H G hn his hM hD hF rfl t1
      by_cases t2 : tx i = 114
      · exact item_r H G hn his hM hD t2
      by_cases t3 : tx i = 103
      · exact item_g H G hn his hM hD t3
      · exact item_z H G hn his hM t1 t2 t3
    have ref : ∀ b M', fX10_readsItem n M (if i = 0 then 1 else 0) = some (b, M') → (if ¬ nI i = 0 then ((fX10_readsItem n M 0).bind fun y4 => (if ¬ y4.1 = 0 then lX10_reads_20 n m y4.2 else some (nI i, y4.2))) else ((fX10_readsItem n M 1).bind fun y9 => (if ¬ y9.1 = 0 then lX10_reads_20 n m y9.2 else some (nI i, y9.2)))) = if ¬ b = 0 then lX10_reads_20 n m M' else some (nI i, M') := by
      intro b M' hb
      by_cases c0 : i = 0
      · rw [if_pos c0] at hb
        rw [if_neg (show ¬ ¬ nI i = 0 from fun q => q (by rw [c0]; rfl)), hb]
        rfl
      · rw [if_neg c0] at hb
        rw [if_pos (nI_ne0 (by omega) (by omega)), hb]
        rfl
    rcases it with ⟨K', D', M', a1, a2, a3⟩ | ⟨K', D', M', k, a1, a2, a3, a4, a5, a6, a7, a8, a9⟩
    · right
      refine ⟨i, K', D', M', by omega, a1, ?_, a3⟩
      rw [ref 0 M' a2]
      rfl
    · have step := lread H hn m k (j + 1) K' D' M' a5 (by omega) (by omega) a6 a7 (G.frm a3) a8 ⟨fun q => absurd q (by omega), fun _ => a9⟩
      have r1 := (ref 1 M' a2).trans (if_pos (show ¬ (1 : Int32) = 0 by decide))
      rw [r1]
      rcases step with ⟨K2, D2, M2, b1, b2, b3, b4⟩ | ⟨p, K2, D2, M2, bp, b1, b2, b3⟩
      · exact Or.inl ⟨K2, D2, M2, a1.trans b1, b2, a3.trans b3, b4⟩
      · exact Or.inr ⟨p, K2, D2, M2, bp, a1.trans b1, b2, a3.trans b3⟩
theorem reads_s (hn : 3000 ≤ n) (H : TX L M) (K : tK) (D : tT) : (∃ K' D' M', fX8_read n K L D = some (-1, K', D') ∧ fX10_reads n M = some (-4, M') ∧ FRM M M' ∧ DRs D' (mS M')) ∨ (∃ p K' D' M', p < 200 ∧ fX8_read n K L D = some (nI p, K', D') ∧ fX10_reads n M = some (nI p, M') ∧ FRM M M') := by
  obtain ⟨tx, sz, h1, h2⟩ := H
  have f0 : FRM M (va_up (va_up (va_up (va_up M.1 0 0) 1 0) 2 0) 12 0, M.2.1, M.2.2) := ⟨fun j j0 j1 j2 j12 j13 => by
    show va_up (va_up (va_up (va_up M.1 0 0) 1 0) 2 0) 12 0 j = M.1 j
    rw [vu_n j12, vu_n j2, vu_n j1, vu_n j0], fun _ _ => rfl⟩
  have hs := h1.2.1
  have l := lread (n := n) h1 (by omega) n 0 0 (K.1, 0, 0) (D.1, D.2.1, D.2.2.1, 0, 0, 0) (va_up (va_up (va_up (va_up M.1 0 0) 1 0) 2 0) 12 0, M.2.1, M.2.2) (by omega) (by omega) (by omega) rfl rfl h2 (Or.inl ⟨rfl, rfl, rfl, rfl, 0, by omega, rfl, rfl⟩) ⟨fun _ => ⟨rfl, rfl⟩, fun q => absurd q (by omega)⟩
  rcases l with ⟨K2, D2, M2, b1, b2, b3, b4⟩ | ⟨p, K2, D2, M2, bp, b1, b2, b3⟩
  · exact Or.inl ⟨K2, D2, M2, b1, b2, f0.trans b3, b4⟩
  · exact Or.inr ⟨p, K2, D2, M2, bp, b1, b2, f0.trans b3⟩
/-- all is as it was but for what is written anew before it is read -/
def FX (M M' : tM) : Prop := eS (mS M') (mS M) ∧ (∀ j, 3 ≤ j → j ≠ 12 → j ≠ 13 → M'.1 j = M.1 j) ∧ (∀ j, 6 ≤ j → j ≠ 14 → M'.2.1 j = M.2.1 j)
theorem Cu.fx {M' : tM} (C : Cu T O M) (h : FX M M') : Cu T O M' := by
  obtain ⟨th, pa, ky, c, kd, g, a, o⟩ := C
  exact ⟨th, pa, ky, c, kd, g.congr h.1.symm, a.congr g.2.2.2.1.2.1 h.1.symm, o⟩
theorem HU.fx {M' : tM} (H : HU P M) (h : FX M M') : HU P M' := by
  obtain ⟨u, sn, hu, p1, m1, h1, h2, h3⟩ := H
  refine ⟨u, sn, hu, p1, (h.2.1 7 (by omega) (by omega) (by omega)).trans m1, fun k hk => ?_, h.1.trans h2, h3⟩
  rw [h.2.2 6 (by omega) (by omega)]
  exact h1 k hk
theorem KP.fx {A B : tT} {M' : tM} (H : KP X A B M) (h : FX M M') : KP X A B M' := H.fr rfl (h.2.1 9 (by omega) (by omega) (by omega)) (h.2.2 8 (by omega) (by omega))
theorem TX.fx {M' : tM} (H : TX L M) (h : FX M M') : TX L M' := by
  obtain ⟨tx, sz, h1, h2⟩ := H
  refine ⟨tx, sz, h1, (h.2.1 11 (by omega) (by omega) (by omega)).trans h2.1, h2.2.1, fun i hi => ?_⟩
  rw [h.2.2 10 (by omega) (by omega)]
  exact h2.2.2 i hi
theorem TX.m {M' : tM} (H : TX L M) (h1 : M'.1 11 = M.1 11) (h2 : M'.2.1 10 = M.2.1 10) : TX L M' := by
  obtain ⟨tx, sz, g1, g2⟩ := H
  refine ⟨tx, sz, g1, h1.trans g2.1, g2.2.1, fun i hi => ?_⟩
  rw [h2]
  exact g2.2.2 i hi
/-- laid aside, read, taken back -/
theorem aside (hn : 3000 ≤ n) {M1 M2 : tM} (e1 : fX10_lays_80 n M 0 = some M1) (h1 : M1.1 = M.1) (h2 : ∀ j, j ≠ 14 → M1.2.1 j = M.2.1 j) (h3 : eS (sB (M1.2.1 14) 0) (mS M)) (f : FRM M1 M2) : ∃ M3, fX10_takes_80 n M2 0 = some M3 ∧ FX M M3 := by
  obtain ⟨M3, q1, q2, q3, q4⟩ := X10_takes_80 (n := n) (b := 0) (by omega) (by omega) M2
  refine ⟨M3, q1, ?_, fun j j3 j12 j13 => ?_, fun j j6 j14 => ?_⟩
  · refine q4.trans ?_
    rw [f.2 14 (by omega)]
    exact h3
  · rw [q2 j j3, f.1 j (by omega) (by omega) (by omega) j12 j13, h1]
  · rw [q3 j (by omega) (by omega) (by omega), f.2 j j6, h2 j j14]
theorem O_fault (hn : 3000 ≤ n) (H : TX L M) (K : tK) (D : tT) : ∃ r K' D' M', fX9_fault n X L K D = some (r, K', D') ∧ fX10_fault n M = some (r, M') ∧ FX M M' := by
  obtain ⟨M1, q1, q2, q3, q4, q5⟩ := X10_lays_80 (n := n) (b := 0) (by omega) (by omega) M
  have q1 : fX10_lays_80 n M 0 = some M1 := q1
  have H1 : TX L M1 := H.m (by rw [q2]) (q3 10 (by omega))
  unfold fX9_fault fX10_fault
  rw [q1, Option.bind_some]
  rcases reads_s hn H1 K D with ⟨K2, D2, M2, b1, b2, b3, b4⟩ | ⟨p, K2, D2, M2, bp, b1, b2, b3⟩
  · obtain ⟨M3, c1, c2⟩ := aside hn q1 q2 q3 q4 b3
    rw [b1, b2, Option.bind_some, Option.bind_some, c1, Option.bind_some, if_neg (show ¬ (0 : Int32) ≤ -1 by decide)]
    exact ⟨_, _, _, _, rfl, rfl, c2⟩
  · obtain ⟨M3, c1, c2⟩ := aside hn q1 q2 q3 q4 b3
    rw [b1, b2, Option.bind_some, Option.bind_some, c1, Option.bind_some, if_pos (show (0 : Int32) ≤ nI p from nI_pos' (by omega))]
    exact ⟨_, _, _, _, rfl, rfl, c2⟩
theorem O_lay (hn : 3000 ≤ n) (H : TX L M) (K : tK) (D : tT) (T : tT) (O : tO) (P : tP) (S : tS) (A B : tT) : ∃ r X' K' T' D' O' P' S' M', fX9_lay n X L K T D O P S = some (r, X', K', T', D', O', P', S') ∧ fX10_lay n M = some (r, M') ∧ ((X' = X ∧ T' = T ∧ O' = O ∧ P' = P ∧ S' = S ∧ FX M M') ∨ (Cu T' O' M' ∧ HU P' M' ∧ KP X' A B M' ∧ TX L M' ∧ X'.2 = 0 ∧ S'.2.2.2.1 = 0 ∧ M'.1 15 = 0)) := by
  obtain ⟨M1, q1, q2, q3, q4, q5⟩ := X10_lays_80 (n := n) (b := 0) (by omega) (by omega) M
  have q1 : fX10_lays_80 n M 0 = some M1 := q1
  have H1 : TX L M1 := H.m (by rw [q2]) (q3 10 (by omega))
  unfold fX9_lay fX10_lay
  rw [q1, Option.bind_some]
  rcases reads_s hn H1 K D with ⟨K2, D2, M2, b1, b2, b3, b4⟩ | ⟨p, K2, D2, M2, bp, b1, b2, b3⟩
  · obtain ⟨M3, c1, c2⟩ := aside hn q1 q2 q3 q4 b3
    rw [b1, b2, Option.bind_some, Option.bind_some, c1, if_neg (show ¬ (0 : Int32) ≤ -1 by decide), if_neg (show ¬ ¬ (-4 : Int32) = -4 from fun q => q rfl)]
    rcases b4.came with ⟨d1, d2, d3, d4, _⟩ | ⟨th, pa, ky, c, kd, g, a, hall, e1, c24, d1, d2⟩
    · have : fX7_isThere D2 0 = 0 := by
        unfold fX7_isThere
        rw [d3]
        rfl
      dsimp only
      rw [this, d2, if_neg (show ¬ ¬ (0 : Int32) = 0 from fun q => q rfl), if_neg (show ¬ ¬ (0 : Int32) = 0 from fun q => q rfl)]
      exact ⟨_, _, _, _, _, _, _, _, _, rfl, rfl, Or.inl ⟨rfl, rfl, rfl, rfl, rfl, c2⟩⟩
    · have t0 : fX7_isThere D2 0 = 1 := by
        have := there_s (TA_RT g a) (a := 0) (by omega)
        rw [if_pos g.2.2.1] at this
        exact this
      obtain ⟨T', t1, t2⟩ := a.copy (A := T) c24
      obtain ⟨O', o1, o2⟩ := settle_s (n := n) (by omega) g t2 (0, X.2) O
      have I := TA_TI g t2 o2
      dsimp only
      unfold fX5_clear fX4_clear
      rw [t0, d2, if_pos (show ¬ (1 : Int32) = 0 by decide), if_pos (nI_ne0 (by omega) (by omega)), t1, Option.bind_some, Option.bind_some, Option.bind_some, o1, Option.bind_some, many_s I (by omega), Option.bind_some]
      refine ⟨_, _, _, _, _, _, _, _, _, rfl, rfl, Or.inr ⟨⟨th, pa, ky, c, kd, g, t2, o2⟩, ⟨0, fun _ => mS M2, by omega, rfl, rfl, fun k hk => absurd hk (by omega), eS.refl _, fun k hk => absurd hk (by omega)⟩, ⟨0, by omega, rfl, rfl, fun h => absurd h (by omega), fun h => absurd h (by omega)⟩, ?_, rfl, rfl, rfl⟩⟩
      exact H1.m (b3.1 11 (by omega) (by omega) (by omega) (by omega) (by omega)) (b3.2 10 (by omega))
  · obtain ⟨M3, c1, c2⟩ := aside hn q1 q2 q3 q4 b3
    rw [b1, b2, Option.bind_some, Option.bind_some, c1, Option.bind_some, if_pos (show (0 : Int32) ≤ nI p from nI_pos' (by omega)), if_pos (show ¬ nI p = (-4 : Int32) from m4_ne (by omega))]
    exact ⟨_, _, _, _, _, _, _, _, _, rfl, rfl, Or.inl ⟨rfl, rfl, rfl, rfl, rfl, c2⟩⟩
end READS
