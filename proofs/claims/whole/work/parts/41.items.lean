/-! ITEMS of a TEXT, read on both sides -/
def FRM (M M' : tM) : Prop := (∀ j, j ≠ 0 → j ≠ 1 → j ≠ 2 → j ≠ 12 → j ≠ 13 → M'.1 j = M.1 j) ∧ (∀ j, 6 ≤ j → M'.2.1 j = M.2.1 j)
def DRs (D : tT) (s : tN) : Prop := (D.2.2.2.1 = 0 ∧ s.1 = 0 ∧ D.2.2.2.2.1 = 0 ∧ s.2.1 = 0 ∧ ∃ kd, kd < 4 ∧ D.2.2.2.2.2 = nI kd ∧ s.2.2.1 = nI kd) ∨ ∃ th pa ky c kd, GS s th pa ky c kd ∧ TA D s c ∧ ∀ v, v < c → th v = true
def FL (i : Nat) (K : tK) (D : tT) : Prop := (i = 0 → K.2.2 = 0 ∧ D.2.2.2.2.1 = 0) ∧ (0 < i → K.2.2 = 1 ∨ 0 < D.2.2.2.2.1)
theorem FRM.refl (M : tM) : FRM M M := ⟨fun _ _ _ _ _ _ => rfl, fun _ _ => rfl⟩
theorem FRM.trans {M M1 M2 : tM} (h : FRM M M1) (g : FRM M1 M2) : FRM M M2 := ⟨fun j a b c d e => (g.1 j a b c d e).trans (h.1 j a b c d e), fun j a => (g.2 j a).trans (h.2 j a)⟩
theorem FRM.at {M : tM} {x : Int32} : FRM M (va_up M.1 12 x, M.2.1, M.2.2) := ⟨fun j _ _ _ d _ => vu_n d, fun _ _ => rfl⟩
theorem FRM.at2 {M : tM} {x y : Int32} : FRM M (va_up (va_up M.1 12 x) 13 y, M.2.1, M.2.2) := ⟨fun j _ _ _ d e => (vu_n e).trans (vu_n d), fun _ _ => rfl⟩
theorem FN.frm {M M' : tM} (h : FN M M') : FRM M M' := ⟨fun j _ _ _ d e => h.1 j d e, fun j _ => by rw [h.2]⟩
section ITEMS
variable {L : tL} {M : tM} {tx : Nat → Nat} {sz n : Nat} {K : tK} {D : tT}
theorem rn_step (H : TL L tx sz) {m d x i : Nat} (hx : x ≤ d) (hd : d < 3) (hi : i < 900) (hK : K.2.1 = nI i) : match nuC tx sz i (if x = d then 59 else 44) with
  | none => ∃ K', lX8_readNumbers_2 n L (m + 1) (nI (d + 1)) (nI x) K = some (0, K')
  | some (v, k) => lX8_readNumbers_2 n L (m + 1) (nI (d + 1)) (nI x) K = lX8_readNumbers_2 n L m (nI (d + 1)) (nI (x + 1)) (upd K.1 x (nI v), nI k, K.2.2) := by
  unfold nuC
  have hs := H.2.1
  rw [lX8_readNumbers_2, if_neg (nI_ge (show x < d + 1 by omega) (by omega)), if_neg (show ¬ (3 : Int32) ≤ nI x from nI_ge (b := 3) (by omega) (by decide)), readNumber_s H hi hK, Option.bind_some, if_neg (nI_in (show x < 3 by omega) (by decide)), nI_clamp (show x < 2 ^ 31 by omega), nI_pred]
  cases hA : nuA tx sz i with
  | none =>
    dsimp only
    rw [pk_us, if_pos (show (-1 : Int32) < 0 by decide), if_pos (show (-1 : Int32) < 0 by decide)]
    split
    · exact ⟨_, rfl⟩
    · exact ⟨_, rfl⟩
  | some p =>
    obtain ⟨v, k⟩ := p
    have hv := nuA_in hA
    dsimp only
    rw [pk_us, if_neg (nI_pos (show v < 2 ^ 31 by omega)), if_neg (nI_pos (show v < 2 ^ 31 by omega)), letterAt_s H (by omega), Option.bind_some, Option.bind_some, nI_1, nI_1]
    by_cases cx : x = d
    · subst cx
      rw [if_neg (show ¬ ¬ nI x = nI x from fun q => q rfl), if_pos (show x = x from rfl)]
      by_cases c : k < sz
      · have := (H.2.2 k c).2
        rw [if_pos c]
        by_cases c2 : tx k = 59
        · rw [if_pos (show nI (tx k) = 59 by rw [c2]; rfl), if_pos (show k < sz ∧ tx k = 59 from ⟨c, c2⟩)]
        · rw [if_neg (show ¬ nI (tx k) = 59 from fun q => c2 ((nI_eq (a := tx k) (b := 59) (by omega) (by decide)).mp q)), if_neg (show ¬ (k < sz ∧ tx k = 59) from fun q => c2 q.2)]
          exact ⟨_, rfl⟩
      · rw [if_neg c, if_neg (show ¬ (-1 : Int32) = 59 by decide), if_neg (show ¬ (k < sz ∧ tx k = 59) from fun q => c q.1)]
        exact ⟨_, rfl⟩
    · rw [if_pos (show ¬ nI x = nI d from fun q => cx ((nI_eq (by omega) (by omega)).mp q)), if_neg cx]
      by_cases c : k < sz
      · have := (H.2.2 k c).2
        rw [if_pos c]
        by_cases c2 : tx k = 44
        · rw [if_pos (show nI (tx k) = 44 by rw [c2]; rfl), if_pos (show k < sz ∧ tx k = 44 from ⟨c, c2⟩)]
        · rw [if_neg (show ¬ nI (tx k) = 44 from fun q => c2 ((nI_eq (a := tx k) (b := 44) (by omega) (by decide)).mp q)), if_neg (show ¬ (k < sz ∧ tx k = 44) from fun q => c2 q.2)]
          exact ⟨_, rfl⟩
      · rw [if_neg c, if_neg (show ¬ (-1 : Int32) = 44 by decide), if_neg (show ¬ (k < sz ∧ tx k = 44) from fun q => c q.1)]
        exact ⟨_, rfl⟩
theorem rn_end {m d : Nat} (hd : d < 3) : lX8_readNumbers_2 n L (m + 1) (nI (d + 1)) (nI (d + 1)) K = some (1, K) := by
  rw [lX8_readNumbers_2, if_pos (nI_le (Nat.le_refl _) (by omega)), if_neg (nI_nle (by omega) (by omega))]
theorem rn0 (hn : 100 ≤ n) : fX8_readNumbers n K L 0 = some (0, K) := by
  obtain ⟨m, rfl⟩ : ∃ m, n = m + 1 := ⟨n - 1, by omega⟩
  unfold fX8_readNumbers
  rw [lX8_readNumbers_2, if_pos (show (0 : Int32) ≤ 0 by decide), if_pos (show (0 : Int32) ≤ 0 by decide)]
theorem rn1 (H : TL L tx sz) (hn : 100 ≤ n) {i : Nat} (hi : i < 900) (hK : K.2.1 = nI i) : (nuC tx sz i 59 = none ∧ ∃ K', fX8_readNumbers n K L 1 = some (0, K')) ∨ ∃ v k, nuC tx sz i 59 = some (v, k) ∧ fX8_readNumbers n K L 1 = some (1, (upd K.1 0 (nI v), nI k, K.2.2)) := by
  have go : ∀ m, 100 ≤ m → (nuC tx sz i 59 = none ∧ ∃ K', lX8_readNumbers_2 n L m 1 0 K = some (0, K')) ∨ ∃ v k, nuC tx sz i 59 = some (v, k) ∧ lX8_readNumbers_2 n L m 1 0 K = some (1, (upd K.1 0 (nI v), nI k, K.2.2)) := by
    intro m hm
    obtain ⟨m, rfl⟩ : ∃ m', m = m' + 2 := ⟨m - 2, by omega⟩
    have s := rn_step (n := n) H (m := m + 1) (d := 0) (x := 0) (by omega) (by omega) hi hK
    rw [if_pos rfl] at s
    cases h : nuC tx sz i 59 with
    | none =>
      rw [h] at s
      exact Or.inl ⟨rfl, s⟩
    | some p =>
      obtain ⟨v, k⟩ := p
      rw [h] at s
      exact Or.inr ⟨v, k, rfl, s.trans (rn_end (by omega))⟩
  exact go n hn
theorem rn3 (H : TL L tx sz) (hn : 100 ≤ n) {i : Nat} (hi : i < 300) (hK : K.2.1 = nI i) : ((∀ a k1, nuC tx sz i 44 = some (a, k1) → ∀ b k2, nuC tx sz k1 44 = some (b, k2) → nuC tx sz k2 59 = none) ∧ ∃ K', fX8_readNumbers n K L 3 = some (0, K')) ∨ ∃ a k1 b k2 t k3, nuC tx sz i 44 = some (a, k1) ∧ nuC tx sz k1 44 = some (b, k2) ∧ nuC tx sz k2 59 = some (t, k3) ∧ fX8_readNumbers n K L 3 = some (1, (upd (upd (upd K.1 0 (nI a)) 1 (nI b)) 2 (nI t), nI k3, K.2.2)) := by
  have go : ∀ m, 100 ≤ m → ((∀ a k1, nuC tx sz i 44 = some (a, k1) → ∀ b k2, nuC tx sz k1 44 = some (b, k2) → nuC tx sz k2 59 = none) ∧ ∃ K', lX8_readNumbers_2 n L m 3 0 K = some (0, K')) ∨ ∃ a k1 b k2 t k3, nuC tx sz i 44 = some (a, k1) ∧ nuC tx sz k1 44 = some (b, k2) ∧ nuC tx sz k2 59 = some (t, k3) ∧ lX8_readNumbers_2 n L m 3 0 K = some (1, (upd (upd (upd K.1 0 (nI a)) 1 (nI b)) 2 (nI t), nI k3, K.2.2)) := by
    intro m hm
    obtain ⟨m, rfl⟩ : ∃ m', m = m' + 4 := ⟨m - 4, by omega⟩
    have hs := H.2.1
    have s := rn_step (n := n) H (m := m + 3) (d := 2) (x := 0) (by omega) (by omega) (show i < 900 by omega) hK
    rw [if_neg (by decide)] at s
    cases h : nuC tx sz i 44 with
    | none =>
      rw [h] at s
      exact Or.inl ⟨fun a k1 q => (by cases q), s⟩
    | some p =>
      obtain ⟨a, k1⟩ := p
      have i1 := nuC_in h
      rw [h] at s
      have s2 := rn_step (n := n) H (K := (upd K.1 0 (nI a), nI k1, K.2.2)) (m := m + 2) (d := 2) (x := 1) (by omega) (by omega) (show k1 < 900 by omega) rfl
      rw [if_neg (by decide)] at s2
      cases h2 : nuC tx sz k1 44 with
      | none =>
        rw [h2] at s2
        obtain ⟨K', s2⟩ := s2
        exact Or.inl ⟨fun a' k' q b k2 q2 => (by cases q; rw [h2] at q2; cases q2), K', s.trans s2⟩
      | some p =>
        obtain ⟨b, k2⟩ := p
        have i2 := nuC_in h2
        rw [h2] at s2
        have s3 := rn_step (n := n) H (K := (upd (upd K.1 0 (nI a)) 1 (nI b), nI k2, K.2.2)) (m := m + 1) (d := 2) (x := 2) (by omega) (by omega) (show k2 < 900 by omega) rfl
        rw [if_pos rfl] at s3
        cases h3 : nuC tx sz k2 59 with
        | none =>
          rw [h3] at s3
          obtain ⟨K', s3⟩ := s3
          exact Or.inl ⟨fun a' k' q b' k2' q2 => (by cases q; rw [h2] at q2; cases q2; exact h3), K', (s.trans s2).trans s3⟩
        | some p =>
          obtain ⟨t, k3⟩ := p
          rw [h3] at s3
          exact Or.inr ⟨a, k1, b, k2, t, k3, rfl, h2, h3, ((s.trans s2).trans s3).trans (rn_end (by omega))⟩
  exact go n hn
/-- what the class does with an ITEM: F goes on -/
def bodyF (n : Nat) (L : tL) (K : tK) (D : tT) (i : Nat) (lt : Int32) (F : tK → tT → Option (Int32 × tK × tT)) : Option (Int32 × tK × tT) := ((fX8_readNumbers n (K.1, nI (i + 1), K.2.2) L (fX8_numbersBehind lt)).bind fun y11 => (if y11.1 = 0 then some (nI i, y11.2, D) else ((fX8_apply n y11.2 lt D).bind fun y18 => (if ¬ y18.1 = 0 then F y18.2.1 y18.2.2 else some (nI i, y18.2.1, y18.2.2)))))
theorem bF_0 {K' : tK} {F : tK → tT → Option (Int32 × tK × tT)} {i : Nat} {lt : Int32} (h : fX8_readNumbers n (K.1, nI (i + 1), K.2.2) L (fX8_numbersBehind lt) = some (0, K')) : bodyF n L K D i lt F = some (nI i, K', D) := by
  unfold bodyF
  rw [h, Option.bind_some]
  exact if_pos rfl
theorem bF_n {K1 K2 : tK} {D2 : tT} {F : tK → tT → Option (Int32 × tK × tT)} {i : Nat} {lt : Int32} (h : fX8_readNumbers n (K.1, nI (i + 1), K.2.2) L (fX8_numbersBehind lt) = some (1, K1)) (g : fX8_apply n K1 lt D = some (0, K2, D2)) : bodyF n L K D i lt F = some (nI i, K2, D2) := by
  unfold bodyF
  rw [h, Option.bind_some, if_neg (show ¬ (1 : Int32) = 0 by decide), g, Option.bind_some]
  exact if_neg (fun q => q rfl)
theorem bF_y {K1 K2 : tK} {D2 : tT} {F : tK → tT → Option (Int32 × tK × tT)} {i : Nat} {lt : Int32} (h : fX8_readNumbers n (K.1, nI (i + 1), K.2.2) L (fX8_numbersBehind lt) = some (1, K1)) (g : fX8_apply n K1 lt D = some (1, K2, D2)) : bodyF n L K D i lt F = F K2 D2 := by
  unfold bodyF
  rw [h, Option.bind_some, if_neg (show ¬ (1 : Int32) = 0 by decide), g, Option.bind_some]
  exact if_pos (show ¬ (1 : Int32) = 0 by decide)
theorem nb01 {α : Type} {b : Int32} (h : b = 0 ∨ b = 1) {x y : α} : (if b &&& 1 = b then x else y) = x := by
  rcases h with rfl | rfl
  · exact if_pos (by decide)
  · exact if_pos (by decide)
theorem ap_k {K' : tK} {D' : tT} {b : Int32} (h : fX8_applyKind K D = some (b, K', D')) (hb : b = 0 ∨ b = 1) : fX8_apply n K (nI 107) D = some (b, K', D') := by
  unfold fX8_apply
  rw [if_neg (show ¬ ¬ nI 107 = 107 from fun q => q rfl), h, Option.bind_some]
  exact nb01 hb
theorem ap_r {D' : tT} {b : Int32} (h : fX8_applyRoot K D = some (b, D')) (hb : b = 0 ∨ b = 1) : fX8_apply n K (nI 114) D = some (b, K, D') := by
  unfold fX8_apply
  rw [if_pos (show ¬ nI 114 = 107 by decide), if_neg (show ¬ ¬ nI 114 = 114 from fun q => q rfl), h, Option.bind_some]
  exact nb01 hb
theorem ap_g {D' : tT} {b : Int32} (h : fX8_applyNode n K D = some (b, D')) (hb : b = 0 ∨ b = 1) : fX8_apply n K (nI 103) D = some (b, K, D') := by
  unfold fX8_apply
  rw [if_pos (show ¬ nI 103 = 107 by decide), if_pos (show ¬ nI 103 = 114 by decide), h, Option.bind_some]
  exact nb01 hb
theorem it_k0 (h : fX10_here M = some (nI 107)) : fX10_readsItem n M 0 = some (0, (va_up M.1 12 ((M.1 12) + 1), M.2.1, M.2.2)) := by
  unfold fX10_readsItem
  rw [h, Option.bind_some, if_neg (show ¬ ¬ nI 107 = 107 from fun q => q rfl), if_pos rfl]
theorem it_k1 {b : Int32} {M' : tM} (h : fX10_here M = some (nI 107)) (g : fX10_readsKind (va_up M.1 12 ((M.1 12) + 1), M.2.1, M.2.2) = some (b, M')) (hb : b = 0 ∨ b = 1) : fX10_readsItem n M 1 = some (b, M') := by
  unfold fX10_readsItem
  rw [h, Option.bind_some, if_neg (show ¬ ¬ nI 107 = 107 from fun q => q rfl), if_neg (show ¬ (1 : Int32) = 0 by decide), g, Option.bind_some]
  rcases hb with rfl | rfl
  · exact if_pos rfl
  · exact if_neg (show ¬ (1 : Int32) = 0 by decide)
theorem it_r {b first : Int32} {M' : tM} (h : fX10_here M = some (nI 114)) (g : fX10_readsRoot (va_up M.1 12 ((M.1 12) + 1), M.2.1, M.2.2) = some (b, M')) (hb : b = 0 ∨ b = 1) : fX10_readsItem n M first = some (b, M') := by
  unfold fX10_readsItem
  rw [h, Option.bind_some, if_pos (show ¬ nI 114 = 107 by decide), if_neg (show ¬ ¬ nI 114 = 114 from fun q => q rfl), g, Option.bind_some]
  exact nb01 hb
theorem it_g {b first : Int32} {M' : tM} (h : fX10_here M = some (nI 103)) (g : fX10_readsNode n (va_up M.1 12 ((M.1 12) + 1), M.2.1, M.2.2) = some (b, M')) (hb : b = 0 ∨ b = 1) : fX10_readsItem n M first = some (b, M') := by
  unfold fX10_readsItem
  rw [h, Option.bind_some, if_pos (show ¬ nI 103 = 107 by decide), if_pos (show ¬ nI 103 = 114 by decide), if_neg (show ¬ ¬ nI 103 = 103 from fun q => q rfl), g, Option.bind_some]
  rcases hb with rfl | rfl
  · exact if_pos rfl
  · exact if_neg (show ¬ (1 : Int32) = 0 by decide)
theorem rk_0 {M' : tM} (h : fX10_number M 0 3 59 = some (0, M')) : fX10_readsKind M = some (0, M') := by
  unfold fX10_readsKind
  rw [h, Option.bind_some]
  exact if_neg (fun q => q rfl)
theorem rk_1 {M' : tM} (h : fX10_number M 0 3 59 = some (1, M')) : fX10_readsKind M = some (1, (va_up M'.1 2 (M'.1 13), M'.2.1, M'.2.2)) := by
  unfold fX10_readsKind
  rw [h, Option.bind_some]
  exact if_pos (show ¬ (1 : Int32) = 0 by decide)
def ItR (n : Nat) (L : tL) (sz : Nat) (K : tK) (D : tT) (M : tM) (i : Nat) (lt first : Int32) (F : tK → tT → Option (Int32 × tK × tT)) : Prop := (∃ K' D' M', bodyF n L K D i lt F = some (nI i, K', D') ∧ fX10_readsItem n M first = some (0, M') ∧ FRM M M') ∨ (∃ K' D' M' k, bodyF n L K D i lt F = F K' D' ∧ fX10_readsItem n M first = some (1, M') ∧ FRM M M' ∧ i < k ∧ k ≤ sz ∧ K'.2.1 = nI k ∧ M'.1 12 = nI k ∧ DRs D' (mS M') ∧ (K'.2.2 = 1 ∨ 0 < D'.2.2.2.2.1))
variable {F : tK → tT → Option (Int32 × tK × tT)} {i : Nat} {first : Int32}
theorem item_k (H : TL L tx sz) (G : TM M tx sz) (hn : 100 ≤ n) (hi : i < sz) (hM : M.1 12 = nI i) (hD : DRs D (mS M)) (hF : FL i K D) (hf : first = if i = 0 then 1 else 0) (ht : tx i = 107) : ItR n L sz K D M i (nI (tx i)) first F := by
  have hs := H.2.1
  unfold ItR
  rw [ht]
  have hh : fX10_here M = some (nI 107) := by
    rw [here_s G (by omega) hM, if_pos hi, ht]
  have h1 : M.1 12 + 1 = nI (i + 1) := by rw [hM, nI_1]
  have G1 : TM (va_up M.1 12 (M.1 12 + 1), M.2.1, M.2.2) tx sz := G
  have q := number_s G1 (i := i + 1) (lo := 0) (hi := 3) (e := 59) (by omega) h1 (by omega) (by omega) (by omega)
  rcases rn1 H (K := (K.1, nI (i + 1), K.2.2)) hn (show i + 1 < 900 by omega) rfl with ⟨c1, K', c2⟩ | ⟨v, k, c1, c2⟩
  · left
    have b1 := bF_0 (F := F) (D := D) (i := i) (lt := nI 107) c2
    rw [c1] at q
    obtain ⟨M', q1, q2⟩ := q
    by_cases c0 : i = 0
    · rw [if_pos c0] at hf
      subst hf
      exact ⟨_, _, _, b1, it_k1 hh (rk_0 q1) (Or.inl rfl), FRM.at.trans q2.frm⟩
    · rw [if_neg c0] at hf
      subst hf
      exact ⟨_, _, _, b1, it_k0 hh, FRM.at⟩
  · have hk := nuC_in c1
    have hfail : fX8_applyKind (upd K.1 0 (nI v), nI k, K.2.2) D = some (0, (upd K.1 0 (nI v), nI k, K.2.2), D) → (∃ M', fX10_readsItem n M first = some (0, M') ∧ FRM M M') → ItR n L sz K D M i (nI 107) first F := by
      rintro z1 ⟨M', z2, z3⟩
      exact Or.inl ⟨_, _, M', bF_n c2 (ap_k z1 (Or.inl rfl)), z2, z3⟩
    rw [c1] at q
    dsimp only at q
    by_cases c0 : i = 0
    · have f0 := hF.1 c0
      rw [if_pos c0] at hf
      subst hf
      by_cases cv : v < 4
      · rw [if_pos (show 0 ≤ v ∧ v ≤ 3 by omega)] at q
        have z : fX8_applyKind (upd K.1 0 (nI v), nI k, K.2.2) D = some (1, (upd K.1 0 (nI v), nI k, 1), (D.1, D.2.1, D.2.2.1, D.2.2.2.1, D.2.2.2.2.1, nI v)) := by
          unfold fX8_applyKind fX7_came
          rw [f0.2]
          dsimp only
          rw [f0.1, if_neg (show ¬ ¬ (0 : Int32) = 0 from fun q => q rfl), if_neg (show ¬ (0 : Int32) < 0 by decide), if_pos (show upd K.1 0 (nI v) 0 < 4 by rw [pk_us]; exact nI_lt (b := 4) cv (by decide))]
          unfold fX7_setKind
          rw [Option.bind_some, pk_us, f0.2]
        right
        refine ⟨_, _, _, k, bF_y c2 (ap_k z (Or.inr rfl)), it_k1 hh (rk_1 q) (Or.inr rfl), ?_, by omega, hk.2.1, rfl, rfl, ?_, Or.inl rfl⟩
        · exact ⟨fun j j0 j1 j2 j12 j13 => by
            show va_up (va_up (va_up (va_up M.1 12 _) 12 (nI k)) 13 (nI v)) 2 (nI v) j = M.1 j
            rw [vu_n j2, vu_n j13, vu_n j12, vu_n j12], fun _ _ => rfl⟩
        · left
          rcases hD with ⟨d1, d2, d3, d4, kd, d5, d6, d7⟩ | ⟨th, pa, ky, c, kd, g, a, _⟩
          · exact ⟨d1, d2, d3, d4, v, cv, rfl, rfl⟩
          · have e0 := a.2.1
            have e1 := g.2.2.2.1
            have e2 : c = 0 := (nI_eq (a := c) (b := 0) (by omega) (by decide)).mp (e1.1.symm.trans (e0.symm.trans f0.2))
            have := e1.2.2 0 g.2.2.1
            omega
      · rw [if_neg (show ¬ (0 ≤ v ∧ v ≤ 3) by omega)] at q
        obtain ⟨M', q1, q2⟩ := q
        refine hfail ?_ ⟨M', it_k1 hh (rk_0 q1) (Or.inl rfl), FRM.at.trans q2.frm⟩
        unfold fX8_applyKind fX7_came
        rw [f0.2]
        dsimp only
        rw [f0.1, if_neg (show ¬ ¬ (0 : Int32) = 0 from fun q => q rfl), if_neg (show ¬ (0 : Int32) < 0 by decide), if_neg (show ¬ upd K.1 0 (nI v) 0 < 4 by rw [pk_us]; exact nI_nlt (b := 4) (by omega) (by omega))]
    · have f0 := hF.2 (by omega)
      rw [if_neg c0] at hf
      subst hf
      refine hfail ?_ ⟨_, it_k0 hh, FRM.at⟩
      unfold fX8_applyKind fX7_came
      dsimp only
      by_cases ck : K.2.2 = 0
      · have f1 : 0 < D.2.2.2.2.1 := by
          rcases f0 with f0 | f0
          · rw [f0] at ck
            exact absurd ck (by decide)
          · exact f0
        rw [if_neg (fun q => q ck), if_pos f1]
      · rw [if_pos ck]
theorem item_z (H : TL L tx sz) (G : TM M tx sz) (hn : 100 ≤ n) (hi : i < sz) (hM : M.1 12 = nI i) (h1 : tx i ≠ 107) (h2 : tx i ≠ 114) (h3 : tx i ≠ 103) : ItR n L sz K D M i (nI (tx i)) first F := by
  have hs := H.2.1
  have := (H.2.2 i hi).2
  have e1 : ¬ nI (tx i) = 107 := fun q => h1 ((nI_eq (a := tx i) (b := 107) (by omega) (by decide)).mp q)
  have e2 : ¬ nI (tx i) = 114 := fun q => h2 ((nI_eq (a := tx i) (b := 114) (by omega) (by decide)).mp q)
  have e3 : ¬ nI (tx i) = 103 := fun q => h3 ((nI_eq (a := tx i) (b := 103) (by omega) (by decide)).mp q)
  left
  unfold bodyF fX10_readsItem fX8_numbersBehind
  rw [here_s G (by omega) hM, Option.bind_some, if_pos hi, if_neg e1, if_pos e2, if_pos e3, if_pos e1, if_pos e2, if_pos e3, rn0 hn]
  exact ⟨_, _, _, rfl, rfl, FRM.at⟩
end ITEMS
