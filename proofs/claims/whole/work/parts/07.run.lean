/-! a run of the pure machine is a run of the machine: every method of the table has its contract -/
def p_B (D : va_G) (kc : ClassId × ClassId × ClassId) (ad : Nat → Nat) (N : Nat) (Cs : List pCi) (h : pH) (U : State) : Prop := va_P D (Cs.map Prod.fst) (p_wm kc ad N h) U.heap ∧ va_K D (Cs.map Prod.fst) (p_tys kc) U ∧ p_nest U
def p_Q (D : va_G) (kc : ClassId × ClassId × ClassId) (ad : Nat → Nat) (N : Nat) (Cs : List pCi) (r : Option Value) (h : pH) : Array Value → State → Outcome → State → Prop := fun _ st oc t => oc = .returned (r.map (p_v ad)) ∧ p_B D kc ad N Cs h t ∧ va_F (p_A ad N) st t
theorem p_ret_inv {rt : Option FieldType} {i : Instr} {s : pS} {r : Option Value} {h' : pH} (h : p_ret rt i s = some (r, h')) : h' = s.1 ∧
    ((i = .ireturn ∧ ∃ t v, rt = some t ∧ s.2.2.2 = [.int v] ∧ narrow t (.int v) = .int v ∧ r = some (.int v)) ∨ (i = .lreturn ∧ ∃ v, rt = some .long ∧ s.2.2.2 = [.long v] ∧ r = some (.long v)) ∨
      (i = .areturn ∧ ∃ n v, rt = some (.object n) ∧ s.2.2.2 = [.ref v] ∧ r = some (.ref v)) ∨ (i = .return_ ∧ rt = none ∧ s.2.2.2 = [] ∧ r = none)) := by
  unfold p_ret at h
  split at h
  · rename_i t v hs
    split at h
    · rename_i hn
      cases h
      exact ⟨rfl, Or.inl ⟨rfl, t, v, rfl, hs, hn, rfl⟩⟩
    · cases h
  · rename_i v hs
    cases h
    exact ⟨rfl, Or.inr (Or.inl ⟨rfl, v, rfl, hs, rfl⟩)⟩
  · rename_i n v hs
    cases h
    exact ⟨rfl, Or.inr (Or.inr (Or.inl ⟨rfl, n, v, rfl, hs, rfl⟩))⟩
  · rename_i hs
    cases h
    exact ⟨rfl, Or.inr (Or.inr (Or.inr ⟨rfl, rfl, hs, rfl⟩))⟩
  · cases h
section PRW
variable {p : Program} {l : Launch} {e : Env} {R : Room} {s : State} {m : MethodId} {args : Array Value} {below : List Frame} {meth : Method} {c : Code} {Q : State → Prop} {H : Heap} {locs : List Loc}
variable {D : va_G} {kc : ClassId × ClassId × ClassId} {ad : Nat → Nat} {N : Nat} {Cs : List pCi} {Ms : List pM} {M : pM}
theorem p_blind {vs : List Value} {h : pH} : FrameBlind (va_Pc (vs.map (p_v ad)) (p_B D kc ad N Cs h)) := by
  intro a U g mk ⟨q1, q2, q3, q4⟩
  exact ⟨q1, q2, va_K.moved (u := U) (U := U.calling g mk a) (Vm.Alike.refl U.vm) q3, p_nest.same (u := U) (U := U.calling g mk a) rfl q4⟩
theorem p_cont {pc : Nat} {ls : Array Slot} {st0 rest : List Value} {a : Array Value} {r : Option Value} {h1 : pH} (hr : va_Run p l e R s m args below meth c H locs 0 0 0 0 (F0 m pc ls st0) rest (p_Q D kc ad N Cs r h1 a) (p_A ad N)) (hS : va_S (p_A ad N) s.heap H locs)
    (kk : ∀ (H1 : Heap) (locs1 : List Loc), va_P D (Cs.map Prod.fst) (p_wm kc ad N h1) H1 → va_S (p_A ad N) s.heap H1 locs1 → W p l e R s m args below meth c H1 locs1 0 0 Q (F0 m (pc + 3) ls ((r.map (p_v ad)).toList ++ rest))) : W p l e R s m args below meth c H locs 0 0 Q (F0 m pc ls st0) := by
  intro T hT X
  obtain ⟨v, st₀, t, T', L, h0, X', hL, e1, e2, ⟨hv, hB, hz, hk⟩, st⟩ := hr T hT X
  cases hv
  rw [h0] at hz hk
  obtain ⟨t2, a1, b1⟩ := kk T'.heap (locs ++ L) (by rw [e1]; exact hB.1)
    ⟨Nat.le_trans hS.1 (by rw [e1]; exact hz), fun q h1 h2 => by rw [e1, hk q (Nat.lt_of_lt_of_le h1 hS.1) h2]; exact hS.2.1 q h1 h2, fun q hq => by
      rcases List.mem_append.mp hq with h | h
      · exact hS.2.2 q h
      · exact hL q h⟩ T' rfl X'
  exact ⟨t2, st t2 a1, b1⟩
theorem p_retW (cx : p_Cx p s m args meth c D kc Cs M) {pc len : Nat} {i : Instr} (hd : decode M.2.1 pc = .ok (i, len)) (hlen : p_okL i len = true) {h h' : pH} {lv : pLv} {st : List Value} {r : Option Value} (hret : p_ret M.2.2.2.1 i (h, pc, lv, st) = some (r, h')) {ls : Array Slot}
    (hP : va_P D (Cs.map Prod.fst) (p_wm kc ad N h) H) (hS : va_S (p_A ad N) s.heap H locs) : W p l e R s m args below meth c H locs 0 0 (MQ below (p_Q D kc ad N Cs r h') args s 0 0 (p_A ad N)) (F0 m pc ls (st.map (p_v ad))) := by
  obtain ⟨hx, hb, hr, hml, hts, hown, hlocks, hK, hN⟩ := cx
  obtain ⟨e0, hh⟩ := p_ret_inv hret
  have e0 : h' = h := e0
  cases e0
  have post : ∀ t : State, t.heap = H → s.WarmedH t.vm → p_B D kc ad N Cs h t ∧ va_F (p_A ad N) s t := fun t ht hW => ⟨⟨by rw [ht]; exact hP, va_K.moved hW.alike hK, p_nest.warm hW hN⟩, hS.F ht⟩
  rcases hh with ⟨rfl, t, v, e1, e2, e3, rfl⟩ | ⟨rfl, v, e1, e2, rfl⟩ | ⟨rfl, n, v, e1, e2, rfl⟩ | ⟨rfl, e1, e2, rfl⟩
  · simp [p_okL, p_ln] at hlen
    subst hlen
    change st = _ at e2
    subst e2
    exact W.zret hx hb (hr.trans e1) e3 (fun t ht hW => ⟨rfl, post t ht hW⟩) hS.2.2 hd hlocks
  · simp [p_okL, p_ln] at hlen
    subst hlen
    change st = _ at e2
    subst e2
    exact W.lret hx hb (hr.trans e1) (fun t ht hW => ⟨rfl, post t ht hW⟩) hS.2.2 hd hlocks
  · simp [p_okL, p_ln] at hlen
    subst hlen
    change st = _ at e2
    subst e2
    exact W.aret hx hb (hr.trans e1) (Or.inl ⟨n, rfl⟩) (Or.inr ⟨_, rfl⟩) (fun t ht hW => ⟨rfl, post t ht hW⟩) hS.2.2 hd hlocks
  · simp [p_okL, p_ln] at hlen
    subst hlen
    change st = _ at e2
    subst e2
    exact W.vret hx hb (hr.trans e1) (fun t ht hW => ⟨rfl, post t ht hW⟩) hS.2.2 hd hlocks
theorem p_copyW (cx : p_Cx p s m args meth c D kc Cs M) (inj : ∀ i j, i < N → j < N → ad i = ad j → i = j) {d pc len idx : Nat} {a : Nat × Nat × Nat} {ps : List Nat × List Nat} (hc : a.2.2 = 2) (ok : p_okI Cs Ms M (pc, .invokestatic idx, len, a, ps) = true) {h h1 : pH} {lv lv1 : pLv} {st st1 : List Value} {pc1 : Nat}
    (hst : p_copy N (h, pc, lv, st) = some (h1, pc1, lv1, st1)) {ls : Array Slot} (hl : lv_has ls M.2.2.1 (p_lv ad lv)) (hP : va_P D (Cs.map Prod.fst) (p_wm kc ad N h) H) (hS : va_S (p_A ad N) s.heap H locs)
    (kk : ∀ (H1 : Heap) (locs1 : List Loc), lv_has ls M.2.2.1 (p_lv ad lv1) → va_P D (Cs.map Prod.fst) (p_wm kc ad N h1) H1 → va_S (p_A ad N) s.heap H1 locs1 → W p l e (p_rm (d + 1)) s m args below meth c H1 locs1 0 0 Q (F0 m pc1 ls (st1.map (p_v ad)))) :
    W p l e (p_rm (d + 1)) s m args below meth c H locs 0 0 Q (F0 m pc ls (st.map (p_v ad))) := by
  obtain ⟨hx, hb, hr, hml, hts, hown, hlocks, hK, hN⟩ := cx
  simp only [p_okI, Bool.and_eq_true, decide_eq_true_eq] at ok
  obtain ⟨⟨hd, hlen⟩, hw⟩ := ok
  have hD := p_wm_D (k := kc) inj h
  have hWs : ∀ w ∈ p_W, w.before args s = true := fun w h => hts w (List.mem_cons_of_mem _ h)
  simp [p_okL, p_ln] at hlen
  subst hlen
  simp only [p_okW, hc, if_true, Bool.and_eq_true] at hw
  obtain ⟨⟨⟨w1, w2⟩, w3⟩, w4⟩ := hw
  obtain ⟨n, dp, b, sp, q, r, n0, n1, f, g, e1, e2, e3, e4, e5, c1, c2, c3, c4, c5, c6, e6⟩ := p_copy_inv hst
  cases e6
  change st = _ at e1
  subst e1
  change h q = _ at e4
  change h b = _ at e5
  refine va_copyi (D := D) hx hb (by rw [hml]; exact hl.1.symm) hown (hWs _ (p_word_in w1)) (hWs _ (p_word_in w2)) (hWs _ (p_word_in w3)) (hWs _ (p_word_in w4)) hK hP hD hS q b 0 0 (by rw [p_wm_get e2, e4]; rfl) (by rw [p_wm_get e3, e5]; rfl) rfl rfl rfl c1 c2 c3 c4 c5 (fun _ _ => rfl) (Nat.le_add_left 1 d) ?_ hd (fun H1 locs1 hP1 hD1 hS1 => kk H1 locs1 hl ?_ hS1)
  · rw [p_cats]
    show _ + (7 + 11) ≤ 30 * (d + 1)
    omega
  · rw [← p_wm_set]
    exact hP1
theorem p_natW (cx : p_Cx p s m args meth c D kc Cs M) (inj : ∀ i j, i < N → j < N → ad i = ad j → i = j) {d pc len idx : Nat} {a : Nat × Nat × Nat} {ps : List Nat × List Nat} (ok : p_okI Cs Ms M (pc, .invokestatic idx, len, a, ps) = true) {h h1 : pH} {lv lv1 : pLv} {st st1 : List Value} {pc1 : Nat}
    (hst : p_nat N a.2.2 (h, pc, lv, st) = some (h1, pc1, lv1, st1)) {ls : Array Slot} (hl : lv_has ls M.2.2.1 (p_lv ad lv)) (hP : va_P D (Cs.map Prod.fst) (p_wm kc ad N h) H) (hS : va_S (p_A ad N) s.heap H locs)
    (kk : ∀ (H1 : Heap) (locs1 : List Loc), lv_has ls M.2.2.1 (p_lv ad lv1) → va_P D (Cs.map Prod.fst) (p_wm kc ad N h1) H1 → va_S (p_A ad N) s.heap H1 locs1 → W p l e (p_rm (d + 1)) s m args below meth c H1 locs1 0 0 Q (F0 m pc1 ls (st1.map (p_v ad)))) :
    W p l e (p_rm (d + 1)) s m args below meth c H locs 0 0 Q (F0 m pc ls (st.map (p_v ad))) := by
  unfold p_nat at hst
  split at hst
  · rename_i hc
    exact p_copyW cx inj hc ok hst hl hP hS kk
  · rename_i hc2
    obtain ⟨hx, hb, hr, hml, hts, hown, hlocks, hK, hN⟩ := cx
    simp only [p_okI, Bool.and_eq_true, decide_eq_true_eq] at ok
    obtain ⟨⟨hd, hlen⟩, hw⟩ := ok
    have hWs : ∀ w ∈ p_W, w.before args s = true := fun w h => hts w (List.mem_cons_of_mem _ h)
    simp [p_okL, p_ln] at hlen
    subst hlen
    split at hst
    · rename_i hc
      simp only [p_okW, hc, if_neg (show ¬ 3 = 2 by decide), if_true, Bool.and_eq_true] at hw
      obtain ⟨⟨⟨w1, w2⟩, w3⟩, w4⟩ := hw
      obtain ⟨x, y, r, e1, e2, e3⟩ := p_mm_inv hst
      cases e3
      change st = _ at e1
      subst e1
      refine va_mmax hx hb (by rw [hml]; exact hl.1.symm) hown (hWs _ (p_word_in w1)) (hWs _ (p_word_in w2)) (hWs _ (p_word_in w3)) (hWs _ (p_word_in w4)) (Nat.le_add_left 1 d) ?_ (Nat.zero_le _) (Nat.zero_le _) hd (kk H locs hl hP hS)
      rw [p_cats]
      show _ + 13 ≤ 30 * (d + 1)
      omega
    · rename_i hc3
      split at hst
      · rename_i hc
        simp only [p_okW, hc, if_neg (show ¬ 4 = 2 by decide), if_neg (show ¬ 4 = 3 by decide), if_true, Bool.and_eq_true] at hw
        obtain ⟨⟨⟨w1, w2⟩, w3⟩, w4⟩ := hw
        obtain ⟨x, y, r, e1, e2, e3⟩ := p_mm_inv hst
        cases e3
        change st = _ at e1
        subst e1
        refine va_mmin hx hb (by rw [hml]; exact hl.1.symm) hown (hWs _ (p_word_in w1)) (hWs _ (p_word_in w2)) (hWs _ (p_word_in w3)) (hWs _ (p_word_in w4)) (Nat.le_add_left 1 d) ?_ (Nat.zero_le _) (Nat.zero_le _) hd (kk H locs hl hP hS)
        rw [p_cats]
        show _ + 13 ≤ 30 * (d + 1)
        omega
      · cases hst
def p_Run (l : Launch) (D : va_G) (kc : ClassId × ClassId × ClassId) (ad : Nat → Nat) (N : Nat) (Cs : List pCi) (Ms : List pM) (n : Nat) : Prop :=
  ∀ (d : Nat) (M : pM), M ∈ Ms → ∀ (p : Program) (e : Env) (s : State) (m : MethodId) (args : Array Value) (below : List Frame) (meth : Method) (c : Code), p_Cx p s m args meth c D kc Cs M → ∀ (h h' : pH) (pc : Nat) (lv : pLv) (st : List Value) (r : Option Value), p_run N Cs Ms n d M (h, pc, lv, st) = some (r, h') →
    ∀ (ls : Array Slot) (H : Heap) (locs : List Loc), lv_has ls M.2.2.1 (p_lv ad lv) → va_P D (Cs.map Prod.fst) (p_wm kc ad N h) H → va_S (p_A ad N) s.heap H locs → W p l e (p_rm d) s m args below meth c H locs 0 0 (MQ below (p_Q D kc ad N Cs r h') args s 0 0 (p_A ad N)) (F0 m pc ls (st.map (p_v ad)))
theorem p_met_of {n : Nat} (ih : p_Run l D kc ad N Cs Ms n) (hM : ∀ M ∈ Ms, p_okM Cs Ms M) (d : Nat) (M : pM) (hm : M ∈ Ms) (h h' : pH) (vs : List Value) (r : Option Value) (hrun : p_run N Cs Ms n d M (h, 0, lv_args 0 vs, []) = some (r, h')) (hn : (lg_sl vs).length ≤ M.2.2.1) :
    Met l M.1 (p_ws M) (p_rm d) (va_Pc (vs.map (p_v ad)) (p_B D kc ad N Cs h)) (p_Q D kc ad N Cs r h') 0 0 (p_A ad N) := by
  refine Met.ofW (cc := M.2.1) (maxL := M.2.2.1) (ret := M.2.2.2.1) (hM M hm).2.2.1 rfl ?_
  intro p e s m args below meth c s₁ B hml hv
  obtain ⟨rfl, hP, hK, hN⟩ := hv
  have hl := lv_entry (vs.map (p_v ad)) (n := M.2.2.1) (by rw [p_sl_len]; exact hn)
  rw [lg_entry_eq]
  rw [p_lv_args] at hl
  exact ih d M hm p e s m _ below meth c ⟨B.exec, B.bytes, B.returns, hml, atoms_spec (ws := p_ws M) B.pre, findClass_of_methodNamed B.named, B.notSynchronized, hK, hN⟩ h h' 0 _ [] r hrun _ _ _ hl hP va_S.rf
theorem p_args_V {idx na ci : Nat} {h : pH} {pc : Nat} {lv : pLv} {st vs rest : List Value} (hh : p_args N (.invokevirtual idx) na ci (h, pc, lv, st) = some (vs, rest)) : ∃ r fs, st.drop na = .ref r :: rest ∧ na ≤ st.length ∧ r < N ∧ h r = eO ci fs ∧ (rest.map fun v => v.category).sum ≤ 8 ∧ vs = .ref r :: (st.take na).reverse := by
  simp only [p_args] at hh
  split at hh
  · rename_i r rest' hv
    split at hh
    · rename_i hc
      split at hh
      · rename_i c fs he
        split at hh
        · rename_i e0
          subst e0
          cases hh
          exact ⟨r, fs, hv, hc.2.1, hc.1, he, hc.2.2, rfl⟩
        · cases hh
      · cases hh
    · cases hh
  · cases hh
theorem p_args_S {idx na ci : Nat} {h : pH} {pc : Nat} {lv : pLv} {st vs rest : List Value} (hh : p_args N (.invokestatic idx) na ci (h, pc, lv, st) = some (vs, rest)) : st.drop na = rest ∧ na ≤ st.length ∧ (rest.map fun v => v.category).sum ≤ 8 ∧ vs = (st.take na).reverse := by
  simp only [p_args] at hh
  split at hh
  · rename_i hc
    cases hh
    exact ⟨rfl, hc.1, hc.2, rfl⟩
  · cases hh
theorem p_nested (st : List Value) (na : Nat) : st.map (p_v ad) = (((st.take na).reverse).map (p_v ad)).reverse ++ (st.drop na).map (p_v ad) := by
  rw [List.map_reverse, List.reverse_reverse, ← List.map_append, List.take_append_drop]
set_option maxHeartbeats 4000000 in
theorem p_callW (cx : p_Cx p s m args meth c D kc Cs M) {d pc len : Nat} {i : Instr} {a1 a2 a3 : Nat} (hi : p_kd i = 2) (hcp : p_isCp i a3 = false) {ps : List Nat × List Nat} (ok : p_okI Cs Ms M (pc, i, len, (a1, a2, a3), ps) = true) {h h1 : pH} {lv : pLv} {st vs rest : List Value} {r : Option Value} {M' : pM}
    (ha : p_args N i a2 a3 (h, pc, lv, st) = some (vs, rest)) (hM' : Ms[a1]? = some M') (okM' : p_okM Cs Ms M') (hmet : Met l M'.1 (p_ws M') (p_rm d) (va_Pc (vs.map (p_v ad)) (p_B D kc ad N Cs h)) (p_Q D kc ad N Cs r h1) 0 0 (p_A ad N))
    {ls : Array Slot} (hl : lv_has ls M.2.2.1 (p_lv ad lv)) (hP : va_P D (Cs.map Prod.fst) (p_wm kc ad N h) H) (hS : va_S (p_A ad N) s.heap H locs)
    (kk : ∀ (H1 : Heap) (locs1 : List Loc), va_P D (Cs.map Prod.fst) (p_wm kc ad N h1) H1 → va_S (p_A ad N) s.heap H1 locs1 → W p l e (p_rm (d + 1)) s m args below meth c H1 locs1 0 0 Q (F0 m (pc + 3) ls ((r.toList ++ rest).map (p_v ad)))) :
    W p l e (p_rm (d + 1)) s m args below meth c H locs 0 0 Q (F0 m pc ls (st.map (p_v ad))) := by
  obtain ⟨hx, hb, hr, hml, hts, hown, hlocks, hK, hN⟩ := cx
  simp only [p_okI, Bool.and_eq_true, decide_eq_true_eq] at ok
  obtain ⟨⟨hd, hlen⟩, hw⟩ := ok
  have hWs : ∀ w ∈ p_W, w.before args s = true := fun w h => hts w (List.mem_cons_of_mem _ h)
  obtain ⟨okI, okc, okn, okm⟩ := okM'
  have hroom : (p_rm d).frames + 1 ≤ (p_rm (d + 1)).frames ∧ 8 + (M'.2.2.1 + 11) + (p_rm d).locals ≤ (p_rm (d + 1)).locals := by
    refine ⟨Nat.le_refl _, ?_⟩
    show 8 + (M'.2.2.1 + 11) + 30 * d ≤ 30 * (d + 1)
    omega
  have ekk : ∀ (H1 : Heap) (locs1 : List Loc), va_P D (Cs.map Prod.fst) (p_wm kc ad N h1) H1 → va_S (p_A ad N) s.heap H1 locs1 → W p l e (p_rm (d + 1)) s m args below meth c H1 locs1 0 0 Q (F0 m (pc + 3) ls ((r.map (p_v ad)).toList ++ rest.map (p_v ad))) := fun H1 locs1 q1 q2 => by
    have := kk H1 locs1 q1 q2
    rw [List.map_append] at this
    have e : (r.map (p_v ad)).toList = r.toList.map (p_v ad) := by cases r <;> rfl
    rw [e]
    exact this
  cases i <;> first | (exfalso; simp [p_kd] at hi; done) | skip
  case invokevirtual idx =>
    simp [p_okL, p_ln] at hlen
    subst hlen
    simp only [p_okW, hM', Bool.and_eq_true, decide_eq_true_eq] at hw
    obtain ⟨⟨⟨⟨⟨y0, w1⟩, w2⟩, w3⟩, w4⟩, hcls⟩ := hw
    simp only [p_okY, Bool.and_eq_true, decide_eq_true_eq] at y0
    obtain ⟨⟨y1, y2⟩, y3⟩ := y0
    obtain ⟨q, fs, e1, e2, e3, e4, e5, rfl⟩ := p_args_V ha
    have hcat := e5
    rw [← p_cats ad] at hcat
    have cb := callB_of (R := p_rm (d + 1)) (mc := 0) (ms := 0) (own := M.1.cls) (index := idx) (ws' := p_W) (bytes := M'.2.1) (maxL := M'.2.2.1) (ret := M'.2.2.2.1) a2 hts (p_ws_good (M := M) okc) rfl (rm := p_rm d) rfl rfl (hWs _ (p_word_in w4)) (hWs _ (p_word_in w1)) ⟨y1, y2, y3⟩ hroom
    obtain ⟨C, hC1, hC2⟩ : ∃ C, Cs[a3]? = some C ∧ C.1.1 = M'.1.cls := by
      cases hh : Cs[a3]? with
      | none => rw [hh] at hcls; cases hcls
      | some C => rw [hh] at hcls; exact ⟨C, rfl, Option.some.inj hcls⟩
    have hrecv := va_recv (D := D) hK hP (p_cl_at hC1) (q0 := q) (a := ad q) (fs := fs.map (p_v ad)) (by rw [p_wm_get e3, e4]; rfl)
    rw [hC2] at hrecv
    refine p_cont (va_runV (As := ((st.take a2).reverse).map (p_v ad)) (rest := rest.map (p_v ad)) ⟨hx, hb, hml, hown, hts⟩ hmet ⟨cb, hWs _ (p_word_in w2), hWs _ (p_word_in w3)⟩ ⟨p_blind, hrecv, fun U hU hW => ⟨rfl, by rw [hU]; exact hP, va_K.moved hW.alike hK, p_nest.warm hW hN⟩⟩ rfl ?_ hl.1 ?_ (lv_room hcat) hd ⟨Nat.zero_le _, Nat.zero_le _⟩) hS ekk
    · simp
      omega
    · show st.map (p_v ad) = _
      rw [p_nested st a2, e1]
      rfl
  case invokestatic idx =>
    simp [p_okL, p_ln] at hlen
    subst hlen
    have hc2 : ¬ 2 ≤ a3 := by simpa [p_isCp] using hcp
    simp only [p_okW, hM', if_neg (show ¬ a3 = 2 by omega), if_neg (show ¬ a3 = 3 by omega), if_neg (show ¬ a3 = 4 by omega), Bool.and_eq_true, decide_eq_true_eq] at hw
    obtain ⟨⟨⟨y0, w2⟩, w4⟩, w1⟩ := hw
    simp only [p_okY, Bool.and_eq_true, decide_eq_true_eq] at y0
    obtain ⟨⟨y1, y2⟩, y3⟩ := y0
    obtain ⟨e1, e2, e5, rfl⟩ := p_args_S ha
    have hcat := e5
    rw [← p_cats ad] at hcat
    have hstk : st.map (p_v ad) = (((st.take a2).reverse).map (p_v ad)).reverse ++ rest.map (p_v ad) := by
      rw [p_nested st a2, e1]
    have hlen2 : (((st.take a2).reverse).map (p_v ad)).length = a2 := by
      simp
      omega
    have hpre : PreS s H (va_Pc (((st.take a2).reverse).map (p_v ad)) (p_B D kc ad N Cs h)) (((st.take a2).reverse).map (p_v ad)) := ⟨p_blind, fun U hU hW => ⟨rfl, by rw [hU]; exact hP, va_K.moved hW.alike hK, p_nest.warm hW hN⟩⟩
    by_cases h1 : a3 = 1
    · rw [if_pos h1] at w1
      simp only [decide_eq_true_eq] at w1
      have cb := va_cnB (R := p_rm (d + 1)) (mc := 0) (ms := 0) (own := M.1.cls) (host := "LabelTree") (index := idx) (ws' := p_W) (bytes := M'.2.1) (maxL := M'.2.2.1) (ret := M'.2.2.2.1) a2 hts (p_ws_good (M := M) okc) rfl (rm := p_rm d) rfl rfl (hN _ (List.mem_of_getElem? w1) rfl) (hWs _ (p_word_in w4)) ⟨y1, y2, y3⟩ hroom
      exact p_cont (va_runSN (rest := rest.map (p_v ad)) ⟨hx, hb, hml, hown, hts⟩ hmet ⟨cb, hWs _ (p_word_in w2), trivial⟩ hpre rfl hlen2 hl.1 hstk (lv_room hcat) hd ⟨Nat.zero_le _, Nat.zero_le _⟩) hS ekk
    · rw [if_neg h1] at w1
      have cb := callB_of (R := p_rm (d + 1)) (mc := 0) (ms := 0) (own := M.1.cls) (index := idx) (ws' := p_W) (bytes := M'.2.1) (maxL := M'.2.2.1) (ret := M'.2.2.2.1) a2 hts (p_ws_good (M := M) okc) rfl (rm := p_rm d) rfl rfl (hWs _ (p_word_in w4)) (hWs _ (p_word_in w1)) ⟨y1, y2, y3⟩ hroom
      exact p_cont (va_runS (rest := rest.map (p_v ad)) ⟨hx, hb, hml, hown, hts⟩ hmet ⟨cb, hWs _ (p_word_in w2)⟩ hpre rfl hlen2 hl.1 hstk (lv_room hcat) hd ⟨Nat.zero_le _, Nat.zero_le _⟩) hS ekk
theorem p_lookI {pc : Nat} {x : Instr × Nat × (Nat × Nat × Nat) × List Nat × List Nat} : ∀ {t : List pI}, List.lookup pc t = some x → (pc, x) ∈ t
  | [], h => by simp at h
  | (j, w) :: r, h => by
    rw [List.lookup_cons] at h
    by_cases e : pc = j
    · subst e
      simp at h
      subst h
      exact List.mem_cons_self
    · have e2 : (pc == j) = false := by simpa using e
      rw [e2] at h
      exact List.mem_cons_of_mem _ (p_lookI h)
set_option maxHeartbeats 4000000 in
theorem p_runW (hC : p_okC Cs) (hM : ∀ M ∈ Ms, p_okM Cs Ms M) (inj : ∀ i j, i < N → j < N → ad i = ad j → i = j) : ∀ n, p_Run l D kc ad N Cs Ms n
  | 0 => fun d M hm p e s m args below meth c cx h h' pc lv st r hrun => by simp [p_run] at hrun
  | n + 1 => fun d M hm p e s m args below meth c cx h h' pc lv st r hrun ls H locs hl hP hS => by
    have ih := p_runW hC hM inj n
    simp only [p_run] at hrun
    split at hrun
    · cases hrun
    · rename_i i len a ps ks hlook
      have ok := (hM M hm).1 _ (p_lookI hlook)
      have hl := p_lv_live ks hl
      generalize p_live ks lv = lv at hl hrun
      split at hrun
      · split at hrun
        · rename_i s' hst
          obtain ⟨h1, pc1, lv1, st1⟩ := s'
          exact p_stepW cx hC inj ok hst hl hP hS (fun H1 locs1 ls1 hl1 hP1 hS1 => ih d M hm p e s m args below meth c cx h1 h' pc1 lv1 st1 r hrun ls1 H1 locs1 hl1 hP1 hS1)
        · cases hrun
      · simp only [p_okI, Bool.and_eq_true, decide_eq_true_eq] at ok
        exact p_retW cx ok.1.1 ok.1.2 hrun hP hS
      · rename_i hk0 hk1
        have hkd : p_kd i = 2 := by
          cases i <;> first | rfl | (exfalso; simp [p_kd] at hk0; done) | (exfalso; simp [p_kd] at hk1; done)
        split at hrun
        · cases hrun
        · rename_i d'
          split at hrun
          · rename_i hcp
            split at hrun
            · rename_i s' hst
              obtain ⟨h1, pc1, lv1, st1⟩ := s'
              cases i <;> first | (exfalso; simp [p_isCp] at hcp; done) | skip
              exact p_natW cx inj ok hst hl hP hS (fun H1 locs1 hl1 hP1 hS1 => ih (d' + 1) M hm p e s m args below meth c cx h1 h' pc1 lv1 st1 r hrun ls H1 locs1 hl1 hP1 hS1)
            · cases hrun
          · rename_i hcp
            split at hrun
            · rename_i vs rest hargs
              split at hrun
              · rename_i M' hM'
                split at hrun
                · rename_i hlen
                  split at hrun
                  · rename_i r1 h1 hcall
                    have hm' : M' ∈ Ms := List.mem_of_getElem? hM'
                    exact p_callW cx hkd (by simpa using hcp) ok hargs hM' (hM M' hm') (p_met_of ih hM d' M' hm' h h1 vs r1 hcall hlen) hl hP hS (fun H1 locs1 hP1 hS1 => ih (d' + 1) M hm p e s m args below meth c cx h1 h' (pc + 3) lv _ r hrun ls H1 locs1 hl hP1 hS1)
                  · cases hrun
                · cases hrun
              · cases hrun
            · cases hrun
end PRW
