/-! THE LAW: a call of a method of the tables from the law's frame -/
def lw_Cx (p : Program) (s : State) (m : MethodId) (meth : Method) (c : Code) (D : va_G) (kc : ClassId × ClassId × ClassId) (b L : Nat) (xs : Nat → Int32) (ad : Nat → Nat) : Prop :=
  p.tables.exec = Jvm.exec ∧ c.code = code ∧ c.maxLocals = 4 ∧ s.vm.findClass R_law = some m.cls ∧ (∀ w ∈ lw_tbl, w.before #[Value.ref b] s = true) ∧ va_X b L xs s s.heap ∧ b < s.heap.size ∧ ¬ (fun q : Nat => s.heap.size ≤ q) b ∧ (∀ i j, i < pN → j < pN → ad i = ad j → i = j) ∧ (∀ j, j < pN → s.heap.size ≤ ad j) ∧ va_K D (p_Cs.map Prod.fst) (p_tys kc) s ∧ p_nest s
def lw_lv (b : Nat) (ad : Nat → Nat) (i : Nat) : List (Nat × Value) := [(0, .ref b), (1, .ref (ad 0)), (2, .ref (ad 73)), (3, .int (nI i))]
theorem PI.x {h : pH} (H : PI h) : ∃ fs, h 0 = eO 8 fs := by
  obtain ⟨X, L, K, U, T, D, O, P, A, B, S, E, G, M, ⟨xX, -⟩, -⟩ := H
  exact ⟨_, xX⟩
theorem lw_cmp (z : Int64) : lg_cmp z z = 0 := by
  unfold lg_cmp
  first | rfl | simp | (split <;> first | rfl | simp_all) 
theorem lw_go {i L : Nat} (hL : L ≤ 2048) (hi : i < 3000) (c : ¬ Int32.ofNat L - 4 < nI i) : i + 4 ≤ L := by
  have h1 : (nI L - nI 4).toInt = (L : Int) - 4 := pk_sub_toInt (by omega) (by omega)
  rw [Int32.lt_iff_toInt_lt] at c
  have h2 : (nI i).toInt = (i : Int) := nI_toInt (by omega)
  have h3 : (Int32.ofNat L - 4).toInt = (L : Int) - 4 := h1
  omega
theorem lw_good {M' : pM} (h : Jvm.Cond.code M'.1 M'.2.1 M'.2.2.1 M'.2.2.2.1 ∈ p_W) : GoodIn lw_tbl (p_ws M') := fun w hw => by
  rcases List.mem_cons.mp hw with e | hw
  · subst e
    exact ⟨(List.mem_filter.mp h).1, p_good h⟩
  · exact ⟨(List.mem_filter.mp hw).1, p_good hw⟩
section LAWC
variable {p : Program} {l : Launch} {e : Env} {R : Room} {s : State} {m : MethodId} {args : Array Value} {below : List Frame} {meth : Method} {c : Code} {Q : State → Prop} {H : Heap} {locs : List Loc} {cells slots : Nat}
variable {D : va_G} {kc : ClassId × ClassId × ClassId} {ad : Nat → Nat} {N : Nat} {Cs : List pCi} {Ms : List pM}
/-- behind a call of a method of the tables, in a frame that may make cells -/
theorem p_contL {A : Nat → Prop} {pc : Nat} {ls : Array Slot} {st0 rest : List Value} {a : Array Value} {r : Option Value} {h1 : pH} (hr : va_Run p l e R s m args below meth c H locs cells slots 0 0 (F0 m pc ls st0) rest (p_Q D kc ad N Cs r h1 a) (p_A ad N)) (hS : va_S A s.heap H locs) (hA : ∀ q, p_A ad N q → A q)
    (kk : ∀ (H1 : Heap) (locs1 : List Loc), va_P D (Cs.map Prod.fst) (p_wm kc ad N h1) H1 → va_S A s.heap H1 locs1 → (∀ q : Nat, q < H.size → ¬ p_A ad N q → H1[q]? = H[q]?) → H.size ≤ H1.size → W p l e R s m args below meth c H1 locs1 cells slots Q (F0 m (pc + 3) ls ((r.map (p_v ad)).toList ++ rest))) : W p l e R s m args below meth c H locs cells slots Q (F0 m pc ls st0) := by
  intro T hT X
  obtain ⟨v, st₀, t, T', L, h0, X', hL, e1, e2, ⟨hv, hB, hz, hk⟩, st⟩ := hr T hT X
  cases hv
  rw [h0] at hz hk
  obtain ⟨t2, a1, b1⟩ := kk T'.heap (locs ++ L) (by rw [e1]; exact hB.1)
    ⟨Nat.le_trans hS.1 (by rw [e1]; exact hz), fun q h1 h2 => by rw [e1, hk q (Nat.lt_of_lt_of_le h1 hS.1) (fun z => h2 (hA q z))]; exact hS.2.1 q h1 h2, fun q hq => by
      rcases List.mem_append.mp hq with h | h
      · exact hS.2.2 q h
      · exact hA _ (hL q h)⟩ (fun q h1 h2 => by rw [e1]; exact hk q h1 h2) (by rw [e1]; exact hz) T' rfl X'
  exact ⟨t2, st t2 a1, b1⟩
end LAWC
section LAWD
variable {p : Program} {l : Launch} {e : Env} {s : State} {m : MethodId} {below : List Frame} {meth : Method} {c : Code} {D : va_G} {kc : ClassId × ClassId × ClassId} {b L : Nat} {xs : Nat → Int32} {ad : Nat → Nat} {Q : State → Prop}
theorem lw_call (cx : lw_Cx p s m meth c D kc b L xs ad) {pc idx na ci q i1 i2 i3 i4 : Nat} {M' : pM} {vs rest : List Value} {h : pH} {fs : List Value} {QE : Option Value → pH → Prop} {C : pCi} {H : Heap} {ls : Array Slot} (hM : M' ∈ p_T) (hd : decode code pc = .ok (.invokevirtual idx, 3)) (y0 : p_okY M' na = true) (w1 : p_word i1 (.methodLink R_law idx M'.1) = true) (w2 : p_word i2 (.instanceMethod M'.1) = true) (w3 : p_word i3 (.selects M'.1.cls M'.1 M'.1) = true) (w4 : p_word i4 (.initialized M'.1.cls) = true) (hC1 : p_Cs[ci]? = some C) (hC2 : C.1.1 = M'.1.cls) (hq : q < pN) (hh : h q = eO ci fs) (hna : vs.length = na) (hsl : (lg_sl (.ref q :: vs)).length ≤ M'.2.2.1) (hcat : (rest.map fun v => v.category).sum ≤ 8)
    (hev : Ev 10 M' (h, 0, lv_args 0 (.ref q :: vs), []) QE) (hP : va_P D (p_Cs.map Prod.fst) (p_wm kc ad pN h) H) (hS : va_S (fun q : Nat => s.heap.size ≤ q) s.heap H []) (hl : ls.size = 4)
    (kk : ∀ (r : Option Value) (h1 : pH) (H1 : Heap), QE r h1 → va_P D (p_Cs.map Prod.fst) (p_wm kc ad pN h1) H1 → va_S (fun q : Nat => s.heap.size ≤ q) s.heap H1 [] → W p l e room_1 s m #[Value.ref b] below meth c H1 [] 600000 7302250 Q (F0 m (pc + 3) ls ((r.map (p_v ad)).toList ++ rest))) : W p l e room_1 s m #[Value.ref b] below meth c H [] 600000 7302250 Q (F0 m pc ls ((vs.map (p_v ad)).reverse ++ .ref (ad q) :: rest)) := by
  obtain ⟨hx, hb, hml, hown, hts, hX, hbl, hbA, inj, hAd, hK, hN⟩ := cx
  obtain ⟨n, r, h1, hrun, hQ⟩ := hev
  have okM' := p_T_ok M' hM
  have hmet := p_met_of (l := l) (D := D) (kc := kc) (p_runW p_Cs_ok p_T_ok inj n) p_T_ok 10 M' hM h h1 (.ref q :: vs) r hrun hsl
  obtain ⟨okI, okc, okn, okm⟩ := okM'
  simp only [p_okY, Bool.and_eq_true, decide_eq_true_eq] at y0
  obtain ⟨⟨y1, y2⟩, y3⟩ := y0
  have hWs : ∀ w ∈ p_W, w.before #[Value.ref b] s = true := fun w h => hts w (List.mem_filter.mp h).1
  have hroom : (p_rm 10).frames + 1 ≤ room_1.frames ∧ 8 + (M'.2.2.1 + 11) + (p_rm 10).locals ≤ room_1.locals := by
    refine ⟨Nat.le_of_ble_eq_true rfl, ?_⟩
    show 8 + (M'.2.2.1 + 11) + 300 ≤ 410
    omega
  have cb := callB_of (R := room_1) (mc := 0) (ms := 0) (own := R_law) (index := idx) (ws' := p_W) (bytes := M'.2.1) (maxL := M'.2.2.1) (ret := M'.2.2.2.1) na hts (lw_good (M' := M') okc) rfl (rm := p_rm 10) rfl rfl (hWs _ (p_word_in w4)) (hWs _ (p_word_in w1)) ⟨y1, y2, y3⟩ hroom
  have hrecv := va_recv (D := D) hK hP (p_cl_at hC1) (q0 := q) (a := ad q) (fs := fs.map (p_v ad)) (by rw [p_wm_get hq, hh]; rfl)
  rw [hC2] at hrecv
  refine p_contL (A := fun q : Nat => s.heap.size ≤ q) (va_runV (As := vs.map (p_v ad)) (rest := rest) ⟨hx, hb, hml, hown, hts⟩ hmet ⟨cb, hWs _ (p_word_in w2), hWs _ (p_word_in w3)⟩ ⟨p_blind, hrecv, fun U hU hW => ⟨rfl, by rw [hU]; exact hP, va_K.moved hW.alike hK, p_nest.warm hW hN⟩⟩ rfl (by simpa using hna) hl rfl (lv_room hcat) hd ⟨Nat.le_refl _, Nat.le_refl _⟩) hS (fun x hx => ?_) (fun H1 locs1 hP1 hS1 _ _ => ?_)
  · obtain ⟨j, hj, rfl⟩ := hx
    exact hAd j hj
  · refine va_forget (fun x hx => hS1.2.2 x hx) ?_
    exact kk r h1 H1 hQ hP1 ⟨hS1.1, hS1.2.1, fun x hx => absurd hx List.not_mem_nil⟩
theorem lw_arg (cx : lw_Cx p s m meth c D kc b L xs ad) {i k pc : Nat} {H : Heap} {ls : Array Slot} {rest : List Value} (hk : k < 4) (hi : i + k < L) (hL : L ≤ 2048) (hS : va_S (fun q : Nat => s.heap.size ≤ q) s.heap H []) (hl : lv_has ls 4 (lw_lv b ad i)) (d0 : decode code pc = .ok (.aload_n 0, 1)) (d1 : decode code (pc + 1) = .ok (.iload_n 3, 1)) (d2 : decode code (pc + 2) = .ok (.iconst (k : Int), 1)) (d3 : decode code (pc + 3) = .ok (.iadd, 1)) (d4 : decode code (pc + 4) = .ok (.iaload, 1))
    (kk : W p l e room_1 s m #[Value.ref b] below meth c H [] 600000 7302250 Q (F0 m (pc + 5) ls (.int (xs (i + k)) :: rest))) : W p l e room_1 s m #[Value.ref b] below meth c H [] 600000 7302250 Q (F0 m pc ls rest) := by
  obtain ⟨hx, hb, hml, hown, hts, hX, hbl, hbA, inj, hAd, hK, hN⟩ := cx
  refine lv_aload_n hx hb d0 rfl (lv_at hl 0 rfl) ?_
  refine lv_iload_n hx hb d1 rfl (lv_at hl 3 rfl) ?_
  refine lv_iconst (v := nI k) hx hb d2 (by rcases (show k = 0 ∨ k = 1 ∨ k = 2 ∨ k = 3 by omega) with rfl | rfl | rfl | rfl <;> decide) ?_
  refine lv_iadd hx hb d3 ?_
  rw [nI_add]
  refine va_sld hx hb hX hbl hbA hS (vp_in_nI hi (by omega)) d4 ?_
  rw [nI_clamp (by omega)]
  exact kk
end LAWD
