/-! STRINGS: the constant, its length, its letters (written by program: wip/whole/gen70.py) -/
theorem scoder_0 : decode cJ0_coder_7d493 0 = .ok (.getstatic 38, 3) := by decide +kernel
theorem scoder_3 : decode cJ0_coder_7d493 3 = .ok (.ifCond .eq 10, 3) := by decide +kernel
theorem scoder_6 : decode cJ0_coder_7d493 6 = .ok (.aload_n 0, 1) := by decide +kernel
theorem scoder_7 : decode cJ0_coder_7d493 7 = .ok (.getfield 15, 3) := by decide +kernel
theorem scoder_10 : decode cJ0_coder_7d493 10 = .ok (.goto 4, 3) := by decide +kernel
theorem scoder_13 : decode cJ0_coder_7d493 13 = .ok (.iconst 1, 1) := by decide +kernel
theorem scoder_14 : decode cJ0_coder_7d493 14 = .ok (.ireturn, 1) := by decide +kernel
def i_coder : pM := (yJ0_coder_7d493, cJ0_coder_7d493, 1, some .byte, 280, [])
theorem slength_0 : decode cJ0_length_8abf5 0 = .ok (.aload_n 0, 1) := by decide +kernel
theorem slength_1 : decode cJ0_length_8abf5 1 = .ok (.getfield 9, 3) := by decide +kernel
theorem slength_4 : decode cJ0_length_8abf5 4 = .ok (.arraylength, 1) := by decide +kernel
theorem slength_5 : decode cJ0_length_8abf5 5 = .ok (.aload_n 0, 1) := by decide +kernel
theorem slength_6 : decode cJ0_length_8abf5 6 = .ok (.invokevirtual 335, 3) := by decide +kernel
theorem slength_9 : decode cJ0_length_8abf5 9 = .ok (.ishr, 1) := by decide +kernel
theorem slength_10 : decode cJ0_length_8abf5 10 = .ok (.ireturn, 1) := by decide +kernel
def i_length : pM := (yJ0_length_8abf5, cJ0_length_8abf5, 1, some .int, 276, [])
theorem slatin_0 : decode cJ0_isLatin1_aae02 0 = .ok (.getstatic 38, 3) := by decide +kernel
theorem slatin_3 : decode cJ0_isLatin1_aae02 3 = .ok (.ifCond .eq 14, 3) := by decide +kernel
theorem slatin_6 : decode cJ0_isLatin1_aae02 6 = .ok (.aload_n 0, 1) := by decide +kernel
theorem slatin_7 : decode cJ0_isLatin1_aae02 7 = .ok (.getfield 15, 3) := by decide +kernel
theorem slatin_10 : decode cJ0_isLatin1_aae02 10 = .ok (.ifCond .ne 7, 3) := by decide +kernel
theorem slatin_13 : decode cJ0_isLatin1_aae02 13 = .ok (.iconst 1, 1) := by decide +kernel
theorem slatin_14 : decode cJ0_isLatin1_aae02 14 = .ok (.goto 4, 3) := by decide +kernel
theorem slatin_17 : decode cJ0_isLatin1_aae02 17 = .ok (.iconst 0, 1) := by decide +kernel
theorem slatin_18 : decode cJ0_isLatin1_aae02 18 = .ok (.ireturn, 1) := by decide +kernel
def i_latin : pM := (yJ0_isLatin1_aae02, cJ0_isLatin1_aae02, 1, some .boolean, 290, [])
theorem scheck3_0 : decode cJ3_checkIndex_8e157 0 = .ok (.iload_n 0, 1) := by decide +kernel
theorem scheck3_1 : decode cJ3_checkIndex_8e157 1 = .ok (.ifCond .lt 8, 3) := by decide +kernel
theorem scheck3_4 : decode cJ3_checkIndex_8e157 4 = .ok (.iload_n 0, 1) := by decide +kernel
theorem scheck3_5 : decode cJ3_checkIndex_8e157 5 = .ok (.iload_n 1, 1) := by decide +kernel
theorem scheck3_6 : decode cJ3_checkIndex_8e157 6 = .ok (.if_icmp .lt 10, 3) := by decide +kernel
theorem scheck3_9 : decode cJ3_checkIndex_8e157 9 = .ok (.aload_n 2, 1) := by decide +kernel
theorem scheck3_10 : decode cJ3_checkIndex_8e157 10 = .ok (.iload_n 0, 1) := by decide +kernel
theorem scheck3_11 : decode cJ3_checkIndex_8e157 11 = .ok (.iload_n 1, 1) := by decide +kernel
theorem scheck3_12 : decode cJ3_checkIndex_8e157 12 = .ok (.invokestatic 95, 3) := by decide +kernel
theorem scheck3_15 : decode cJ3_checkIndex_8e157 15 = .ok (.athrow, 1) := by decide +kernel
theorem scheck3_16 : decode cJ3_checkIndex_8e157 16 = .ok (.iload_n 0, 1) := by decide +kernel
theorem scheck3_17 : decode cJ3_checkIndex_8e157 17 = .ok (.ireturn, 1) := by decide +kernel
def i_check3 : pM := (yJ3_checkIndex_8e157, cJ3_checkIndex_8e157, 3, some .int, 301, [])
theorem scheck0_0 : decode cJ0_checkIndex_df160 0 = .ok (.iload_n 0, 1) := by decide +kernel
theorem scheck0_1 : decode cJ0_checkIndex_df160 1 = .ok (.iload_n 1, 1) := by decide +kernel
theorem scheck0_2 : decode cJ0_checkIndex_df160 2 = .ok (.getstatic 1053, 3) := by decide +kernel
theorem scheck0_5 : decode cJ0_checkIndex_df160 5 = .ok (.invokestatic 1059, 3) := by decide +kernel
theorem scheck0_8 : decode cJ0_checkIndex_df160 8 = .ok (.pop, 1) := by decide +kernel
theorem scheck0_9 : decode cJ0_checkIndex_df160 9 = .ok (.return_, 1) := by decide +kernel
def i_check0 : pM := (yJ0_checkIndex_df160, cJ0_checkIndex_df160, 2, none, 296, [])
theorem schar1_0 : decode cJ1_charAt_3b067 0 = .ok (.iload_n 1, 1) := by decide +kernel
theorem schar1_1 : decode cJ1_charAt_3b067 1 = .ok (.aload_n 0, 1) := by decide +kernel
theorem schar1_2 : decode cJ1_charAt_3b067 2 = .ok (.arraylength, 1) := by decide +kernel
theorem schar1_3 : decode cJ1_charAt_3b067 3 = .ok (.invokestatic 9, 3) := by decide +kernel
theorem schar1_6 : decode cJ1_charAt_3b067 6 = .ok (.aload_n 0, 1) := by decide +kernel
theorem schar1_7 : decode cJ1_charAt_3b067 7 = .ok (.iload_n 1, 1) := by decide +kernel
theorem schar1_8 : decode cJ1_charAt_3b067 8 = .ok (.baload, 1) := by decide +kernel
theorem schar1_9 : decode cJ1_charAt_3b067 9 = .ok (.sipush 255, 3) := by decide +kernel
theorem schar1_12 : decode cJ1_charAt_3b067 12 = .ok (.iand, 1) := by decide +kernel
theorem schar1_13 : decode cJ1_charAt_3b067 13 = .ok (.i2c, 1) := by decide +kernel
theorem schar1_14 : decode cJ1_charAt_3b067 14 = .ok (.ireturn, 1) := by decide +kernel
def i_char1 : pM := (yJ1_charAt_3b067, cJ1_charAt_3b067, 2, some .char, 293, [])
theorem schar0_0 : decode cJ0_charAt_5068e 0 = .ok (.aload_n 0, 1) := by decide +kernel
theorem schar0_1 : decode cJ0_charAt_5068e 1 = .ok (.invokevirtual 492, 3) := by decide +kernel
theorem schar0_4 : decode cJ0_charAt_5068e 4 = .ok (.ifCond .eq 12, 3) := by decide +kernel
theorem schar0_7 : decode cJ0_charAt_5068e 7 = .ok (.aload_n 0, 1) := by decide +kernel
theorem schar0_8 : decode cJ0_charAt_5068e 8 = .ok (.getfield 9, 3) := by decide +kernel
theorem schar0_11 : decode cJ0_charAt_5068e 11 = .ok (.iload_n 1, 1) := by decide +kernel
theorem schar0_12 : decode cJ0_charAt_5068e 12 = .ok (.invokestatic 495, 3) := by decide +kernel
theorem schar0_15 : decode cJ0_charAt_5068e 15 = .ok (.ireturn, 1) := by decide +kernel
theorem schar0_16 : decode cJ0_charAt_5068e 16 = .ok (.aload_n 0, 1) := by decide +kernel
theorem schar0_17 : decode cJ0_charAt_5068e 17 = .ok (.getfield 9, 3) := by decide +kernel
theorem schar0_20 : decode cJ0_charAt_5068e 20 = .ok (.iload_n 1, 1) := by decide +kernel
theorem schar0_21 : decode cJ0_charAt_5068e 21 = .ok (.invokestatic 498, 3) := by decide +kernel
theorem schar0_24 : decode cJ0_charAt_5068e 24 = .ok (.ireturn, 1) := by decide +kernel
def i_char0 : pM := (yJ0_charAt_5068e, cJ0_charAt_5068e, 2, some .char, 286, [])
def s_by : List Int32 := [107, 48, 59, 114, 48, 59, 103, 48, 44, 48, 44, 49, 59, 103, 48, 44, 49, 44, 50, 59, 103, 48, 44, 49, 44, 49, 59, 103, 49, 44, 48, 44, 51, 59, 103, 49, 44, 49, 44, 50, 59, 103, 51, 44, 48, 44, 51, 59, 103, 48, 44, 48, 44, 52, 59, 103, 50, 44, 48, 44, 49, 59, 103, 56, 44, 48, 44, 51, 59]
def s_tx : List Nat := [107, 48, 59, 114, 48, 59, 103, 48, 44, 48, 44, 49, 59, 103, 48, 44, 49, 44, 50, 59, 103, 48, 44, 49, 44, 49, 59, 103, 49, 44, 48, 44, 51, 59, 103, 49, 44, 49, 44, 50, 59, 103, 51, 44, 48, 44, 51, 59, 103, 48, 44, 48, 44, 52, 59, 103, 50, 44, 48, 44, 49, 59, 103, 56, 44, 48, 44, 51, 59]
def s_st (A : Nat → Prop) (kS vS : Nat) (U : State) (H : Heap) : Prop := vk_S 1 [69] [s_by] (fun _ => kS) (fun _ => vS) A U H ∧ va_Z "java/lang/String" "COMPACT_STRINGS" "Z" (.int 1) A U H ∧ va_Zq "jdk/internal/util/Preconditions" "SIOOBE_FORMATTER" "Ljava/util/function/BiFunction;" A U H
theorem s_st.moved {A : Nat → Prop} {kS vS : Nat} {u U : State} {H : Heap} (hvm : u.vm.Alike U.vm) (h : s_st A kS vS u H) : s_st A kS vS U H := ⟨vk_S.moved hvm h.1, va_Z.moved hvm h.2.1, va_Zq.moved hvm h.2.2⟩
theorem s_st.kept {A : Nat → Prop} {kS vS : Nat} {U : State} {H H1 : Heap} (h : s_st A kS vS U H) (hq : ∀ a : Nat, a < H.size → ¬ A a → H1[a]? = H[a]?) : s_st A kS vS U H1 := ⟨h.1.kept hq, h.2.1.kept hq, h.2.2.kept hq⟩
theorem s_st.narrow {A B : Nat → Prop} {kS vS : Nat} {U : State} {H : Heap} (h : s_st A kS vS U H) (hAB : ∀ q, B q → A q) : s_st B kS vS U H := ⟨h.1.narrow hAB, h.2.1.narrow hAB, h.2.2.narrow hAB⟩
def s_B (kS vS : Nat) (U : State) : Prop := s_st (fun _ => False) kS vS U U.heap
theorem s_blind {kS vS : Nat} {vs : List Value} : FrameBlind (va_Pc vs (s_B kS vS)) := by
  intro a U g mk ⟨q1, q2⟩
  exact ⟨q1, s_st.moved (u := U) (U := U.calling g mk a) (Vm.Alike.refl U.vm) q2⟩
def s_Cx (p : Program) (s : State) (m : MethodId) (args : Array Value) (meth : Method) (c : Code) (M : pM) : Prop := b_Cx p s m args c M.1.cls M.2.1 M.2.2.1 ∧ meth.sig.returnType = M.2.2.2.1 ∧ meth.locks = false
theorem s_open {M : pM} {l : Launch} {R : Room} {vs : List Value} {Bp : State → Prop} {Qc : Array Value → State → Outcome → State → Prop} (hpl : plainName M.1.cls = true) (hlen : (lg_sl vs).length ≤ M.2.2.1)
    (body : ∀ (p : Program) (e : Env) (s : State) (m : MethodId) (args : Array Value) (below : List Frame) (meth : Method) (c : Code) (ls : Array Slot), s_Cx p s m args meth c M → Bp s → lv_has ls M.2.2.1 (lv_args 0 vs) → W p l e R s m args below meth c s.heap [] 0 0 (MQ below Qc args s 0 0 (fun _ => False)) (F0 m 0 ls [])) : Met l M.1 (p_ws M) R (va_Pc vs Bp) Qc 0 0 (fun _ => False) := by
  refine Met.ofW (cc := M.2.1) (maxL := M.2.2.1) (ret := M.2.2.2.1) hpl rfl ?_
  intro p e s m args below meth c s₁ B hml hv
  obtain ⟨rfl, hB⟩ := hv
  have hl := lv_entry vs (n := M.2.2.1) hlen
  rw [lg_entry_eq]
  have hts := atoms_spec (ws := p_ws M) B.pre
  exact body p e s m _ below meth c _ ⟨⟨B.exec, B.bytes, hml, findClass_of_methodNamed B.named, fun w h => hts w (List.mem_cons_of_mem _ h)⟩, B.returns, B.notSynchronized⟩ hB hl
section SC
variable {p : Program} {l : Launch} {e : Env} {R : Room} {s : State} {m : MethodId} {args : Array Value} {below : List Frame} {meth : Method} {c : Code} {Q : State → Prop} {H : Heap} {locs : List Loc} {cells slots : Nat}
variable {own : String} {cc : ByteArray} {nL : Nat} {ls : Array Slot} {rest : List Value} {pc : Nat} {kS vS : Nat} {A : Nat → Prop}
/-- what a call finds: the strings as they are -/
theorem s_pre (h : s_st A kS vS s s.heap) (hS : va_S A s.heap H locs) {vs : List Value} : PreS s H (va_Pc vs (s_B kS vS)) vs := ⟨s_blind, fun U hU hW => ⟨rfl, by
  unfold s_B
  rw [hU]
  exact s_st.moved hW.alike ((h.kept hS.2.1).narrow (fun _ q => q.elim))⟩⟩
/-- a read by a virtual call -/
theorem s_callV (cx : b_Cx p s m args c own cc nL) (h : s_st A kS vS s s.heap) (hS : va_S A s.heap H locs) {Mi : pM} {fr na idx i0 i1 i2 i3 i4 : Nat} {vs : List Value} {v : Int32} (hM : Met l Mi.1 (p_ws Mi) (k_rm fr 0 0) (va_Pc (.ref kS :: vs) (s_B kS vS)) (QcRead v) 0 0 (fun _ => False)) (hC : Mi.1.cls = "java/lang/String") (w0 : p_word i0 (.code Mi.1 Mi.2.1 Mi.2.2.1 Mi.2.2.2.1) = true) (y0 : p_okY Mi na = true) (w1 : p_word i1 (.methodLink own idx Mi.1) = true) (w2 : p_word i2 (.instanceMethod Mi.1) = true) (w3 : p_word i3 (.initialized Mi.1.cls) = true) (w4 : p_word i4 (.selects Mi.1.cls Mi.1 Mi.1) = true) (hR : fr + 1 ≤ R.frames ∧ 8 + (Mi.2.2.1 + 11) + 30 * fr ≤ R.locals) (hna : vs.length = na) (hl : ls.size = nL) (hcat : (rest.map fun v => v.category).sum ≤ 8) (hd : decode cc pc = .ok (.invokevirtual idx, 3)) (hcells : cells ≤ R.cells) (hslots : slots ≤ R.slots)
    (kk : W p l e R s m args below meth c H locs cells slots Q (F0 m (pc + 3) ls (.int v :: rest))) : W p l e R s m args below meth c H locs cells slots Q (F0 m pc ls (vs.reverse ++ .ref kS :: rest)) := by
  obtain ⟨hx, hb, hml, hown, hWs⟩ := cx
  have hp := s_pre (vs := .ref kS :: vs) h hS
  have hrecv := vk_recv h.1 (i := 0) (by decide) hS
  simp only [p_okY, Bool.and_eq_true, decide_eq_true_eq] at y0
  obtain ⟨⟨y1, y2⟩, y3⟩ := y0
  have cb := callB_of (R := R) (mc := 0) (ms := 0) (own := own) (index := idx) (ws' := p_W) (bytes := Mi.2.1) (maxL := Mi.2.2.1) (ret := Mi.2.2.2.1) na hWs (g_good (Mi := Mi) (p_word_in w0)) rfl (rm := k_rm fr 0 0) rfl rfl (hWs _ (p_word_in w3)) (hWs _ (p_word_in w1)) ⟨y1, y2, y3⟩ hR
  refine W.callR (r := v) (W.runV (C := Mi.1.cls) (As := vs) (rest := rest) ⟨hx, hb, hml, hown, hWs⟩ hM ⟨cb, hWs _ (p_word_in w2), hWs _ (p_word_in w4)⟩ ⟨hp.1, by rw [hC]; exact hrecv, hp.2⟩ rfl hna hl rfl (lv_room hcat) hd ⟨hcells, hslots⟩) ?_
  exact W.eq (g2 := F0 m (pc + 3) ls (.int v :: rest)) rfl kk
theorem s_callS (cx : b_Cx p s m args c own cc nL) (h : s_st A kS vS s s.heap) (hS : va_S A s.heap H locs) {Mi : pM} {fr na idx i0 i1 i2 i3 : Nat} {vs : List Value} {Qc : Array Value → State → Outcome → State → Prop} {v : Option Value} (hM : Met l Mi.1 (p_ws Mi) (k_rm fr 0 0) (va_Pc vs (s_B kS vS)) (fun _ st o t => o = .returned v ∧ t.heap = st.heap) 0 0 (fun _ => False)) (w0 : p_word i0 (.code Mi.1 Mi.2.1 Mi.2.2.1 Mi.2.2.2.1) = true) (y0 : p_okY Mi na = true) (w1 : p_word i1 (.methodLink own idx Mi.1) = true) (w2 : p_word i2 (.static Mi.1) = true) (w3 : p_word i3 (.initialized Mi.1.cls) = true) (hR : fr + 1 ≤ R.frames ∧ 8 + (Mi.2.2.1 + 11) + 30 * fr ≤ R.locals) (hna : vs.length = na) (hl : ls.size = nL) (hcat : (rest.map fun v => v.category).sum ≤ 8) (hd : decode cc pc = .ok (.invokestatic idx, 3)) (hcells : cells ≤ R.cells) (hslots : slots ≤ R.slots)
    (kk : W p l e R s m args below meth c H locs cells slots Q (F0 m (pc + 3) ls (v.toList ++ rest))) : W p l e R s m args below meth c H locs cells slots Q (F0 m pc ls (vs.reverse ++ rest)) := by
  obtain ⟨hx, hb, hml, hown, hWs⟩ := cx
  have hp := s_pre (vs := vs) h hS
  simp only [p_okY, Bool.and_eq_true, decide_eq_true_eq] at y0
  obtain ⟨⟨y1, y2⟩, y3⟩ := y0
  have cb := callB_of (R := R) (mc := 0) (ms := 0) (own := own) (index := idx) (ws' := p_W) (bytes := Mi.2.1) (maxL := Mi.2.2.1) (ret := Mi.2.2.2.1) na hWs (g_good (Mi := Mi) (p_word_in w0)) rfl (rm := k_rm fr 0 0) rfl rfl (hWs _ (p_word_in w3)) (hWs _ (p_word_in w1)) ⟨y1, y2, y3⟩ hR
  refine W.callX (W.runS (As := vs) (rest := rest) ⟨hx, hb, hml, hown, hWs⟩ hM ⟨cb, hWs _ (p_word_in w2)⟩ hp rfl hna hl rfl (lv_room hcat) hd ⟨hcells, hslots⟩) (fun _ q => q.elim) (fun v' st₀ t h0 hq => ?_)
  obtain ⟨e1, e2⟩ := hq
  cases e1
  rw [e2, h0]
  exact W.eq (g2 := F0 m (pc + 3) ls (v.toList ++ rest)) rfl kk
end SC
set_option maxRecDepth 100000 in
theorem m_coder (l : Launch) (kS vS : Nat) : Met l i_coder.1 (p_ws i_coder) (k_rm 0 0 0) (va_Pc [.ref kS] (s_B kS vS)) (QcRead (0)) 0 0 (fun _ => False) := by
  refine s_open (M := i_coder) (by decide +kernel) (Nat.le_of_ble_eq_true rfl) ?_
  intro p e s m args below meth c ls cx hB hl
  obtain ⟨cb, hr, hlocks⟩ := cx
  obtain ⟨hx, hb, hml, hown, hWs⟩ := id cb
  have hS : va_S (fun _ => False) s.heap s.heap [] := va_S.rf
  obtain ⟨h1, h2, h3⟩ := id hB
  obtain ⟨o1, o2, o3, o4⟩ := h1.1 0 (by decide)
  refine va_gets hx hb h2 hS hown (hWs (.fieldLink RJ0 38 "java/lang/String" "COMPACT_STRINGS" "Z") (p_word_in (i := 281) (by decide +kernel))) (fun _ h => h) scoder_0 ?_
  refine lv_if_eq (tgt := 13) hx hb scoder_3 (by decide) (fun q => absurd q (by decide)) (fun _ => ?_)
  refine lv_aload_n hx hb scoder_6 rfl (lv_at hl 0 rfl) ?_
  refine vk_getf hx hb o2 hS hown (hWs (.fieldLink RJ0 15 "java/lang/String" "coder" "B") (p_word_in (i := 1241) (by decide +kernel))) (fun _ h => h) scoder_7 ?_
  refine lv_goto (tgt := 14) hx hb scoder_10 (by decide) ?_
  exact W.zret hx hb hr rfl (fun t ht hW => ⟨rfl, ht⟩) (fun q h => by cases h) scoder_14 hlocks
set_option maxRecDepth 100000 in
theorem m_latin (l : Launch) (kS vS : Nat) : Met l i_latin.1 (p_ws i_latin) (k_rm 0 0 0) (va_Pc [.ref kS] (s_B kS vS)) (QcRead (1)) 0 0 (fun _ => False) := by
  refine s_open (M := i_latin) (by decide +kernel) (Nat.le_of_ble_eq_true rfl) ?_
  intro p e s m args below meth c ls cx hB hl
  obtain ⟨cb, hr, hlocks⟩ := cx
  obtain ⟨hx, hb, hml, hown, hWs⟩ := id cb
  have hS : va_S (fun _ => False) s.heap s.heap [] := va_S.rf
  obtain ⟨h1, h2, h3⟩ := id hB
  obtain ⟨o1, o2, o3, o4⟩ := h1.1 0 (by decide)
  refine va_gets hx hb h2 hS hown (hWs (.fieldLink RJ0 38 "java/lang/String" "COMPACT_STRINGS" "Z") (p_word_in (i := 281) (by decide +kernel))) (fun _ h => h) slatin_0 ?_
  refine lv_if_eq (tgt := 17) hx hb slatin_3 (by decide) (fun q => absurd q (by decide)) (fun _ => ?_)
  refine lv_aload_n hx hb slatin_6 rfl (lv_at hl 0 rfl) ?_
  refine vk_getf hx hb o2 hS hown (hWs (.fieldLink RJ0 15 "java/lang/String" "coder" "B") (p_word_in (i := 1241) (by decide +kernel))) (fun _ h => h) slatin_7 ?_
  refine lv_if_ne (tgt := 17) hx hb slatin_10 (by decide) (fun q => absurd rfl q) (fun _ => ?_)
  refine lv_iconst (v := 1) hx hb slatin_13 (by decide) ?_
  refine lv_goto (tgt := 18) hx hb slatin_14 (by decide) ?_
  exact W.zret hx hb hr rfl (fun t ht hW => ⟨rfl, ht⟩) (fun q h => by cases h) slatin_18 hlocks
set_option maxRecDepth 100000 in
theorem m_length (l : Launch) (kS vS : Nat) : Met l i_length.1 (p_ws i_length) (k_rm 1 0 0) (va_Pc [.ref kS] (s_B kS vS)) (QcRead (69)) 0 0 (fun _ => False) := by
  refine s_open (M := i_length) (by decide +kernel) (Nat.le_of_ble_eq_true rfl) ?_
  intro p e s m args below meth c ls cx hB hl
  obtain ⟨cb, hr, hlocks⟩ := cx
  obtain ⟨hx, hb, hml, hown, hWs⟩ := id cb
  have hS : va_S (fun _ => False) s.heap s.heap [] := va_S.rf
  obtain ⟨h1, h2, h3⟩ := id hB
  obtain ⟨o1, o2, o3, o4⟩ := h1.1 0 (by decide)
  refine lv_aload_n hx hb slength_0 rfl (lv_at hl 0 rfl) ?_
  refine vk_getf hx hb o3 hS hown (hWs (.fieldLink RJ0 9 "java/lang/String" "value" "[B") (p_word_in (i := 1240) (by decide +kernel))) (fun _ h => h) slength_1 ?_
  refine va_tlen (v := 69) hx hb o4 hS rfl slength_4 ?_
  refine lv_aload_n hx hb slength_5 rfl (lv_at hl 0 rfl) ?_
  refine s_callV (na := 0) (vs := []) (Mi := i_coder) (fr := 0) (i0 := 280) (i1 := 277) (i2 := 278) (i3 := 71) (i4 := 279) cb hB hS (m_coder l kS vS) rfl (by decide +kernel) (by decide +kernel) (by decide +kernel) (by decide +kernel) (by decide +kernel) (by decide +kernel) ⟨(Nat.le_of_ble_eq_true rfl), (Nat.le_of_ble_eq_true rfl)⟩ rfl hl.1 (by decide) slength_6 (Nat.le_of_ble_eq_true rfl) (Nat.le_of_ble_eq_true rfl) ?_
  refine lv_ishr hx hb slength_9 ?_
  exact W.zret hx hb hr rfl (fun t ht hW => ⟨rfl, ht⟩) (fun q h => by cases h) slength_10 hlocks
set_option maxRecDepth 100000 in
theorem m_check3 (l : Launch) (kS vS : Nat) {i n : Int32} {fv : Value} (hf : fv = .null ∨ ∃ t, fv = .ref t) (h0 : ¬ i < 0) (hn : i < n) : Met l i_check3.1 (p_ws i_check3) (k_rm 0 0 0) (va_Pc [.int i, .int n, fv] (s_B kS vS)) (fun _ st o t => o = .returned (some (.int i)) ∧ t.heap = st.heap) 0 0 (fun _ => False) := by
  refine s_open (M := i_check3) (by decide +kernel) (by rcases hf with rfl | ⟨t, rfl⟩ <;> exact Nat.le_of_ble_eq_true rfl) ?_
  intro p e s m args below meth c ls cx hB hl
  obtain ⟨cb, hr, hlocks⟩ := cx
  obtain ⟨hx, hb, hml, hown, hWs⟩ := id cb
  have hS : va_S (fun _ => False) s.heap s.heap [] := va_S.rf
  obtain ⟨h1, h2, h3⟩ := id hB
  obtain ⟨o1, o2, o3, o4⟩ := h1.1 0 (by decide)
  refine lv_iload_n hx hb scheck3_0 rfl (lv_at hl 0 rfl) ?_
  refine lv_if_lt (tgt := 9) hx hb scheck3_1 (by decide) (fun q => absurd q h0) (fun _ => ?_)
  refine lv_iload_n hx hb scheck3_4 rfl (lv_at hl 0 rfl) ?_
  refine lv_iload_n hx hb scheck3_5 rfl (lv_at hl 1 rfl) ?_
  refine lv_icmp_lt (tgt := 16) hx hb scheck3_6 (by decide) (fun _ => ?_) (fun q => absurd hn q)
  refine lv_iload_n hx hb scheck3_16 rfl (lv_at hl 0 rfl) ?_
  exact W.zret hx hb hr rfl (fun t ht hW => ⟨rfl, ht⟩) (fun q h => by cases h) scheck3_17 hlocks
set_option maxRecDepth 100000 in
theorem m_check0 (l : Launch) (kS vS : Nat) {i n : Int32} (h0 : ¬ i < 0) (hn : i < n) : Met l i_check0.1 (p_ws i_check0) (k_rm 1 0 0) (va_Pc [.int i, .int n] (s_B kS vS)) (fun _ st o t => o = .returned none ∧ t.heap = st.heap) 0 0 (fun _ => False) := by
  refine s_open (M := i_check0) (by decide +kernel) (Nat.le_of_ble_eq_true rfl) ?_
  intro p e s m args below meth c ls cx hB hl
  obtain ⟨cb, hr, hlocks⟩ := cx
  obtain ⟨hx, hb, hml, hown, hWs⟩ := id cb
  have hS : va_S (fun _ => False) s.heap s.heap [] := va_S.rf
  obtain ⟨h1, h2, h3⟩ := id hB
  obtain ⟨o1, o2, o3, o4⟩ := h1.1 0 (by decide)
  have key : ∀ fv : Value, (fv = .null ∨ ∃ t, fv = .ref t) → va_Z "jdk/internal/util/Preconditions" "SIOOBE_FORMATTER" "Ljava/util/function/BiFunction;" fv (fun _ => False) s s.heap → W p l e (k_rm 1 0 0) s m args below meth c s.heap [] 0 0 (MQ below (fun _ st o t => o = .returned none ∧ t.heap = st.heap) args s 0 0 (fun _ => False)) (F0 m 0 ls []) := by
    intro fv hf hz
    refine lv_iload_n hx hb scheck0_0 rfl (lv_at hl 0 rfl) ?_
    refine lv_iload_n hx hb scheck0_1 rfl (lv_at hl 1 rfl) ?_
    refine va_gets hx hb hz hS hown (hWs (.fieldLink RJ0 1053 "jdk/internal/util/Preconditions" "SIOOBE_FORMATTER" "Ljava/util/function/BiFunction;") (p_word_in (i := 297) (by decide +kernel))) (fun _ h => h) scheck0_2 ?_
    refine s_callS (Qc := QcRead 0) (na := 3) (vs := [.int i, .int n, fv]) (rest := []) (Mi := i_check3) (fr := 0) (v := some (.int i)) (i0 := 301) (i1 := 299) (i2 := 300) (i3 := 73) cb hB hS (m_check3 l kS vS hf h0 hn) (by decide +kernel) (by decide +kernel) (by decide +kernel) (by decide +kernel) (by decide +kernel) ⟨(Nat.le_of_ble_eq_true rfl), (Nat.le_of_ble_eq_true rfl)⟩ rfl hl.1 (by decide) scheck0_5 (Nat.le_of_ble_eq_true rfl) (Nat.le_of_ble_eq_true rfl) ?_
    refine lv_pop hx hb scheck0_8 rfl ?_
    exact W.vret hx hb hr (fun t ht hW => ⟨rfl, ht⟩) (fun q h => by cases h) scheck0_9 hlocks
  rcases h3 with z | ⟨t, z⟩
  · exact key _ (Or.inl rfl) z
  · exact key _ (Or.inr ⟨t, rfl⟩) z
def s_ch (k : Nat) : Int32 := (s_by.getD k 0) &&& 255
set_option maxRecDepth 100000 in
theorem m_char1 (l : Launch) (kS vS : Nat) {k : Nat} (hk : k < 69) : Met l i_char1.1 (p_ws i_char1) (k_rm 2 0 0) (va_Pc [.ref vS, .int (nI k)] (s_B kS vS)) (fun _ st o t => o = .returned (some (.int (s_ch k))) ∧ t.heap = st.heap) 0 0 (fun _ => False) := by
  refine s_open (M := i_char1) (by decide +kernel) (Nat.le_of_ble_eq_true rfl) ?_
  intro p e s m args below meth c ls cx hB hl
  obtain ⟨cb, hr, hlocks⟩ := cx
  obtain ⟨hx, hb, hml, hown, hWs⟩ := id cb
  have hS : va_S (fun _ => False) s.heap s.heap [] := va_S.rf
  obtain ⟨h1, h2, h3⟩ := id hB
  obtain ⟨o1, o2, o3, o4⟩ := h1.1 0 (by decide)
  refine lv_iload_n hx hb schar1_0 rfl (lv_at hl 1 rfl) ?_
  refine lv_aload_n hx hb schar1_1 rfl (lv_at hl 0 rfl) ?_
  refine va_tlen (v := 69) hx hb o4 hS rfl schar1_2 ?_
  refine s_callS (Qc := QcRead 0) (na := 2) (vs := [.int (nI k), .int 69]) (rest := []) (Mi := i_check0) (fr := 1) (v := none) (i0 := 296) (i1 := 294) (i2 := 295) (i3 := 71) cb hB hS (m_check0 l kS vS (nI_pos (by omega)) (nI_lt (b := 69) hk (by decide))) (by decide +kernel) (by decide +kernel) (by decide +kernel) (by decide +kernel) (by decide +kernel) ⟨(Nat.le_of_ble_eq_true rfl), (Nat.le_of_ble_eq_true rfl)⟩ rfl hl.1 (by decide) schar1_3 (Nat.le_of_ble_eq_true rfl) (Nat.le_of_ble_eq_true rfl) ?_
  refine lv_aload_n hx hb schar1_6 rfl (lv_at hl 0 rfl) ?_
  refine lv_iload_n hx hb schar1_7 rfl (lv_at hl 1 rfl) ?_
  refine va_tb (v := .int (s_by.getD k 0)) hx hb o4 hS (vp_in_nI (N := 69) hk (by decide)) (by rw [nI_clamp (by omega)]; rfl) schar1_8 ?_
  refine lv_sipush (v := 255) hx hb schar1_9 (by decide) ?_
  refine lv_iand hx hb schar1_12 ?_
  refine lv_i2c (v := s_ch k) hx hb schar1_13 (sc_c2 _) ?_
  exact W.zret hx hb hr (sc_nar _) (fun t ht hW => ⟨rfl, ht⟩) (fun q h => by cases h) schar1_14 hlocks
set_option maxRecDepth 100000 in
theorem m_char0 (l : Launch) (kS vS : Nat) {k : Nat} (hk : k < 69) : Met l i_char0.1 (p_ws i_char0) (k_rm 3 0 0) (va_Pc [.ref kS, .int (nI k)] (s_B kS vS)) (QcRead (s_ch k)) 0 0 (fun _ => False) := by
  refine s_open (M := i_char0) (by decide +kernel) (Nat.le_of_ble_eq_true rfl) ?_
  intro p e s m args below meth c ls cx hB hl
  obtain ⟨cb, hr, hlocks⟩ := cx
  obtain ⟨hx, hb, hml, hown, hWs⟩ := id cb
  have hS : va_S (fun _ => False) s.heap s.heap [] := va_S.rf
  obtain ⟨h1, h2, h3⟩ := id hB
  obtain ⟨o1, o2, o3, o4⟩ := h1.1 0 (by decide)
  refine lv_aload_n hx hb schar0_0 rfl (lv_at hl 0 rfl) ?_
  refine s_callV (na := 0) (vs := []) (Mi := i_latin) (fr := 0) (i0 := 290) (i1 := 287) (i2 := 288) (i3 := 71) (i4 := 289) cb hB hS (m_latin l kS vS) rfl (by decide +kernel) (by decide +kernel) (by decide +kernel) (by decide +kernel) (by decide +kernel) (by decide +kernel) ⟨(Nat.le_of_ble_eq_true rfl), (Nat.le_of_ble_eq_true rfl)⟩ rfl hl.1 (by decide) schar0_1 (Nat.le_of_ble_eq_true rfl) (Nat.le_of_ble_eq_true rfl) ?_
  refine lv_if_eq (tgt := 16) hx hb schar0_4 (by decide) (fun q => absurd q (by decide)) (fun _ => ?_)
  refine lv_aload_n hx hb schar0_7 rfl (lv_at hl 0 rfl) ?_
  refine vk_getf hx hb o3 hS hown (hWs (.fieldLink RJ0 9 "java/lang/String" "value" "[B") (p_word_in (i := 1240) (by decide +kernel))) (fun _ h => h) schar0_8 ?_
  refine lv_iload_n hx hb schar0_11 rfl (lv_at hl 1 rfl) ?_
  refine s_callS (Qc := QcRead 0) (na := 2) (vs := [.ref vS, .int (nI k)]) (rest := []) (Mi := i_char1) (fr := 2) (v := some (.int (s_ch k))) (i0 := 293) (i1 := 291) (i2 := 292) (i3 := 72) cb hB hS (m_char1 l kS vS hk) (by decide +kernel) (by decide +kernel) (by decide +kernel) (by decide +kernel) (by decide +kernel) ⟨(Nat.le_of_ble_eq_true rfl), (Nat.le_of_ble_eq_true rfl)⟩ rfl hl.1 (by decide) schar0_12 (Nat.le_of_ble_eq_true rfl) (Nat.le_of_ble_eq_true rfl) ?_
  exact W.zret hx hb hr (sc_nar _) (fun t ht hW => ⟨rfl, ht⟩) (fun q h => by cases h) schar0_15 hlocks
