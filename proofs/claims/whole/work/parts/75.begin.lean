/-! the law's start (written by program: wip/whole/gen74.py) -/
theorem n_AOA {t : FieldType} {a : Array Value} {s : State} (h : (Cond.arrayOver (.array t)).before a s = true) : va_AOA t s := fun a' => by
  simp only [Cond.before, Cond.holds, Cond.value] at h ⊢
  exact h
theorem n_over {t : FieldType} {a : Array Value} {s : State} (h : (Cond.arrayOver (.array t)).before a s = true) : ∃ c k comp, s.vm.findClass ("[" ++ (FieldType.array t).toString) = some c ∧ s.vm.classes[c]? = some k ∧ k.kind = .array comp (.array t) := by
  simp only [Cond.before, Cond.holds, Cond.value, beq_iff_eq] at h
  obtain ⟨comp, -, h⟩ := Option.bind_eq_some_iff.mp h
  obtain ⟨c, -, h⟩ := Option.bind_eq_some_iff.mp h
  obtain ⟨k, hk, h⟩ := Option.map_eq_some_iff.mp h
  cases hkind : k.kind with
  | array cm ty =>
    rw [hkind] at h
    simp only [Bool.and_eq_true, decide_eq_true_eq] at h
    exact ⟨c, k, cm, h.2, hk, by rw [hkind, h.1]⟩
  | _ => rw [hkind] at h; cases h
theorem n_arr {t : FieldType} {s : State} {c : ClassId} {k : Class} {comp : ClassId} (h1 : s.vm.classes[c]? = some k) (h2 : k.kind = .array comp t) : ArrOfT s c t := fun n z => ⟨fun _ h => (by cases h), k, h1, comp, h2⟩
/-- the classes and the array classes, as the tables have them -/
theorem n_K {s : State} {a : Array Value} (hts : ∀ w ∈ lw_tbl, w.before a s = true) : ∃ (D : va_G) (kc : ClassId × ClassId × ClassId), va_K D k_cl (p_tys kc) s := by
  have hWs : ∀ w ∈ p_W, w.before a s = true := fun w h => hts w (List.mem_filter.mp h).1
  have h0 : ∀ c : Nat, ∃ x : ClassId × (Nat → Nat), ∀ q, k_cl[c]? = some q → u_Kn s q.1 q.2.1 q.2.2 x.1 x.2 := by
    intro c
    match c with
    | 0 =>
      obtain ⟨cC, iS, h⟩ := u_known (C := RX1) (T := TX1) (N := 2) (n := 2) hWs (p_Cs_ok 0 _ rfl).1 (hWs (.instantiable RX1 2) (p_word_in (i := 90) (by decide +kernel)))
      exact ⟨(cC, iS), fun q hq => by cases hq; exact h⟩
    | 1 =>
      obtain ⟨cC, iS, h⟩ := u_known (C := RX2) (T := TX2) (N := 7) (n := 7) hWs (p_Cs_ok 1 _ rfl).1 (hWs (.instantiable RX2 7) (p_word_in (i := 242) (by decide +kernel)))
      exact ⟨(cC, iS), fun q hq => by cases hq; exact h⟩
    | 2 =>
      obtain ⟨cC, iS, h⟩ := u_known (C := RX3) (T := TX3) (N := 8) (n := 8) hWs (p_Cs_ok 2 _ rfl).1 (hWs (.instantiable RX3 8) (p_word_in (i := 167) (by decide +kernel)))
      exact ⟨(cC, iS), fun q hq => by cases hq; exact h⟩
    | 3 =>
      obtain ⟨cC, iS, h⟩ := u_known (C := RX4) (T := TX4) (N := 5) (n := 5) hWs (p_Cs_ok 3 _ rfl).1 (hWs (.instantiable RX4 5) (p_word_in (i := 198) (by decide +kernel)))
      exact ⟨(cC, iS), fun q hq => by cases hq; exact h⟩
    | 4 =>
      obtain ⟨cC, iS, h⟩ := u_known (C := RX5) (T := TX5) (N := 5) (n := 5) hWs (p_Cs_ok 4 _ rfl).1 (hWs (.instantiable RX5 5) (p_word_in (i := 220) (by decide +kernel)))
      exact ⟨(cC, iS), fun q hq => by cases hq; exact h⟩
    | 5 =>
      obtain ⟨cC, iS, h⟩ := u_known (C := RX6) (T := TX6) (N := 5) (n := 5) hWs (p_Cs_ok 5 _ rfl).1 (hWs (.instantiable RX6 5) (p_word_in (i := 120) (by decide +kernel)))
      exact ⟨(cC, iS), fun q hq => by cases hq; exact h⟩
    | 6 =>
      obtain ⟨cC, iS, h⟩ := u_known (C := RX7) (T := TX7) (N := 6) (n := 6) hWs (p_Cs_ok 6 _ rfl).1 (hWs (.instantiable RX7 6) (p_word_in (i := 142) (by decide +kernel)))
      exact ⟨(cC, iS), fun q hq => by cases hq; exact h⟩
    | 7 =>
      obtain ⟨cC, iS, h⟩ := u_known (C := RX8) (T := TX8) (N := 3) (n := 3) hWs (p_Cs_ok 7 _ rfl).1 (hWs (.instantiable RX8 3) (p_word_in (i := 104) (by decide +kernel)))
      exact ⟨(cC, iS), fun q hq => by cases hq; exact h⟩
    | 8 =>
      obtain ⟨cC, iS, h⟩ := u_known (C := RX9) (T := TX9) (N := 14) (n := 14) hWs (p_Cs_ok 8 _ rfl).1 (hWs (.instantiable RX9 14) (p_word_in (i := 82) (by decide +kernel)))
      exact ⟨(cC, iS), fun q hq => by cases hq; exact h⟩
    | 9 =>
      obtain ⟨cC, iS, h⟩ := u_known (C := RX10) (T := TX10) (N := 27) (n := 27) hWs (p_Cs_ok 9 _ rfl).1 (hWs (.instantiable RX10 27) (p_word_in (i := 894) (by decide +kernel)))
      exact ⟨(cC, iS), fun q hq => by cases hq; exact h⟩
    | c + 10 => exact ⟨(0, fun _ => 0), fun q hq => by simp [p_Cs] at hq⟩
  obtain ⟨f, hf⟩ := Classical.axiomOfChoice h0
  obtain ⟨cI, kI, mI, i1, i2, i3⟩ := Cond.arrayClass_spec (hWs (.arrayClass .int) (p_word_in (i := 102) (by decide +kernel)))
  obtain ⟨cJ, kJ, mJ, j1, j2, j3⟩ := Cond.arrayClass_spec (hWs (.arrayClass .long) (p_word_in (i := 271) (by decide +kernel)))
  obtain ⟨cA, kA, mA, a1, a2, a3⟩ := n_over (hts (.arrayOver (.array .long)) (List.mem_of_getElem? (i := 248) (by decide +kernel)))
  refine ⟨(fun c => (f c).1, fun c => (f c).2), (cI, cJ, cA), fun c q hq => hf c q hq, fun k q hq => ?_⟩
  match k with
  | 0 => cases hq; exact ⟨n_arr i2 i3, i1⟩
  | 1 => cases hq; exact ⟨n_arr j2 j3, j1⟩
  | 2 => cases hq; exact ⟨n_arr a2 a3, a1⟩
  | k + 3 => simp [p_tys] at hq
theorem n_el : ∀ j, j < 69 → Cond.eq (.elem (.field (.string "LabelTree" 79) "java/lang/String" "value" "[B") (.int (Int32.ofNat j))) (.int (s_by.getD j 0)) ∈ flatC (Jvm.Cond.and given_1 narrow_1) := by decide +kernel
theorem n_str {s : State} {a : Array Value} (hts : ∀ w ∈ lw_tbl, w.before a s = true) (hgv : (Jvm.Cond.and given_1 narrow_1).before a s = true) : ∃ kS vS, s_st (fun q : Nat => s.heap.size ≤ q) kS vS s s.heap ∧ vk_R "LabelTree" 79 s_lit kS s := by
  have hs := flat_of_before _ hgv
  have hA0 : ∀ a : Nat, a < s.heap.size → ¬ (fun q : Nat => s.heap.size ≤ q) a := fun a h => Nat.not_le.mpr h
  obtain ⟨adK, adV, h1, h2⟩ := vk_Sof (args := a) (s := s) (N := 1) (tm := fun _ => (.string "LabelTree" 79)) (len := [69]) (byt := [s_by]) (A := fun q : Nat => s.heap.size ≤ q) (fun i hi => by rw [show i = 0 by omega]; decide) (fun i _ => hs _ (by decide +kernel)) (fun i _ => hs _ (by decide +kernel)) (fun i _ => hs _ (by decide +kernel)) (fun i hi => by rw [show i = 0 by omega]; exact hs (Cond.eq (.length (.field (.string "LabelTree" 79) "java/lang/String" "value" "[B")) (.int 69)) (by decide +kernel)) (fun i hi j hj => by
      have e : i = 0 := by omega
      subst e
      exact hs _ (n_el j hj)) (fun i j hi hj hij => by omega) hA0
  have e0 := h2 0 (by decide)
  have hz := va_Zof (A := fun q : Nat => s.heap.size ≤ q) (hts (.laysStatic "java/lang/String" "COMPACT_STRINGS" "Z") (List.mem_of_getElem? (i := 282) (by decide +kernel))) (hts (.initialized "java/lang/String") (List.mem_of_getElem? (i := 71) (by decide +kernel))) (va_eqi (hs (Cond.eq (.static "java/lang/String" "COMPACT_STRINGS" "Z") (.int 1)) (by decide +kernel))) hA0
  have hq := va_Zqof (A := fun q : Nat => s.heap.size ≤ q) (hts (.laysStatic "jdk/internal/util/Preconditions" "SIOOBE_FORMATTER" "Ljava/util/function/BiFunction;") (List.mem_of_getElem? (i := 298) (by decide +kernel))) (hts (.initialized "jdk/internal/util/Preconditions") (List.mem_of_getElem? (i := 73) (by decide +kernel))) (hs (Cond.isRef (.static "jdk/internal/util/Preconditions" "SIOOBE_FORMATTER" "Ljava/util/function/BiFunction;")) (by decide +kernel)) hA0
  refine ⟨adK 0, adV 0, ⟨⟨fun i hi => ?_, fun i j hi hj _ => by omega⟩, hz, hq⟩, vk_R.of (A := a) (hts (.stringRef "LabelTree" 79 s_lit) (List.mem_of_getElem? (i := 272) (by decide +kernel))) e0⟩
  have e : i = 0 := by omega
  subst e
  exact h1.1 0 (by decide)
set_option maxRecDepth 100000 in
set_option maxHeartbeats 4000000 in
theorem whole_start {p : Program} {e : Env} {s : State} {m : MethodId} {below : List Frame} {meth : Method} {c : Code} (l : Launch) (hflags : l.flags = flags0) {b L : Nat} {xs : Nat → Int32} (hL : L ≤ 2048) (C0 : lw_At p s m meth c b L xs) : W p l e room_1 s m #[Value.ref b] below meth c s.heap [] 0 0 (lw_Z below #[Value.ref b] s) (entryFrame m ([Value.ref b] : List Value).toArray 4) := by
  obtain ⟨hx, hb, hr, hml, hown, hts, hX, hbl, hlocks, hgv⟩ := id C0
  have hWs : ∀ w ∈ p_W, w.before #[Value.ref b] s = true := fun w h => hts w (List.mem_filter.mp h).1
  have hA : ∀ q : Nat, s.heap.size ≤ q → (fun q : Nat => s.heap.size ≤ q) q := fun _ h => h
  have hbA : ¬ (fun q : Nat => s.heap.size ≤ q) b := Nat.not_le.mpr hbl
  obtain ⟨D, kc, hK⟩ := n_K hts
  obtain ⟨kS, vS, hst, hvk⟩ := n_str hts hgv
  have hO : va_AOA .long s := n_AOA (hts (.arrayOver (.array .long)) (List.mem_of_getElem? (i := 248) (by decide +kernel)))
  have hN : p_nest s := fun w hw hn => by
    have h1 := hts w hw
    cases w <;> first | (simp [p_isNest] at hn; done) | exact va_Nw.of rfl h1
  have gx : g_Cx p s m #[Value.ref b] c R_law code 4 D kc := ⟨⟨hx, hb, hml, hown, hWs⟩, hK, hN, hO⟩
  have hS : va_S (fun q : Nat => s.heap.size ≤ q) s.heap s.heap [] := va_S.rf
  have hP : va_P D k_cl [] s.heap := fun k q h => by simp at h
  have hD : va_D (fun q : Nat => s.heap.size ≤ q) [] := ⟨fun i j p q h => by simp at h, fun k q h => by simp at h⟩
  have hl := lv_entry ([.ref b]) (n := 4) (Nat.le_of_ble_eq_true rfl)
  rw [lg_entry_eq]
  generalize (lg_sl ([.ref b]) ++ List.replicate (4 - (lg_sl ([.ref b])).length) Slot.unset).toArray = ls at hl ⊢
  have hl : lv_has ls 4 [(0, .ref b)] := hl
  refine g_new gx (ci := 8) (i1 := 81) (i2 := 82) (i3 := 62) (zs := [.null, .null, .null, .null, .null, .null, .null, .null, .null, .int 0, .null, .null, .null, .int 0]) (rest := []) hP hD hS hA rfl (by decide +kernel) (by decide +kernel) (by decide +kernel) (fun j hj => by rcases (show j = 0 ∨ j = 1 ∨ j = 2 ∨ j = 3 ∨ j = 4 ∨ j = 5 ∨ j = 6 ∨ j = 7 ∨ j = 8 ∨ j = 9 ∨ j = 10 ∨ j = 11 ∨ j = 12 ∨ j = 13 by omega) with rfl | rfl | rfl | rfl | rfl | rfl | rfl | rfl | rfl | rfl | rfl | rfl | rfl | rfl <;> rfl) (Nat.le_of_ble_eq_true rfl) (Nat.le_of_ble_eq_true rfl) dlw_0 dlw_3 (fun q1 H hP hD hS => ?_)
  have hP : va_P D k_cl ([] ++ zX9 q1) H := hP
  have hD : va_D (fun q : Nat => s.heap.size ≤ q) ([] ++ zX9 q1) := hD
  have hpre : PreS s H (va_Pc [.ref q1] (x_B D kc (zX9 q1) H.size kS vS)) [.ref q1] := ⟨x_blind, fun U hU hW => by
    obtain ⟨z1, z2⟩ := (g_pre (vs := [.ref q1]) gx hP hD).2 U hU hW
    refine ⟨z1, z2, ?_, vk_R.warm hW hvk⟩
    rw [hU]
    refine s_st.moved hW.alike ((hst.kept hS.2.1).narrow (fun x hx => ?_))
    rcases hx with ⟨k, e, hk⟩ | hx
    · exact hD.2 k (x, e) hk
    · exact Nat.le_trans hS.1 hx⟩
  refine g_ctor gx (Mi := iX9) (fr := 8) (mc := 72) (ms := 1435) (na := 0) (i0 := 85) (i1 := 83) (i2 := 84) (i3 := 62) (vs := []) (rest := [.ref q1]) (ws0 := []) (wc := zX9 q1) (w := fun u : (Nat → Nat) × pH => p_wm kc u.1 73 u.2) (post := fun u => x_post u ∧ u.1 0 = q1) (cX9_new l D kc q1 H.size kS vS) hpre rfl (by decide +kernel) (by decide +kernel) (by decide +kernel) (by decide +kernel) (by decide +kernel) rfl ⟨(Nat.le_of_ble_eq_true rfl), (Nat.le_of_ble_eq_true rfl)⟩ rfl hl.1 (Nat.le_of_ble_eq_true rfl) dlw_4 (Nat.le_of_ble_eq_true rfl) (Nat.le_of_ble_eq_true rfl) hP hD hS hA (fun u H locs hpo hP hD hS => ?_)
  obtain ⟨ad, h7⟩ := u
  obtain ⟨hxp, ea⟩ := hpo
  have ea : ad 0 = q1 := ea
  have hP : va_P D k_cl (p_wm kc ad 73 h7) H := hP
  have hD : va_D (fun q : Nat => s.heap.size ≤ q) (p_wm kc ad 73 h7) := hD
  refine lv_astore_n (lv' := [(1, .ref q1), (0, .ref b)]) hx hb dlw_7 rfl hl (by decide) rfl (fun ls hl => ?_)
  refine va_forget (fun x hx => hS.2.2 x hx) ?_
  have hS : va_S (fun q : Nat => s.heap.size ≤ q) s.heap H [] := ⟨hS.1, hS.2.1, fun x hx => absurd hx List.not_mem_nil⟩
  refine g_new gx (ci := 9) (i1 := 893) (i2 := 894) (i3 := 77) (zs := z_m) (rest := []) hP hD hS hA rfl (by decide +kernel) (by decide +kernel) (by decide +kernel) (fun j hj => by rcases (show j = 0 ∨ j = 1 ∨ j = 2 ∨ j = 3 ∨ j = 4 ∨ j = 5 ∨ j = 6 ∨ j = 7 ∨ j = 8 ∨ j = 9 ∨ j = 10 ∨ j = 11 ∨ j = 12 ∨ j = 13 ∨ j = 14 ∨ j = 15 ∨ j = 16 ∨ j = 17 ∨ j = 18 ∨ j = 19 ∨ j = 20 ∨ j = 21 ∨ j = 22 ∨ j = 23 ∨ j = 24 ∨ j = 25 ∨ j = 26 by omega) with rfl | rfl | rfl | rfl | rfl | rfl | rfl | rfl | rfl | rfl | rfl | rfl | rfl | rfl | rfl | rfl | rfl | rfl | rfl | rfl | rfl | rfl | rfl | rfl | rfl | rfl | rfl <;> rfl) (Nat.le_of_ble_eq_true rfl) (Nat.le_of_ble_eq_true rfl) dlw_8 dlw_11 (fun q2 H hP hD hS => ?_)
  have hP : va_P D k_cl ([] ++ ((q2, .inr (9, z_m)) :: p_wm kc ad 73 h7)) H := va_P.swap (a := []) (b := p_wm kc ad 73 h7) (c := [(q2, .inr (9, z_m))]) hP
  have hD : va_D (fun q : Nat => s.heap.size ≤ q) ([] ++ ((q2, .inr (9, z_m)) :: p_wm kc ad 73 h7)) := va_D.swap (a := []) (b := p_wm kc ad 73 h7) (c := [(q2, .inr (9, z_m))]) hD
  refine g_ctor gx (Mi := iX10) (fr := 6) (mc := 15) (ms := 1347) (na := 0) (i0 := 897) (i1 := 895) (i2 := 896) (i3 := 77) (vs := []) (rest := [.ref q2]) (ws0 := []) (wc := (q2, .inr (9, z_m)) :: p_wm kc ad 73 h7) (w := fun u : (Nat → Nat) × pH => p_wm kc u.1 89 u.2) (post := fun u => PI u.2 ∧ u.1 0 = ad 0 ∧ u.1 73 = q2) (cX10_new l D kc q2 H.size ad h7 hxp) (g_pre gx hP hD) rfl (by decide +kernel) (by decide +kernel) (by decide +kernel) (by decide +kernel) (by decide +kernel) rfl ⟨(Nat.le_of_ble_eq_true rfl), (Nat.le_of_ble_eq_true rfl)⟩ rfl hl.1 (Nat.le_of_ble_eq_true rfl) dlw_12 (Nat.le_of_ble_eq_true rfl) (Nat.le_of_ble_eq_true rfl) hP hD hS hA (fun u H locs hpo hP hD hS => ?_)
  obtain ⟨ae, h9⟩ := u
  obtain ⟨hPI, e1, e2⟩ := hpo
  have e1 : ae 0 = q1 := e1.trans ea
  have e2 : ae 73 = q2 := e2
  have hP : va_P D k_cl (p_wm kc ae 89 h9) H := hP
  have hD : va_D (fun q : Nat => s.heap.size ≤ q) (p_wm kc ae 89 h9) := hD
  obtain ⟨inj, hAd⟩ := p_wm_inj hD
  refine lv_astore_n (lv' := [(2, .ref q2), (1, .ref q1), (0, .ref b)]) hx hb dlw_15 rfl hl (by decide) rfl (fun ls hl => ?_)
  refine lv_iconst (v := 0) hx hb dlw_16 (by decide) ?_
  refine lv_istore_n (lv' := [(3, .int 0), (2, .ref q2), (1, .ref q1), (0, .ref b)]) hx hb dlw_17 rfl hl (by decide) rfl (fun ls hl => ?_)
  rw [← e1, ← e2] at hl
  refine va_forget (fun x hx => hS.2.2 x hx) ?_
  refine W.widen (k := 600000) (n := 7302250) (Nat.le_of_ble_eq_true rfl) (Nat.le_of_ble_eq_true rfl) ?_
  exact law_loop hL ⟨hx, hb, hml, hown, hts, hX, hbl, hbA, inj, hAd, hK, hN⟩ hr hlocks (L + 1) 0 0 rfl (by decide) (by omega) h9 H ls hPI hP ⟨hS.1, hS.2.1, fun x hx => absurd hx List.not_mem_nil⟩ (lv_sub hl [3, 2, 1, 0] rfl)
