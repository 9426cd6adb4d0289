/-! THE LAW'S LOOP (written by program: wip/whole/gen61.py) -/
set_option maxRecDepth 100000 in
theorem lc_write {p : Program} {l : Launch} {e : Env} {s : State} {m : MethodId} {below : List Frame} {meth : Method} {c : Code} {D : va_G} {kc : ClassId × ClassId × ClassId} {b L i : Nat} {xs : Nat → Int32} {ad : Nat → Nat} {h : pH} {H : Heap} {ls : Array Slot} {Q : State → Prop} (cx : lw_Cx p s m meth c D kc b L xs ad) (hi : i + 4 ≤ L) (hL : L ≤ 2048) (hPI : PI h) (hP : va_P D (p_Cs.map Prod.fst) (p_wm kc ad pN h) H) (hS : va_S (fun q : Nat => s.heap.size ≤ q) s.heap H []) (hl : lv_has ls 4 (lw_lv b ad i))
    (kk : ∀ (h1 : pH) (H1 : Heap), PI h1 → va_P D (p_Cs.map Prod.fst) (p_wm kc ad pN h1) H1 → va_S (fun q : Nat => s.heap.size ≤ q) s.heap H1 [] → W p l e room_1 s m #[Value.ref b] below meth c H1 [] 600000 7302250 Q (F0 m 785 ls [])) : W p l e room_1 s m #[Value.ref b] below meth c H [] 600000 7302250 Q (F0 m 148 ls []) := by
  obtain ⟨hx, hb, hml, hown, hts, hX, hbl, hbA, inj, hAd, hK, hN⟩ := id cx
  obtain ⟨fs0, hh0⟩ := hPI.x
  refine lv_aload_n hx hb dlw_148 rfl (lv_at hl 1 rfl) ?_
  refine lw_arg cx (k := 1) (by decide) (by omega) hL hS hl dlw_149 dlw_150 dlw_151 dlw_152 dlw_153 ?_
  refine lw_call cx (M' := mX9_write) (na := 1) (ci := 8) (q := 0) (vs := [.int (xs (i + 1))]) (rest := []) (List.mem_of_getElem? (i := 86) rfl) dlw_154 (by decide +kernel) (i1 := 513) (by decide +kernel) (i2 := 514) (by decide +kernel) (i3 := 515) (by decide +kernel) (i4 := 62) (by decide +kernel) rfl rfl (by decide) hh0 rfl (Nat.le_of_ble_eq_true rfl) (Nat.le_of_ble_eq_true rfl) (C_write hPI (xs (i + 1))) hP hS hl.1 (fun r1 h1 H1 q1 hP hS => ?_)
  obtain ⟨M, z, xM, rfl, ev2⟩ := q1
  refine lv_aload_n hx hb dlw_157 rfl (lv_at hl 2 rfl) ?_
  refine lw_arg cx (k := 1) (by decide) (by omega) hL hS hl dlw_158 dlw_159 dlw_160 dlw_161 dlw_162 ?_
  refine lw_call cx (M' := mX10_write) (na := 1) (ci := 9) (q := 73) (vs := [.int (xs (i + 1))]) (rest := [.int z]) (List.mem_of_getElem? (i := 156) rfl) dlw_163 (by decide +kernel) (i1 := 1120) (by decide +kernel) (i2 := 1121) (by decide +kernel) (i3 := 1122) (by decide +kernel) (i4 := 77) (by decide +kernel) rfl rfl (by decide) xM.1 rfl (Nat.le_of_ble_eq_true rfl) (Nat.le_of_ble_eq_true rfl) ev2 hP hS hl.1 (fun r2 h2 H2 q2 hP hS => ?_)
  obtain ⟨rfl, hPI2⟩ := q2
  refine lv_icmp_eq (tgt := 785) hx hb dlw_166 (by decide) (fun _ => ?_) (fun cz => ?_)
  · exact kk h2 H2 hPI2 hP hS
  · exact absurd rfl cz
set_option maxRecDepth 100000 in
theorem lc_wipe {p : Program} {l : Launch} {e : Env} {s : State} {m : MethodId} {below : List Frame} {meth : Method} {c : Code} {D : va_G} {kc : ClassId × ClassId × ClassId} {b L i : Nat} {xs : Nat → Int32} {ad : Nat → Nat} {h : pH} {H : Heap} {ls : Array Slot} {Q : State → Prop} (cx : lw_Cx p s m meth c D kc b L xs ad) (hi : i + 4 ≤ L) (hL : L ≤ 2048) (hPI : PI h) (hP : va_P D (p_Cs.map Prod.fst) (p_wm kc ad pN h) H) (hS : va_S (fun q : Nat => s.heap.size ≤ q) s.heap H []) (hl : lv_has ls 4 (lw_lv b ad i))
    (kk : ∀ (h1 : pH) (H1 : Heap), PI h1 → va_P D (p_Cs.map Prod.fst) (p_wm kc ad pN h1) H1 → va_S (fun q : Nat => s.heap.size ≤ q) s.heap H1 [] → W p l e room_1 s m #[Value.ref b] below meth c H1 [] 600000 7302250 Q (F0 m 785 ls [])) : W p l e room_1 s m #[Value.ref b] below meth c H [] 600000 7302250 Q (F0 m 171 ls []) := by
  obtain ⟨hx, hb, hml, hown, hts, hX, hbl, hbA, inj, hAd, hK, hN⟩ := id cx
  obtain ⟨fs0, hh0⟩ := hPI.x
  refine lv_aload_n hx hb dlw_171 rfl (lv_at hl 1 rfl) ?_
  refine lw_call cx (M' := mX9_wipe) (na := 0) (ci := 8) (q := 0) (vs := []) (rest := []) (List.mem_of_getElem? (i := 87) rfl) dlw_172 (by decide +kernel) (i1 := 522) (by decide +kernel) (i2 := 523) (by decide +kernel) (i3 := 524) (by decide +kernel) (i4 := 62) (by decide +kernel) rfl rfl (by decide) hh0 rfl (Nat.le_of_ble_eq_true rfl) (Nat.le_of_ble_eq_true rfl) (C_wipe hPI) hP hS hl.1 (fun r1 h1 H1 q1 hP hS => ?_)
  obtain ⟨M, z, xM, rfl, ev2⟩ := q1
  refine lv_aload_n hx hb dlw_175 rfl (lv_at hl 2 rfl) ?_
  refine lw_call cx (M' := mX10_wipe) (na := 0) (ci := 9) (q := 73) (vs := []) (rest := [.int z]) (List.mem_of_getElem? (i := 157) rfl) dlw_176 (by decide +kernel) (i1 := 1124) (by decide +kernel) (i2 := 1125) (by decide +kernel) (i3 := 1126) (by decide +kernel) (i4 := 77) (by decide +kernel) rfl rfl (by decide) xM.1 rfl (Nat.le_of_ble_eq_true rfl) (Nat.le_of_ble_eq_true rfl) ev2 hP hS hl.1 (fun r2 h2 H2 q2 hP hS => ?_)
  obtain ⟨rfl, hPI2⟩ := q2
  refine lv_icmp_eq (tgt := 785) hx hb dlw_179 (by decide) (fun _ => ?_) (fun cz => ?_)
  · exact kk h2 H2 hPI2 hP hS
  · exact absurd rfl cz
set_option maxRecDepth 100000 in
theorem lc_fault {p : Program} {l : Launch} {e : Env} {s : State} {m : MethodId} {below : List Frame} {meth : Method} {c : Code} {D : va_G} {kc : ClassId × ClassId × ClassId} {b L i : Nat} {xs : Nat → Int32} {ad : Nat → Nat} {h : pH} {H : Heap} {ls : Array Slot} {Q : State → Prop} (cx : lw_Cx p s m meth c D kc b L xs ad) (hi : i + 4 ≤ L) (hL : L ≤ 2048) (hPI : PI h) (hP : va_P D (p_Cs.map Prod.fst) (p_wm kc ad pN h) H) (hS : va_S (fun q : Nat => s.heap.size ≤ q) s.heap H []) (hl : lv_has ls 4 (lw_lv b ad i))
    (kk : ∀ (h1 : pH) (H1 : Heap), PI h1 → va_P D (p_Cs.map Prod.fst) (p_wm kc ad pN h1) H1 → va_S (fun q : Nat => s.heap.size ≤ q) s.heap H1 [] → W p l e room_1 s m #[Value.ref b] below meth c H1 [] 600000 7302250 Q (F0 m 785 ls [])) : W p l e room_1 s m #[Value.ref b] below meth c H [] 600000 7302250 Q (F0 m 184 ls []) := by
  obtain ⟨hx, hb, hml, hown, hts, hX, hbl, hbA, inj, hAd, hK, hN⟩ := id cx
  obtain ⟨fs0, hh0⟩ := hPI.x
  refine lv_aload_n hx hb dlw_184 rfl (lv_at hl 1 rfl) ?_
  refine lw_call cx (M' := mX9_fault) (na := 0) (ci := 8) (q := 0) (vs := []) (rest := []) (List.mem_of_getElem? (i := 88) rfl) dlw_185 (by decide +kernel) (i1 := 526) (by decide +kernel) (i2 := 527) (by decide +kernel) (i3 := 528) (by decide +kernel) (i4 := 62) (by decide +kernel) rfl rfl (by decide) hh0 rfl (Nat.le_of_ble_eq_true rfl) (Nat.le_of_ble_eq_true rfl) (C_fault hPI) hP hS hl.1 (fun r1 h1 H1 q1 hP hS => ?_)
  obtain ⟨M, z, xM, rfl, ev2⟩ := q1
  refine lv_aload_n hx hb dlw_188 rfl (lv_at hl 2 rfl) ?_
  refine lw_call cx (M' := mX10_fault) (na := 0) (ci := 9) (q := 73) (vs := []) (rest := [.int z]) (List.mem_of_getElem? (i := 166) rfl) dlw_189 (by decide +kernel) (i1 := 1128) (by decide +kernel) (i2 := 1129) (by decide +kernel) (i3 := 1130) (by decide +kernel) (i4 := 77) (by decide +kernel) rfl rfl (by decide) xM.1 rfl (Nat.le_of_ble_eq_true rfl) (Nat.le_of_ble_eq_true rfl) ev2 hP hS hl.1 (fun r2 h2 H2 q2 hP hS => ?_)
  obtain ⟨rfl, hPI2⟩ := q2
  refine lv_icmp_eq (tgt := 785) hx hb dlw_192 (by decide) (fun _ => ?_) (fun cz => ?_)
  · exact kk h2 H2 hPI2 hP hS
  · exact absurd rfl cz
set_option maxRecDepth 100000 in
theorem lc_lay {p : Program} {l : Launch} {e : Env} {s : State} {m : MethodId} {below : List Frame} {meth : Method} {c : Code} {D : va_G} {kc : ClassId × ClassId × ClassId} {b L i : Nat} {xs : Nat → Int32} {ad : Nat → Nat} {h : pH} {H : Heap} {ls : Array Slot} {Q : State → Prop} (cx : lw_Cx p s m meth c D kc b L xs ad) (hi : i + 4 ≤ L) (hL : L ≤ 2048) (hPI : PI h) (hP : va_P D (p_Cs.map Prod.fst) (p_wm kc ad pN h) H) (hS : va_S (fun q : Nat => s.heap.size ≤ q) s.heap H []) (hl : lv_has ls 4 (lw_lv b ad i))
    (kk : ∀ (h1 : pH) (H1 : Heap), PI h1 → va_P D (p_Cs.map Prod.fst) (p_wm kc ad pN h1) H1 → va_S (fun q : Nat => s.heap.size ≤ q) s.heap H1 [] → W p l e room_1 s m #[Value.ref b] below meth c H1 [] 600000 7302250 Q (F0 m 785 ls [])) : W p l e room_1 s m #[Value.ref b] below meth c H [] 600000 7302250 Q (F0 m 197 ls []) := by
  obtain ⟨hx, hb, hml, hown, hts, hX, hbl, hbA, inj, hAd, hK, hN⟩ := id cx
  obtain ⟨fs0, hh0⟩ := hPI.x
  refine lv_aload_n hx hb dlw_197 rfl (lv_at hl 1 rfl) ?_
  refine lw_call cx (M' := mX9_lay) (na := 0) (ci := 8) (q := 0) (vs := []) (rest := []) (List.mem_of_getElem? (i := 89) rfl) dlw_198 (by decide +kernel) (i1 := 530) (by decide +kernel) (i2 := 531) (by decide +kernel) (i3 := 532) (by decide +kernel) (i4 := 62) (by decide +kernel) rfl rfl (by decide) hh0 rfl (Nat.le_of_ble_eq_true rfl) (Nat.le_of_ble_eq_true rfl) (C_lay hPI) hP hS hl.1 (fun r1 h1 H1 q1 hP hS => ?_)
  obtain ⟨M, z, xM, rfl, ev2⟩ := q1
  refine lv_aload_n hx hb dlw_201 rfl (lv_at hl 2 rfl) ?_
  refine lw_call cx (M' := mX10_lay) (na := 0) (ci := 9) (q := 73) (vs := []) (rest := [.int z]) (List.mem_of_getElem? (i := 168) rfl) dlw_202 (by decide +kernel) (i1 := 1164) (by decide +kernel) (i2 := 1165) (by decide +kernel) (i3 := 1166) (by decide +kernel) (i4 := 77) (by decide +kernel) rfl rfl (by decide) xM.1 rfl (Nat.le_of_ble_eq_true rfl) (Nat.le_of_ble_eq_true rfl) ev2 hP hS hl.1 (fun r2 h2 H2 q2 hP hS => ?_)
  obtain ⟨rfl, hPI2⟩ := q2
  refine lv_icmp_eq (tgt := 785) hx hb dlw_205 (by decide) (fun _ => ?_) (fun cz => ?_)
  · exact kk h2 H2 hPI2 hP hS
  · exact absurd rfl cz
set_option maxRecDepth 100000 in
theorem lc_node {p : Program} {l : Launch} {e : Env} {s : State} {m : MethodId} {below : List Frame} {meth : Method} {c : Code} {D : va_G} {kc : ClassId × ClassId × ClassId} {b L i : Nat} {xs : Nat → Int32} {ad : Nat → Nat} {h : pH} {H : Heap} {ls : Array Slot} {Q : State → Prop} (cx : lw_Cx p s m meth c D kc b L xs ad) (hi : i + 4 ≤ L) (hL : L ≤ 2048) (hPI : PI h) (hP : va_P D (p_Cs.map Prod.fst) (p_wm kc ad pN h) H) (hS : va_S (fun q : Nat => s.heap.size ≤ q) s.heap H []) (hl : lv_has ls 4 (lw_lv b ad i))
    (kk : ∀ (h1 : pH) (H1 : Heap), PI h1 → va_P D (p_Cs.map Prod.fst) (p_wm kc ad pN h1) H1 → va_S (fun q : Nat => s.heap.size ≤ q) s.heap H1 [] → W p l e room_1 s m #[Value.ref b] below meth c H1 [] 600000 7302250 Q (F0 m 785 ls [])) : W p l e room_1 s m #[Value.ref b] below meth c H [] 600000 7302250 Q (F0 m 210 ls []) := by
  obtain ⟨hx, hb, hml, hown, hts, hX, hbl, hbA, inj, hAd, hK, hN⟩ := id cx
  obtain ⟨fs0, hh0⟩ := hPI.x
  refine lv_aload_n hx hb dlw_210 rfl (lv_at hl 1 rfl) ?_
  refine lw_arg cx (k := 1) (by decide) (by omega) hL hS hl dlw_211 dlw_212 dlw_213 dlw_214 dlw_215 ?_
  refine lw_arg cx (k := 2) (by decide) (by omega) hL hS hl dlw_216 dlw_217 dlw_218 dlw_219 dlw_220 ?_
  refine lw_call cx (M' := mX9_node) (na := 2) (ci := 8) (q := 0) (vs := [.int (xs (i + 1)), .int (xs (i + 2))]) (rest := []) (List.mem_of_getElem? (i := 90) rfl) dlw_221 (by decide +kernel) (i1 := 554) (by decide +kernel) (i2 := 555) (by decide +kernel) (i3 := 556) (by decide +kernel) (i4 := 62) (by decide +kernel) rfl rfl (by decide) hh0 rfl (Nat.le_of_ble_eq_true rfl) (Nat.le_of_ble_eq_true rfl) (C_node hPI (xs (i + 1)) (xs (i + 2))) hP hS hl.1 (fun r1 h1 H1 q1 hP hS => ?_)
  obtain ⟨M, z, xM, rfl, ev2⟩ := q1
  refine lv_aload_n hx hb dlw_224 rfl (lv_at hl 2 rfl) ?_
  refine lw_arg cx (k := 1) (by decide) (by omega) hL hS hl dlw_225 dlw_226 dlw_227 dlw_228 dlw_229 ?_
  refine lw_arg cx (k := 2) (by decide) (by omega) hL hS hl dlw_230 dlw_231 dlw_232 dlw_233 dlw_234 ?_
  refine lw_call cx (M' := mX10_node) (na := 2) (ci := 9) (q := 73) (vs := [.int (xs (i + 1)), .int (xs (i + 2))]) (rest := [.int z]) (List.mem_of_getElem? (i := 139) rfl) dlw_235 (by decide +kernel) (i1 := 1013) (by decide +kernel) (i2 := 1014) (by decide +kernel) (i3 := 1015) (by decide +kernel) (i4 := 77) (by decide +kernel) rfl rfl (by decide) xM.1 rfl (Nat.le_of_ble_eq_true rfl) (Nat.le_of_ble_eq_true rfl) ev2 hP hS hl.1 (fun r2 h2 H2 q2 hP hS => ?_)
  obtain ⟨rfl, hPI2⟩ := q2
  refine lv_icmp_eq (tgt := 785) hx hb dlw_238 (by decide) (fun _ => ?_) (fun cz => ?_)
  · exact kk h2 H2 hPI2 hP hS
  · exact absurd rfl cz
set_option maxRecDepth 100000 in
theorem lc_child {p : Program} {l : Launch} {e : Env} {s : State} {m : MethodId} {below : List Frame} {meth : Method} {c : Code} {D : va_G} {kc : ClassId × ClassId × ClassId} {b L i : Nat} {xs : Nat → Int32} {ad : Nat → Nat} {h : pH} {H : Heap} {ls : Array Slot} {Q : State → Prop} (cx : lw_Cx p s m meth c D kc b L xs ad) (hi : i + 4 ≤ L) (hL : L ≤ 2048) (hPI : PI h) (hP : va_P D (p_Cs.map Prod.fst) (p_wm kc ad pN h) H) (hS : va_S (fun q : Nat => s.heap.size ≤ q) s.heap H []) (hl : lv_has ls 4 (lw_lv b ad i))
    (kk : ∀ (h1 : pH) (H1 : Heap), PI h1 → va_P D (p_Cs.map Prod.fst) (p_wm kc ad pN h1) H1 → va_S (fun q : Nat => s.heap.size ≤ q) s.heap H1 [] → W p l e room_1 s m #[Value.ref b] below meth c H1 [] 600000 7302250 Q (F0 m 785 ls [])) : W p l e room_1 s m #[Value.ref b] below meth c H [] 600000 7302250 Q (F0 m 243 ls []) := by
  obtain ⟨hx, hb, hml, hown, hts, hX, hbl, hbA, inj, hAd, hK, hN⟩ := id cx
  obtain ⟨fs0, hh0⟩ := hPI.x
  refine lv_aload_n hx hb dlw_243 rfl (lv_at hl 1 rfl) ?_
  refine lw_arg cx (k := 1) (by decide) (by omega) hL hS hl dlw_244 dlw_245 dlw_246 dlw_247 dlw_248 ?_
  refine lw_arg cx (k := 2) (by decide) (by omega) hL hS hl dlw_249 dlw_250 dlw_251 dlw_252 dlw_253 ?_
  refine lw_call cx (M' := mX9_child) (na := 2) (ci := 8) (q := 0) (vs := [.int (xs (i + 1)), .int (xs (i + 2))]) (rest := []) (List.mem_of_getElem? (i := 91) rfl) dlw_254 (by decide +kernel) (i1 := 579) (by decide +kernel) (i2 := 580) (by decide +kernel) (i3 := 581) (by decide +kernel) (i4 := 62) (by decide +kernel) rfl rfl (by decide) hh0 rfl (Nat.le_of_ble_eq_true rfl) (Nat.le_of_ble_eq_true rfl) (C_child hPI (xs (i + 1)) (xs (i + 2))) hP hS hl.1 (fun r1 h1 H1 q1 hP hS => ?_)
  obtain ⟨M, z, xM, rfl, ev2⟩ := q1
  refine lv_aload_n hx hb dlw_257 rfl (lv_at hl 2 rfl) ?_
  refine lw_arg cx (k := 1) (by decide) (by omega) hL hS hl dlw_258 dlw_259 dlw_260 dlw_261 dlw_262 ?_
  refine lw_arg cx (k := 2) (by decide) (by omega) hL hS hl dlw_263 dlw_264 dlw_265 dlw_266 dlw_267 ?_
  refine lw_call cx (M' := mX10_child) (na := 2) (ci := 9) (q := 73) (vs := [.int (xs (i + 1)), .int (xs (i + 2))]) (rest := [.int z]) (List.mem_of_getElem? (i := 140) rfl) dlw_268 (by decide +kernel) (i1 := 1047) (by decide +kernel) (i2 := 1048) (by decide +kernel) (i3 := 1049) (by decide +kernel) (i4 := 77) (by decide +kernel) rfl rfl (by decide) xM.1 rfl (Nat.le_of_ble_eq_true rfl) (Nat.le_of_ble_eq_true rfl) ev2 hP hS hl.1 (fun r2 h2 H2 q2 hP hS => ?_)
  obtain ⟨rfl, hPI2⟩ := q2
  refine lv_icmp_eq (tgt := 785) hx hb dlw_271 (by decide) (fun _ => ?_) (fun cz => ?_)
  · exact kk h2 H2 hPI2 hP hS
  · exact absurd rfl cz
set_option maxRecDepth 100000 in
theorem lc_key {p : Program} {l : Launch} {e : Env} {s : State} {m : MethodId} {below : List Frame} {meth : Method} {c : Code} {D : va_G} {kc : ClassId × ClassId × ClassId} {b L i : Nat} {xs : Nat → Int32} {ad : Nat → Nat} {h : pH} {H : Heap} {ls : Array Slot} {Q : State → Prop} (cx : lw_Cx p s m meth c D kc b L xs ad) (hi : i + 4 ≤ L) (hL : L ≤ 2048) (hPI : PI h) (hP : va_P D (p_Cs.map Prod.fst) (p_wm kc ad pN h) H) (hS : va_S (fun q : Nat => s.heap.size ≤ q) s.heap H []) (hl : lv_has ls 4 (lw_lv b ad i))
    (kk : ∀ (h1 : pH) (H1 : Heap), PI h1 → va_P D (p_Cs.map Prod.fst) (p_wm kc ad pN h1) H1 → va_S (fun q : Nat => s.heap.size ≤ q) s.heap H1 [] → W p l e room_1 s m #[Value.ref b] below meth c H1 [] 600000 7302250 Q (F0 m 785 ls [])) : W p l e room_1 s m #[Value.ref b] below meth c H [] 600000 7302250 Q (F0 m 276 ls []) := by
  obtain ⟨hx, hb, hml, hown, hts, hX, hbl, hbA, inj, hAd, hK, hN⟩ := id cx
  obtain ⟨fs0, hh0⟩ := hPI.x
  refine lv_aload_n hx hb dlw_276 rfl (lv_at hl 1 rfl) ?_
  refine lw_arg cx (k := 1) (by decide) (by omega) hL hS hl dlw_277 dlw_278 dlw_279 dlw_280 dlw_281 ?_
  refine lw_arg cx (k := 2) (by decide) (by omega) hL hS hl dlw_282 dlw_283 dlw_284 dlw_285 dlw_286 ?_
  refine lw_arg cx (k := 3) (by decide) (by omega) hL hS hl dlw_287 dlw_288 dlw_289 dlw_290 dlw_291 ?_
  refine lw_call cx (M' := mX9_key) (na := 3) (ci := 8) (q := 0) (vs := [.int (xs (i + 1)), .int (xs (i + 2)), .int (xs (i + 3))]) (rest := []) (List.mem_of_getElem? (i := 92) rfl) dlw_292 (by decide +kernel) (i1 := 584) (by decide +kernel) (i2 := 585) (by decide +kernel) (i3 := 586) (by decide +kernel) (i4 := 62) (by decide +kernel) rfl rfl (by decide) hh0 rfl (Nat.le_of_ble_eq_true rfl) (Nat.le_of_ble_eq_true rfl) (C_key hPI (xs (i + 1)) (xs (i + 2)) (xs (i + 3))) hP hS hl.1 (fun r1 h1 H1 q1 hP hS => ?_)
  obtain ⟨M, z, xM, rfl, ev2⟩ := q1
  refine lv_aload_n hx hb dlw_295 rfl (lv_at hl 2 rfl) ?_
  refine lw_arg cx (k := 1) (by decide) (by omega) hL hS hl dlw_296 dlw_297 dlw_298 dlw_299 dlw_300 ?_
  refine lw_arg cx (k := 2) (by decide) (by omega) hL hS hl dlw_301 dlw_302 dlw_303 dlw_304 dlw_305 ?_
  refine lw_arg cx (k := 3) (by decide) (by omega) hL hS hl dlw_306 dlw_307 dlw_308 dlw_309 dlw_310 ?_
  refine lw_call cx (M' := mX10_key) (na := 3) (ci := 9) (q := 73) (vs := [.int (xs (i + 1)), .int (xs (i + 2)), .int (xs (i + 3))]) (rest := [.int z]) (List.mem_of_getElem? (i := 141) rfl) dlw_311 (by decide +kernel) (i1 := 1051) (by decide +kernel) (i2 := 1052) (by decide +kernel) (i3 := 1053) (by decide +kernel) (i4 := 77) (by decide +kernel) rfl rfl (by decide) xM.1 rfl (Nat.le_of_ble_eq_true rfl) (Nat.le_of_ble_eq_true rfl) ev2 hP hS hl.1 (fun r2 h2 H2 q2 hP hS => ?_)
  obtain ⟨rfl, hPI2⟩ := q2
  refine lv_icmp_eq (tgt := 785) hx hb dlw_314 (by decide) (fun _ => ?_) (fun cz => ?_)
  · exact kk h2 H2 hPI2 hP hS
  · exact absurd rfl cz
set_option maxRecDepth 100000 in
theorem lc_at {p : Program} {l : Launch} {e : Env} {s : State} {m : MethodId} {below : List Frame} {meth : Method} {c : Code} {D : va_G} {kc : ClassId × ClassId × ClassId} {b L i : Nat} {xs : Nat → Int32} {ad : Nat → Nat} {h : pH} {H : Heap} {ls : Array Slot} {Q : State → Prop} (cx : lw_Cx p s m meth c D kc b L xs ad) (hi : i + 4 ≤ L) (hL : L ≤ 2048) (hPI : PI h) (hP : va_P D (p_Cs.map Prod.fst) (p_wm kc ad pN h) H) (hS : va_S (fun q : Nat => s.heap.size ≤ q) s.heap H []) (hl : lv_has ls 4 (lw_lv b ad i))
    (kk : ∀ (h1 : pH) (H1 : Heap), PI h1 → va_P D (p_Cs.map Prod.fst) (p_wm kc ad pN h1) H1 → va_S (fun q : Nat => s.heap.size ≤ q) s.heap H1 [] → W p l e room_1 s m #[Value.ref b] below meth c H1 [] 600000 7302250 Q (F0 m 785 ls [])) : W p l e room_1 s m #[Value.ref b] below meth c H [] 600000 7302250 Q (F0 m 319 ls []) := by
  obtain ⟨hx, hb, hml, hown, hts, hX, hbl, hbA, inj, hAd, hK, hN⟩ := id cx
  obtain ⟨fs0, hh0⟩ := hPI.x
  refine lv_aload_n hx hb dlw_319 rfl (lv_at hl 1 rfl) ?_
  refine lw_arg cx (k := 1) (by decide) (by omega) hL hS hl dlw_320 dlw_321 dlw_322 dlw_323 dlw_324 ?_
  refine lw_call cx (M' := mX9_at) (na := 1) (ci := 8) (q := 0) (vs := [.int (xs (i + 1))]) (rest := []) (List.mem_of_getElem? (i := 93) rfl) dlw_325 (by decide +kernel) (i1 := 606) (by decide +kernel) (i2 := 607) (by decide +kernel) (i3 := 608) (by decide +kernel) (i4 := 62) (by decide +kernel) rfl rfl (by decide) hh0 rfl (Nat.le_of_ble_eq_true rfl) (Nat.le_of_ble_eq_true rfl) (C_at hPI (xs (i + 1))) hP hS hl.1 (fun r1 h1 H1 q1 hP hS => ?_)
  obtain ⟨M, z, xM, rfl, ev2⟩ := q1
  refine lv_aload_n hx hb dlw_328 rfl (lv_at hl 2 rfl) ?_
  refine lw_arg cx (k := 1) (by decide) (by omega) hL hS hl dlw_329 dlw_330 dlw_331 dlw_332 dlw_333 ?_
  refine lw_call cx (M' := mX10_at) (na := 1) (ci := 9) (q := 73) (vs := [.int (xs (i + 1))]) (rest := [.int z]) (List.mem_of_getElem? (i := 142) rfl) dlw_334 (by decide +kernel) (i1 := 1061) (by decide +kernel) (i2 := 1062) (by decide +kernel) (i3 := 1063) (by decide +kernel) (i4 := 77) (by decide +kernel) rfl rfl (by decide) xM.1 rfl (Nat.le_of_ble_eq_true rfl) (Nat.le_of_ble_eq_true rfl) ev2 hP hS hl.1 (fun r2 h2 H2 q2 hP hS => ?_)
  obtain ⟨rfl, hPI2⟩ := q2
  refine lv_icmp_eq (tgt := 785) hx hb dlw_337 (by decide) (fun _ => ?_) (fun cz => ?_)
  · exact kk h2 H2 hPI2 hP hS
  · exact absurd rfl cz
set_option maxRecDepth 100000 in
theorem lc_grow {p : Program} {l : Launch} {e : Env} {s : State} {m : MethodId} {below : List Frame} {meth : Method} {c : Code} {D : va_G} {kc : ClassId × ClassId × ClassId} {b L i : Nat} {xs : Nat → Int32} {ad : Nat → Nat} {h : pH} {H : Heap} {ls : Array Slot} {Q : State → Prop} (cx : lw_Cx p s m meth c D kc b L xs ad) (hi : i + 4 ≤ L) (hL : L ≤ 2048) (hPI : PI h) (hP : va_P D (p_Cs.map Prod.fst) (p_wm kc ad pN h) H) (hS : va_S (fun q : Nat => s.heap.size ≤ q) s.heap H []) (hl : lv_has ls 4 (lw_lv b ad i))
    (kk : ∀ (h1 : pH) (H1 : Heap), PI h1 → va_P D (p_Cs.map Prod.fst) (p_wm kc ad pN h1) H1 → va_S (fun q : Nat => s.heap.size ≤ q) s.heap H1 [] → W p l e room_1 s m #[Value.ref b] below meth c H1 [] 600000 7302250 Q (F0 m 785 ls [])) : W p l e room_1 s m #[Value.ref b] below meth c H [] 600000 7302250 Q (F0 m 342 ls []) := by
  obtain ⟨hx, hb, hml, hown, hts, hX, hbl, hbA, inj, hAd, hK, hN⟩ := id cx
  obtain ⟨fs0, hh0⟩ := hPI.x
  refine lv_aload_n hx hb dlw_342 rfl (lv_at hl 1 rfl) ?_
  refine lw_arg cx (k := 1) (by decide) (by omega) hL hS hl dlw_343 dlw_344 dlw_345 dlw_346 dlw_347 ?_
  refine lw_arg cx (k := 2) (by decide) (by omega) hL hS hl dlw_348 dlw_349 dlw_350 dlw_351 dlw_352 ?_
  refine lw_arg cx (k := 3) (by decide) (by omega) hL hS hl dlw_353 dlw_354 dlw_355 dlw_356 dlw_357 ?_
  refine lw_call cx (M' := mX9_grow) (na := 3) (ci := 8) (q := 0) (vs := [.int (xs (i + 1)), .int (xs (i + 2)), .int (xs (i + 3))]) (rest := []) (List.mem_of_getElem? (i := 94) rfl) dlw_358 (by decide +kernel) (i1 := 611) (by decide +kernel) (i2 := 612) (by decide +kernel) (i3 := 613) (by decide +kernel) (i4 := 62) (by decide +kernel) rfl rfl (by decide) hh0 rfl (Nat.le_of_ble_eq_true rfl) (Nat.le_of_ble_eq_true rfl) (C_grow hPI (xs (i + 1)) (xs (i + 2)) (xs (i + 3))) hP hS hl.1 (fun r1 h1 H1 q1 hP hS => ?_)
  obtain ⟨M, z, xM, rfl, ev2⟩ := q1
  refine lv_aload_n hx hb dlw_361 rfl (lv_at hl 2 rfl) ?_
  refine lw_arg cx (k := 1) (by decide) (by omega) hL hS hl dlw_362 dlw_363 dlw_364 dlw_365 dlw_366 ?_
  refine lw_arg cx (k := 2) (by decide) (by omega) hL hS hl dlw_367 dlw_368 dlw_369 dlw_370 dlw_371 ?_
  refine lw_arg cx (k := 3) (by decide) (by omega) hL hS hl dlw_372 dlw_373 dlw_374 dlw_375 dlw_376 ?_
  refine lw_call cx (M' := mX10_grow) (na := 3) (ci := 9) (q := 73) (vs := [.int (xs (i + 1)), .int (xs (i + 2)), .int (xs (i + 3))]) (rest := [.int z]) (List.mem_of_getElem? (i := 146) rfl) dlw_377 (by decide +kernel) (i1 := 1065) (by decide +kernel) (i2 := 1066) (by decide +kernel) (i3 := 1067) (by decide +kernel) (i4 := 77) (by decide +kernel) rfl rfl (by decide) xM.1 rfl (Nat.le_of_ble_eq_true rfl) (Nat.le_of_ble_eq_true rfl) ev2 hP hS hl.1 (fun r2 h2 H2 q2 hP hS => ?_)
  obtain ⟨rfl, hPI2⟩ := q2
  refine lv_icmp_eq (tgt := 785) hx hb dlw_380 (by decide) (fun _ => ?_) (fun cz => ?_)
  · exact kk h2 H2 hPI2 hP hS
  · exact absurd rfl cz
set_option maxRecDepth 100000 in
theorem lc_cut {p : Program} {l : Launch} {e : Env} {s : State} {m : MethodId} {below : List Frame} {meth : Method} {c : Code} {D : va_G} {kc : ClassId × ClassId × ClassId} {b L i : Nat} {xs : Nat → Int32} {ad : Nat → Nat} {h : pH} {H : Heap} {ls : Array Slot} {Q : State → Prop} (cx : lw_Cx p s m meth c D kc b L xs ad) (hi : i + 4 ≤ L) (hL : L ≤ 2048) (hPI : PI h) (hP : va_P D (p_Cs.map Prod.fst) (p_wm kc ad pN h) H) (hS : va_S (fun q : Nat => s.heap.size ≤ q) s.heap H []) (hl : lv_has ls 4 (lw_lv b ad i))
    (kk : ∀ (h1 : pH) (H1 : Heap), PI h1 → va_P D (p_Cs.map Prod.fst) (p_wm kc ad pN h1) H1 → va_S (fun q : Nat => s.heap.size ≤ q) s.heap H1 [] → W p l e room_1 s m #[Value.ref b] below meth c H1 [] 600000 7302250 Q (F0 m 785 ls [])) : W p l e room_1 s m #[Value.ref b] below meth c H [] 600000 7302250 Q (F0 m 385 ls []) := by
  obtain ⟨hx, hb, hml, hown, hts, hX, hbl, hbA, inj, hAd, hK, hN⟩ := id cx
  obtain ⟨fs0, hh0⟩ := hPI.x
  refine lv_aload_n hx hb dlw_385 rfl (lv_at hl 1 rfl) ?_
  refine lw_arg cx (k := 1) (by decide) (by omega) hL hS hl dlw_386 dlw_387 dlw_388 dlw_389 dlw_390 ?_
  refine lw_call cx (M' := mX9_cut) (na := 1) (ci := 8) (q := 0) (vs := [.int (xs (i + 1))]) (rest := []) (List.mem_of_getElem? (i := 95) rfl) dlw_391 (by decide +kernel) (i1 := 639) (by decide +kernel) (i2 := 640) (by decide +kernel) (i3 := 641) (by decide +kernel) (i4 := 62) (by decide +kernel) rfl rfl (by decide) hh0 rfl (Nat.le_of_ble_eq_true rfl) (Nat.le_of_ble_eq_true rfl) (C_cut hPI (xs (i + 1))) hP hS hl.1 (fun r1 h1 H1 q1 hP hS => ?_)
  obtain ⟨M, z, xM, rfl, ev2⟩ := q1
  refine lv_aload_n hx hb dlw_394 rfl (lv_at hl 2 rfl) ?_
  refine lw_arg cx (k := 1) (by decide) (by omega) hL hS hl dlw_395 dlw_396 dlw_397 dlw_398 dlw_399 ?_
  refine lw_call cx (M' := mX10_cut) (na := 1) (ci := 9) (q := 73) (vs := [.int (xs (i + 1))]) (rest := [.int z]) (List.mem_of_getElem? (i := 147) rfl) dlw_400 (by decide +kernel) (i1 := 1080) (by decide +kernel) (i2 := 1081) (by decide +kernel) (i3 := 1082) (by decide +kernel) (i4 := 77) (by decide +kernel) rfl rfl (by decide) xM.1 rfl (Nat.le_of_ble_eq_true rfl) (Nat.le_of_ble_eq_true rfl) ev2 hP hS hl.1 (fun r2 h2 H2 q2 hP hS => ?_)
  obtain ⟨rfl, hPI2⟩ := q2
  refine lv_icmp_eq (tgt := 785) hx hb dlw_403 (by decide) (fun _ => ?_) (fun cz => ?_)
  · exact kk h2 H2 hPI2 hP hS
  · exact absurd rfl cz
set_option maxRecDepth 100000 in
theorem lc_tag {p : Program} {l : Launch} {e : Env} {s : State} {m : MethodId} {below : List Frame} {meth : Method} {c : Code} {D : va_G} {kc : ClassId × ClassId × ClassId} {b L i : Nat} {xs : Nat → Int32} {ad : Nat → Nat} {h : pH} {H : Heap} {ls : Array Slot} {Q : State → Prop} (cx : lw_Cx p s m meth c D kc b L xs ad) (hi : i + 4 ≤ L) (hL : L ≤ 2048) (hPI : PI h) (hP : va_P D (p_Cs.map Prod.fst) (p_wm kc ad pN h) H) (hS : va_S (fun q : Nat => s.heap.size ≤ q) s.heap H []) (hl : lv_has ls 4 (lw_lv b ad i))
    (kk : ∀ (h1 : pH) (H1 : Heap), PI h1 → va_P D (p_Cs.map Prod.fst) (p_wm kc ad pN h1) H1 → va_S (fun q : Nat => s.heap.size ≤ q) s.heap H1 [] → W p l e room_1 s m #[Value.ref b] below meth c H1 [] 600000 7302250 Q (F0 m 785 ls [])) : W p l e room_1 s m #[Value.ref b] below meth c H [] 600000 7302250 Q (F0 m 408 ls []) := by
  obtain ⟨hx, hb, hml, hown, hts, hX, hbl, hbA, inj, hAd, hK, hN⟩ := id cx
  obtain ⟨fs0, hh0⟩ := hPI.x
  refine lv_aload_n hx hb dlw_408 rfl (lv_at hl 1 rfl) ?_
  refine lw_arg cx (k := 1) (by decide) (by omega) hL hS hl dlw_409 dlw_410 dlw_411 dlw_412 dlw_413 ?_
  refine lw_arg cx (k := 2) (by decide) (by omega) hL hS hl dlw_414 dlw_415 dlw_416 dlw_417 dlw_418 ?_
  refine lw_call cx (M' := mX9_tag) (na := 2) (ci := 8) (q := 0) (vs := [.int (xs (i + 1)), .int (xs (i + 2))]) (rest := []) (List.mem_of_getElem? (i := 96) rfl) dlw_419 (by decide +kernel) (i1 := 658) (by decide +kernel) (i2 := 659) (by decide +kernel) (i3 := 660) (by decide +kernel) (i4 := 62) (by decide +kernel) rfl rfl (by decide) hh0 rfl (Nat.le_of_ble_eq_true rfl) (Nat.le_of_ble_eq_true rfl) (C_tag hPI (xs (i + 1)) (xs (i + 2))) hP hS hl.1 (fun r1 h1 H1 q1 hP hS => ?_)
  obtain ⟨M, z, xM, rfl, ev2⟩ := q1
  refine lv_aload_n hx hb dlw_422 rfl (lv_at hl 2 rfl) ?_
  refine lw_arg cx (k := 1) (by decide) (by omega) hL hS hl dlw_423 dlw_424 dlw_425 dlw_426 dlw_427 ?_
  refine lw_arg cx (k := 2) (by decide) (by omega) hL hS hl dlw_428 dlw_429 dlw_430 dlw_431 dlw_432 ?_
  refine lw_call cx (M' := mX10_tag) (na := 2) (ci := 9) (q := 73) (vs := [.int (xs (i + 1)), .int (xs (i + 2))]) (rest := [.int z]) (List.mem_of_getElem? (i := 148) rfl) dlw_433 (by decide +kernel) (i1 := 1084) (by decide +kernel) (i2 := 1085) (by decide +kernel) (i3 := 1086) (by decide +kernel) (i4 := 77) (by decide +kernel) rfl rfl (by decide) xM.1 rfl (Nat.le_of_ble_eq_true rfl) (Nat.le_of_ble_eq_true rfl) ev2 hP hS hl.1 (fun r2 h2 H2 q2 hP hS => ?_)
  obtain ⟨rfl, hPI2⟩ := q2
  refine lv_icmp_eq (tgt := 785) hx hb dlw_436 (by decide) (fun _ => ?_) (fun cz => ?_)
  · exact kk h2 H2 hPI2 hP hS
  · exact absurd rfl cz
set_option maxRecDepth 100000 in
theorem lc_undo {p : Program} {l : Launch} {e : Env} {s : State} {m : MethodId} {below : List Frame} {meth : Method} {c : Code} {D : va_G} {kc : ClassId × ClassId × ClassId} {b L i : Nat} {xs : Nat → Int32} {ad : Nat → Nat} {h : pH} {H : Heap} {ls : Array Slot} {Q : State → Prop} (cx : lw_Cx p s m meth c D kc b L xs ad) (hi : i + 4 ≤ L) (hL : L ≤ 2048) (hPI : PI h) (hP : va_P D (p_Cs.map Prod.fst) (p_wm kc ad pN h) H) (hS : va_S (fun q : Nat => s.heap.size ≤ q) s.heap H []) (hl : lv_has ls 4 (lw_lv b ad i))
    (kk : ∀ (h1 : pH) (H1 : Heap), PI h1 → va_P D (p_Cs.map Prod.fst) (p_wm kc ad pN h1) H1 → va_S (fun q : Nat => s.heap.size ≤ q) s.heap H1 [] → W p l e room_1 s m #[Value.ref b] below meth c H1 [] 600000 7302250 Q (F0 m 785 ls [])) : W p l e room_1 s m #[Value.ref b] below meth c H [] 600000 7302250 Q (F0 m 441 ls []) := by
  obtain ⟨hx, hb, hml, hown, hts, hX, hbl, hbA, inj, hAd, hK, hN⟩ := id cx
  obtain ⟨fs0, hh0⟩ := hPI.x
  refine lv_aload_n hx hb dlw_441 rfl (lv_at hl 1 rfl) ?_
  refine lw_call cx (M' := mX9_undo) (na := 0) (ci := 8) (q := 0) (vs := []) (rest := []) (List.mem_of_getElem? (i := 97) rfl) dlw_442 (by decide +kernel) (i1 := 666) (by decide +kernel) (i2 := 667) (by decide +kernel) (i3 := 668) (by decide +kernel) (i4 := 62) (by decide +kernel) rfl rfl (by decide) hh0 rfl (Nat.le_of_ble_eq_true rfl) (Nat.le_of_ble_eq_true rfl) (C_undo hPI) hP hS hl.1 (fun r1 h1 H1 q1 hP hS => ?_)
  obtain ⟨M, z, xM, rfl, ev2⟩ := q1
  refine lv_aload_n hx hb dlw_445 rfl (lv_at hl 2 rfl) ?_
  refine lw_call cx (M' := mX10_undo) (na := 0) (ci := 9) (q := 73) (vs := []) (rest := [.int z]) (List.mem_of_getElem? (i := 149) rfl) dlw_446 (by decide +kernel) (i1 := 1088) (by decide +kernel) (i2 := 1089) (by decide +kernel) (i3 := 1090) (by decide +kernel) (i4 := 77) (by decide +kernel) rfl rfl (by decide) xM.1 rfl (Nat.le_of_ble_eq_true rfl) (Nat.le_of_ble_eq_true rfl) ev2 hP hS hl.1 (fun r2 h2 H2 q2 hP hS => ?_)
  obtain ⟨rfl, hPI2⟩ := q2
  refine lv_icmp_eq (tgt := 785) hx hb dlw_449 (by decide) (fun _ => ?_) (fun cz => ?_)
  · exact kk h2 H2 hPI2 hP hS
  · exact absurd rfl cz
set_option maxRecDepth 100000 in
theorem lc_between {p : Program} {l : Launch} {e : Env} {s : State} {m : MethodId} {below : List Frame} {meth : Method} {c : Code} {D : va_G} {kc : ClassId × ClassId × ClassId} {b L i : Nat} {xs : Nat → Int32} {ad : Nat → Nat} {h : pH} {H : Heap} {ls : Array Slot} {Q : State → Prop} (cx : lw_Cx p s m meth c D kc b L xs ad) (hi : i + 4 ≤ L) (hL : L ≤ 2048) (hPI : PI h) (hP : va_P D (p_Cs.map Prod.fst) (p_wm kc ad pN h) H) (hS : va_S (fun q : Nat => s.heap.size ≤ q) s.heap H []) (hl : lv_has ls 4 (lw_lv b ad i))
    (kk : ∀ (h1 : pH) (H1 : Heap), PI h1 → va_P D (p_Cs.map Prod.fst) (p_wm kc ad pN h1) H1 → va_S (fun q : Nat => s.heap.size ≤ q) s.heap H1 [] → W p l e room_1 s m #[Value.ref b] below meth c H1 [] 600000 7302250 Q (F0 m 785 ls [])) : W p l e room_1 s m #[Value.ref b] below meth c H [] 600000 7302250 Q (F0 m 454 ls []) := by
  obtain ⟨hx, hb, hml, hown, hts, hX, hbl, hbA, inj, hAd, hK, hN⟩ := id cx
  obtain ⟨fs0, hh0⟩ := hPI.x
  refine lv_aload_n hx hb dlw_454 rfl (lv_at hl 1 rfl) ?_
  refine lw_arg cx (k := 1) (by decide) (by omega) hL hS hl dlw_455 dlw_456 dlw_457 dlw_458 dlw_459 ?_
  refine lw_arg cx (k := 2) (by decide) (by omega) hL hS hl dlw_460 dlw_461 dlw_462 dlw_463 dlw_464 ?_
  refine lw_arg cx (k := 3) (by decide) (by omega) hL hS hl dlw_465 dlw_466 dlw_467 dlw_468 dlw_469 ?_
  refine lw_call cx (M' := mX9_between) (na := 3) (ci := 8) (q := 0) (vs := [.int (xs (i + 1)), .int (xs (i + 2)), .int (xs (i + 3))]) (rest := []) (List.mem_of_getElem? (i := 98) rfl) dlw_470 (by decide +kernel) (i1 := 683) (by decide +kernel) (i2 := 684) (by decide +kernel) (i3 := 685) (by decide +kernel) (i4 := 62) (by decide +kernel) rfl rfl (by decide) hh0 rfl (Nat.le_of_ble_eq_true rfl) (Nat.le_of_ble_eq_true rfl) (C_between hPI (xs (i + 1)) (xs (i + 2)) (xs (i + 3))) hP hS hl.1 (fun r1 h1 H1 q1 hP hS => ?_)
  obtain ⟨M, z, xM, rfl, ev2⟩ := q1
  refine lv_aload_n hx hb dlw_473 rfl (lv_at hl 2 rfl) ?_
  refine lw_arg cx (k := 1) (by decide) (by omega) hL hS hl dlw_474 dlw_475 dlw_476 dlw_477 dlw_478 ?_
  refine lw_arg cx (k := 2) (by decide) (by omega) hL hS hl dlw_479 dlw_480 dlw_481 dlw_482 dlw_483 ?_
  refine lw_arg cx (k := 3) (by decide) (by omega) hL hS hl dlw_484 dlw_485 dlw_486 dlw_487 dlw_488 ?_
  refine lw_call cx (M' := mX10_between) (na := 3) (ci := 9) (q := 73) (vs := [.int (xs (i + 1)), .int (xs (i + 2)), .int (xs (i + 3))]) (rest := [.int z]) (List.mem_of_getElem? (i := 152) rfl) dlw_489 (by decide +kernel) (i1 := 1104) (by decide +kernel) (i2 := 1105) (by decide +kernel) (i3 := 1106) (by decide +kernel) (i4 := 77) (by decide +kernel) rfl rfl (by decide) xM.1 rfl (Nat.le_of_ble_eq_true rfl) (Nat.le_of_ble_eq_true rfl) ev2 hP hS hl.1 (fun r2 h2 H2 q2 hP hS => ?_)
  obtain ⟨rfl, hPI2⟩ := q2
  refine lv_icmp_eq (tgt := 785) hx hb dlw_492 (by decide) (fun _ => ?_) (fun cz => ?_)
  · exact kk h2 H2 hPI2 hP hS
  · exact absurd rfl cz
set_option maxRecDepth 100000 in
theorem lc_ahead {p : Program} {l : Launch} {e : Env} {s : State} {m : MethodId} {below : List Frame} {meth : Method} {c : Code} {D : va_G} {kc : ClassId × ClassId × ClassId} {b L i : Nat} {xs : Nat → Int32} {ad : Nat → Nat} {h : pH} {H : Heap} {ls : Array Slot} {Q : State → Prop} (cx : lw_Cx p s m meth c D kc b L xs ad) (hi : i + 4 ≤ L) (hL : L ≤ 2048) (hPI : PI h) (hP : va_P D (p_Cs.map Prod.fst) (p_wm kc ad pN h) H) (hS : va_S (fun q : Nat => s.heap.size ≤ q) s.heap H []) (hl : lv_has ls 4 (lw_lv b ad i))
    (kk : ∀ (h1 : pH) (H1 : Heap), PI h1 → va_P D (p_Cs.map Prod.fst) (p_wm kc ad pN h1) H1 → va_S (fun q : Nat => s.heap.size ≤ q) s.heap H1 [] → W p l e room_1 s m #[Value.ref b] below meth c H1 [] 600000 7302250 Q (F0 m 785 ls [])) : W p l e room_1 s m #[Value.ref b] below meth c H [] 600000 7302250 Q (F0 m 497 ls []) := by
  obtain ⟨hx, hb, hml, hown, hts, hX, hbl, hbA, inj, hAd, hK, hN⟩ := id cx
  obtain ⟨fs0, hh0⟩ := hPI.x
  refine lv_aload_n hx hb dlw_497 rfl (lv_at hl 1 rfl) ?_
  refine lw_arg cx (k := 1) (by decide) (by omega) hL hS hl dlw_498 dlw_499 dlw_500 dlw_501 dlw_502 ?_
  refine lw_arg cx (k := 2) (by decide) (by omega) hL hS hl dlw_503 dlw_504 dlw_505 dlw_506 dlw_507 ?_
  refine lw_call cx (M' := mX9_ahead) (na := 2) (ci := 8) (q := 0) (vs := [.int (xs (i + 1)), .int (xs (i + 2))]) (rest := []) (List.mem_of_getElem? (i := 99) rfl) dlw_508 (by decide +kernel) (i1 := 687) (by decide +kernel) (i2 := 688) (by decide +kernel) (i3 := 689) (by decide +kernel) (i4 := 62) (by decide +kernel) rfl rfl (by decide) hh0 rfl (Nat.le_of_ble_eq_true rfl) (Nat.le_of_ble_eq_true rfl) (C_ahead hPI (xs (i + 1)) (xs (i + 2))) hP hS hl.1 (fun r1 h1 H1 q1 hP hS => ?_)
  obtain ⟨M, z, xM, rfl, ev2⟩ := q1
  refine lv_aload_n hx hb dlw_511 rfl (lv_at hl 2 rfl) ?_
  refine lw_arg cx (k := 1) (by decide) (by omega) hL hS hl dlw_512 dlw_513 dlw_514 dlw_515 dlw_516 ?_
  refine lw_arg cx (k := 2) (by decide) (by omega) hL hS hl dlw_517 dlw_518 dlw_519 dlw_520 dlw_521 ?_
  refine lw_call cx (M' := mX10_ahead) (na := 2) (ci := 9) (q := 73) (vs := [.int (xs (i + 1)), .int (xs (i + 2))]) (rest := [.int z]) (List.mem_of_getElem? (i := 153) rfl) dlw_522 (by decide +kernel) (i1 := 1108) (by decide +kernel) (i2 := 1109) (by decide +kernel) (i3 := 1110) (by decide +kernel) (i4 := 77) (by decide +kernel) rfl rfl (by decide) xM.1 rfl (Nat.le_of_ble_eq_true rfl) (Nat.le_of_ble_eq_true rfl) ev2 hP hS hl.1 (fun r2 h2 H2 q2 hP hS => ?_)
  obtain ⟨rfl, hPI2⟩ := q2
  refine lv_icmp_eq (tgt := 785) hx hb dlw_525 (by decide) (fun _ => ?_) (fun cz => ?_)
  · exact kk h2 H2 hPI2 hP hS
  · exact absurd rfl cz
set_option maxRecDepth 100000 in
theorem lc_above {p : Program} {l : Launch} {e : Env} {s : State} {m : MethodId} {below : List Frame} {meth : Method} {c : Code} {D : va_G} {kc : ClassId × ClassId × ClassId} {b L i : Nat} {xs : Nat → Int32} {ad : Nat → Nat} {h : pH} {H : Heap} {ls : Array Slot} {Q : State → Prop} (cx : lw_Cx p s m meth c D kc b L xs ad) (hi : i + 4 ≤ L) (hL : L ≤ 2048) (hPI : PI h) (hP : va_P D (p_Cs.map Prod.fst) (p_wm kc ad pN h) H) (hS : va_S (fun q : Nat => s.heap.size ≤ q) s.heap H []) (hl : lv_has ls 4 (lw_lv b ad i))
    (kk : ∀ (h1 : pH) (H1 : Heap), PI h1 → va_P D (p_Cs.map Prod.fst) (p_wm kc ad pN h1) H1 → va_S (fun q : Nat => s.heap.size ≤ q) s.heap H1 [] → W p l e room_1 s m #[Value.ref b] below meth c H1 [] 600000 7302250 Q (F0 m 785 ls [])) : W p l e room_1 s m #[Value.ref b] below meth c H [] 600000 7302250 Q (F0 m 530 ls []) := by
  obtain ⟨hx, hb, hml, hown, hts, hX, hbl, hbA, inj, hAd, hK, hN⟩ := id cx
  obtain ⟨fs0, hh0⟩ := hPI.x
  refine lv_aload_n hx hb dlw_530 rfl (lv_at hl 1 rfl) ?_
  refine lw_arg cx (k := 1) (by decide) (by omega) hL hS hl dlw_531 dlw_532 dlw_533 dlw_534 dlw_535 ?_
  refine lw_arg cx (k := 2) (by decide) (by omega) hL hS hl dlw_536 dlw_537 dlw_538 dlw_539 dlw_540 ?_
  refine lw_call cx (M' := mX9_above) (na := 2) (ci := 8) (q := 0) (vs := [.int (xs (i + 1)), .int (xs (i + 2))]) (rest := []) (List.mem_of_getElem? (i := 100) rfl) dlw_541 (by decide +kernel) (i1 := 691) (by decide +kernel) (i2 := 692) (by decide +kernel) (i3 := 693) (by decide +kernel) (i4 := 62) (by decide +kernel) rfl rfl (by decide) hh0 rfl (Nat.le_of_ble_eq_true rfl) (Nat.le_of_ble_eq_true rfl) (C_above hPI (xs (i + 1)) (xs (i + 2))) hP hS hl.1 (fun r1 h1 H1 q1 hP hS => ?_)
  obtain ⟨M, z, xM, rfl, ev2⟩ := q1
  refine lv_aload_n hx hb dlw_544 rfl (lv_at hl 2 rfl) ?_
  refine lw_arg cx (k := 1) (by decide) (by omega) hL hS hl dlw_545 dlw_546 dlw_547 dlw_548 dlw_549 ?_
  refine lw_arg cx (k := 2) (by decide) (by omega) hL hS hl dlw_550 dlw_551 dlw_552 dlw_553 dlw_554 ?_
  refine lw_call cx (M' := mX10_above) (na := 2) (ci := 9) (q := 73) (vs := [.int (xs (i + 1)), .int (xs (i + 2))]) (rest := [.int z]) (List.mem_of_getElem? (i := 154) rfl) dlw_555 (by decide +kernel) (i1 := 1112) (by decide +kernel) (i2 := 1113) (by decide +kernel) (i3 := 1114) (by decide +kernel) (i4 := 77) (by decide +kernel) rfl rfl (by decide) xM.1 rfl (Nat.le_of_ble_eq_true rfl) (Nat.le_of_ble_eq_true rfl) ev2 hP hS hl.1 (fun r2 h2 H2 q2 hP hS => ?_)
  obtain ⟨rfl, hPI2⟩ := q2
  refine lv_icmp_eq (tgt := 785) hx hb dlw_558 (by decide) (fun _ => ?_) (fun cz => ?_)
  · exact kk h2 H2 hPI2 hP hS
  · exact absurd rfl cz
set_option maxRecDepth 100000 in
theorem lc_meet {p : Program} {l : Launch} {e : Env} {s : State} {m : MethodId} {below : List Frame} {meth : Method} {c : Code} {D : va_G} {kc : ClassId × ClassId × ClassId} {b L i : Nat} {xs : Nat → Int32} {ad : Nat → Nat} {h : pH} {H : Heap} {ls : Array Slot} {Q : State → Prop} (cx : lw_Cx p s m meth c D kc b L xs ad) (hi : i + 4 ≤ L) (hL : L ≤ 2048) (hPI : PI h) (hP : va_P D (p_Cs.map Prod.fst) (p_wm kc ad pN h) H) (hS : va_S (fun q : Nat => s.heap.size ≤ q) s.heap H []) (hl : lv_has ls 4 (lw_lv b ad i))
    (kk : ∀ (h1 : pH) (H1 : Heap), PI h1 → va_P D (p_Cs.map Prod.fst) (p_wm kc ad pN h1) H1 → va_S (fun q : Nat => s.heap.size ≤ q) s.heap H1 [] → W p l e room_1 s m #[Value.ref b] below meth c H1 [] 600000 7302250 Q (F0 m 785 ls [])) : W p l e room_1 s m #[Value.ref b] below meth c H [] 600000 7302250 Q (F0 m 563 ls []) := by
  obtain ⟨hx, hb, hml, hown, hts, hX, hbl, hbA, inj, hAd, hK, hN⟩ := id cx
  obtain ⟨fs0, hh0⟩ := hPI.x
  refine lv_aload_n hx hb dlw_563 rfl (lv_at hl 1 rfl) ?_
  refine lw_arg cx (k := 1) (by decide) (by omega) hL hS hl dlw_564 dlw_565 dlw_566 dlw_567 dlw_568 ?_
  refine lw_arg cx (k := 2) (by decide) (by omega) hL hS hl dlw_569 dlw_570 dlw_571 dlw_572 dlw_573 ?_
  refine lw_call cx (M' := mX9_meet) (na := 2) (ci := 8) (q := 0) (vs := [.int (xs (i + 1)), .int (xs (i + 2))]) (rest := []) (List.mem_of_getElem? (i := 101) rfl) dlw_574 (by decide +kernel) (i1 := 699) (by decide +kernel) (i2 := 700) (by decide +kernel) (i3 := 701) (by decide +kernel) (i4 := 62) (by decide +kernel) rfl rfl (by decide) hh0 rfl (Nat.le_of_ble_eq_true rfl) (Nat.le_of_ble_eq_true rfl) (C_meet hPI (xs (i + 1)) (xs (i + 2))) hP hS hl.1 (fun r1 h1 H1 q1 hP hS => ?_)
  obtain ⟨M, z, xM, rfl, ev2⟩ := q1
  refine lv_aload_n hx hb dlw_577 rfl (lv_at hl 2 rfl) ?_
  refine lw_arg cx (k := 1) (by decide) (by omega) hL hS hl dlw_578 dlw_579 dlw_580 dlw_581 dlw_582 ?_
  refine lw_arg cx (k := 2) (by decide) (by omega) hL hS hl dlw_583 dlw_584 dlw_585 dlw_586 dlw_587 ?_
  refine lw_call cx (M' := mX10_meet) (na := 2) (ci := 9) (q := 73) (vs := [.int (xs (i + 1)), .int (xs (i + 2))]) (rest := [.int z]) (List.mem_of_getElem? (i := 155) rfl) dlw_588 (by decide +kernel) (i1 := 1116) (by decide +kernel) (i2 := 1117) (by decide +kernel) (i3 := 1118) (by decide +kernel) (i4 := 77) (by decide +kernel) rfl rfl (by decide) xM.1 rfl (Nat.le_of_ble_eq_true rfl) (Nat.le_of_ble_eq_true rfl) ev2 hP hS hl.1 (fun r2 h2 H2 q2 hP hS => ?_)
  obtain ⟨rfl, hPI2⟩ := q2
  refine lv_icmp_eq (tgt := 785) hx hb dlw_591 (by decide) (fun _ => ?_) (fun cz => ?_)
  · exact kk h2 H2 hPI2 hP hS
  · exact absurd rfl cz
set_option maxRecDepth 100000 in
theorem lc_pattern {p : Program} {l : Launch} {e : Env} {s : State} {m : MethodId} {below : List Frame} {meth : Method} {c : Code} {D : va_G} {kc : ClassId × ClassId × ClassId} {b L i : Nat} {xs : Nat → Int32} {ad : Nat → Nat} {h : pH} {H : Heap} {ls : Array Slot} {Q : State → Prop} (cx : lw_Cx p s m meth c D kc b L xs ad) (hi : i + 4 ≤ L) (hL : L ≤ 2048) (hPI : PI h) (hP : va_P D (p_Cs.map Prod.fst) (p_wm kc ad pN h) H) (hS : va_S (fun q : Nat => s.heap.size ≤ q) s.heap H []) (hl : lv_has ls 4 (lw_lv b ad i))
    (kk : ∀ (h1 : pH) (H1 : Heap), PI h1 → va_P D (p_Cs.map Prod.fst) (p_wm kc ad pN h1) H1 → va_S (fun q : Nat => s.heap.size ≤ q) s.heap H1 [] → W p l e room_1 s m #[Value.ref b] below meth c H1 [] 600000 7302250 Q (F0 m 785 ls [])) : W p l e room_1 s m #[Value.ref b] below meth c H [] 600000 7302250 Q (F0 m 596 ls []) := by
  obtain ⟨hx, hb, hml, hown, hts, hX, hbl, hbA, inj, hAd, hK, hN⟩ := id cx
  obtain ⟨fs0, hh0⟩ := hPI.x
  refine lv_aload_n hx hb dlw_596 rfl (lv_at hl 1 rfl) ?_
  refine lw_call cx (M' := mX9_pattern) (na := 0) (ci := 8) (q := 0) (vs := []) (rest := []) (List.mem_of_getElem? (i := 102) rfl) dlw_597 (by decide +kernel) (i1 := 703) (by decide +kernel) (i2 := 704) (by decide +kernel) (i3 := 705) (by decide +kernel) (i4 := 62) (by decide +kernel) rfl rfl (by decide) hh0 rfl (Nat.le_of_ble_eq_true rfl) (Nat.le_of_ble_eq_true rfl) (C_pattern hPI) hP hS hl.1 (fun r1 h1 H1 q1 hP hS => ?_)
  obtain ⟨M, z, xM, rfl, ev2⟩ := q1
  refine lv_aload_n hx hb dlw_600 rfl (lv_at hl 2 rfl) ?_
  refine lw_call cx (M' := mX10_pattern) (na := 0) (ci := 9) (q := 73) (vs := []) (rest := [.int z]) (List.mem_of_getElem? (i := 172) rfl) dlw_601 (by decide +kernel) (i1 := 1171) (by decide +kernel) (i2 := 1172) (by decide +kernel) (i3 := 1173) (by decide +kernel) (i4 := 77) (by decide +kernel) rfl rfl (by decide) xM.1 rfl (Nat.le_of_ble_eq_true rfl) (Nat.le_of_ble_eq_true rfl) ev2 hP hS hl.1 (fun r2 h2 H2 q2 hP hS => ?_)
  obtain ⟨rfl, hPI2⟩ := q2
  refine lv_icmp_eq (tgt := 785) hx hb dlw_604 (by decide) (fun _ => ?_) (fun cz => ?_)
  · exact kk h2 H2 hPI2 hP hS
  · exact absurd rfl cz
set_option maxRecDepth 100000 in
theorem lc_step {p : Program} {l : Launch} {e : Env} {s : State} {m : MethodId} {below : List Frame} {meth : Method} {c : Code} {D : va_G} {kc : ClassId × ClassId × ClassId} {b L i : Nat} {xs : Nat → Int32} {ad : Nat → Nat} {h : pH} {H : Heap} {ls : Array Slot} {Q : State → Prop} (cx : lw_Cx p s m meth c D kc b L xs ad) (hi : i + 4 ≤ L) (hL : L ≤ 2048) (hPI : PI h) (hP : va_P D (p_Cs.map Prod.fst) (p_wm kc ad pN h) H) (hS : va_S (fun q : Nat => s.heap.size ≤ q) s.heap H []) (hl : lv_has ls 4 (lw_lv b ad i))
    (kk : ∀ (h1 : pH) (H1 : Heap), PI h1 → va_P D (p_Cs.map Prod.fst) (p_wm kc ad pN h1) H1 → va_S (fun q : Nat => s.heap.size ≤ q) s.heap H1 [] → W p l e room_1 s m #[Value.ref b] below meth c H1 [] 600000 7302250 Q (F0 m 785 ls [])) : W p l e room_1 s m #[Value.ref b] below meth c H [] 600000 7302250 Q (F0 m 609 ls []) := by
  obtain ⟨hx, hb, hml, hown, hts, hX, hbl, hbA, inj, hAd, hK, hN⟩ := id cx
  obtain ⟨fs0, hh0⟩ := hPI.x
  refine lv_aload_n hx hb dlw_609 rfl (lv_at hl 1 rfl) ?_
  refine lw_arg cx (k := 1) (by decide) (by omega) hL hS hl dlw_610 dlw_611 dlw_612 dlw_613 dlw_614 ?_
  refine lw_arg cx (k := 2) (by decide) (by omega) hL hS hl dlw_615 dlw_616 dlw_617 dlw_618 dlw_619 ?_
  refine lw_call cx (M' := mX9_step) (na := 2) (ci := 8) (q := 0) (vs := [.int (xs (i + 1)), .int (xs (i + 2))]) (rest := []) (List.mem_of_getElem? (i := 103) rfl) dlw_620 (by decide +kernel) (i1 := 755) (by decide +kernel) (i2 := 756) (by decide +kernel) (i3 := 757) (by decide +kernel) (i4 := 62) (by decide +kernel) rfl rfl (by decide) hh0 rfl (Nat.le_of_ble_eq_true rfl) (Nat.le_of_ble_eq_true rfl) (C_step hPI (xs (i + 1)) (xs (i + 2))) hP hS hl.1 (fun r1 h1 H1 q1 hP hS => ?_)
  obtain ⟨M, z, xM, rfl, ev2⟩ := q1
  refine lv_aload_n hx hb dlw_623 rfl (lv_at hl 2 rfl) ?_
  refine lw_arg cx (k := 1) (by decide) (by omega) hL hS hl dlw_624 dlw_625 dlw_626 dlw_627 dlw_628 ?_
  refine lw_arg cx (k := 2) (by decide) (by omega) hL hS hl dlw_629 dlw_630 dlw_631 dlw_632 dlw_633 ?_
  refine lw_call cx (M' := mX10_step) (na := 2) (ci := 9) (q := 73) (vs := [.int (xs (i + 1)), .int (xs (i + 2))]) (rest := [.int z]) (List.mem_of_getElem? (i := 174) rfl) dlw_634 (by decide +kernel) (i1 := 1186) (by decide +kernel) (i2 := 1187) (by decide +kernel) (i3 := 1188) (by decide +kernel) (i4 := 77) (by decide +kernel) rfl rfl (by decide) xM.1 rfl (Nat.le_of_ble_eq_true rfl) (Nat.le_of_ble_eq_true rfl) ev2 hP hS hl.1 (fun r2 h2 H2 q2 hP hS => ?_)
  obtain ⟨rfl, hPI2⟩ := q2
  refine lv_icmp_eq (tgt := 785) hx hb dlw_637 (by decide) (fun _ => ?_) (fun cz => ?_)
  · exact kk h2 H2 hPI2 hP hS
  · exact absurd rfl cz
set_option maxRecDepth 100000 in
theorem lc_matches {p : Program} {l : Launch} {e : Env} {s : State} {m : MethodId} {below : List Frame} {meth : Method} {c : Code} {D : va_G} {kc : ClassId × ClassId × ClassId} {b L i : Nat} {xs : Nat → Int32} {ad : Nat → Nat} {h : pH} {H : Heap} {ls : Array Slot} {Q : State → Prop} (cx : lw_Cx p s m meth c D kc b L xs ad) (hi : i + 4 ≤ L) (hL : L ≤ 2048) (hPI : PI h) (hP : va_P D (p_Cs.map Prod.fst) (p_wm kc ad pN h) H) (hS : va_S (fun q : Nat => s.heap.size ≤ q) s.heap H []) (hl : lv_has ls 4 (lw_lv b ad i))
    (kk : ∀ (h1 : pH) (H1 : Heap), PI h1 → va_P D (p_Cs.map Prod.fst) (p_wm kc ad pN h1) H1 → va_S (fun q : Nat => s.heap.size ≤ q) s.heap H1 [] → W p l e room_1 s m #[Value.ref b] below meth c H1 [] 600000 7302250 Q (F0 m 785 ls [])) : W p l e room_1 s m #[Value.ref b] below meth c H [] 600000 7302250 Q (F0 m 642 ls []) := by
  obtain ⟨hx, hb, hml, hown, hts, hX, hbl, hbA, inj, hAd, hK, hN⟩ := id cx
  obtain ⟨fs0, hh0⟩ := hPI.x
  refine lv_aload_n hx hb dlw_642 rfl (lv_at hl 1 rfl) ?_
  refine lw_call cx (M' := mX9_matches) (na := 0) (ci := 8) (q := 0) (vs := []) (rest := []) (List.mem_of_getElem? (i := 104) rfl) dlw_643 (by decide +kernel) (i1 := 776) (by decide +kernel) (i2 := 777) (by decide +kernel) (i3 := 778) (by decide +kernel) (i4 := 62) (by decide +kernel) rfl rfl (by decide) hh0 rfl (Nat.le_of_ble_eq_true rfl) (Nat.le_of_ble_eq_true rfl) (C_matches hPI) hP hS hl.1 (fun r1 h1 H1 q1 hP hS => ?_)
  obtain ⟨M, z, xM, rfl, ev2⟩ := q1
  refine lv_aload_n hx hb dlw_646 rfl (lv_at hl 2 rfl) ?_
  refine lw_call cx (M' := mX10_matches) (na := 0) (ci := 9) (q := 73) (vs := []) (rest := [.long z]) (List.mem_of_getElem? (i := 178) rfl) dlw_647 (by decide +kernel) (i1 := 1194) (by decide +kernel) (i2 := 1195) (by decide +kernel) (i3 := 1196) (by decide +kernel) (i4 := 77) (by decide +kernel) rfl rfl (by decide) xM.1 rfl (Nat.le_of_ble_eq_true rfl) (Nat.le_of_ble_eq_true rfl) ev2 hP hS hl.1 (fun r2 h2 H2 q2 hP hS => ?_)
  obtain ⟨rfl, hPI2⟩ := q2
  refine W.lcmp hx hb dlw_650 ?_
  refine lv_if_eq (tgt := 785) hx hb dlw_651 (by decide) (fun _ => ?_) (fun cz => ?_)
  · exact kk h2 H2 hPI2 hP hS
  · exact absurd (lw_cmp z) cz
set_option maxRecDepth 100000 in
theorem lc_puts {p : Program} {l : Launch} {e : Env} {s : State} {m : MethodId} {below : List Frame} {meth : Method} {c : Code} {D : va_G} {kc : ClassId × ClassId × ClassId} {b L i : Nat} {xs : Nat → Int32} {ad : Nat → Nat} {h : pH} {H : Heap} {ls : Array Slot} {Q : State → Prop} (cx : lw_Cx p s m meth c D kc b L xs ad) (hi : i + 4 ≤ L) (hL : L ≤ 2048) (hPI : PI h) (hP : va_P D (p_Cs.map Prod.fst) (p_wm kc ad pN h) H) (hS : va_S (fun q : Nat => s.heap.size ≤ q) s.heap H []) (hl : lv_has ls 4 (lw_lv b ad i))
    (kk : ∀ (h1 : pH) (H1 : Heap), PI h1 → va_P D (p_Cs.map Prod.fst) (p_wm kc ad pN h1) H1 → va_S (fun q : Nat => s.heap.size ≤ q) s.heap H1 [] → W p l e room_1 s m #[Value.ref b] below meth c H1 [] 600000 7302250 Q (F0 m 785 ls [])) : W p l e room_1 s m #[Value.ref b] below meth c H [] 600000 7302250 Q (F0 m 656 ls []) := by
  obtain ⟨hx, hb, hml, hown, hts, hX, hbl, hbA, inj, hAd, hK, hN⟩ := id cx
  obtain ⟨fs0, hh0⟩ := hPI.x
  refine lv_aload_n hx hb dlw_656 rfl (lv_at hl 1 rfl) ?_
  refine lw_arg cx (k := 1) (by decide) (by omega) hL hS hl dlw_657 dlw_658 dlw_659 dlw_660 dlw_661 ?_
  refine lw_arg cx (k := 2) (by decide) (by omega) hL hS hl dlw_662 dlw_663 dlw_664 dlw_665 dlw_666 ?_
  refine lw_call cx (M' := mX9_puts) (na := 2) (ci := 8) (q := 0) (vs := [.int (xs (i + 1)), .int (xs (i + 2))]) (rest := []) (List.mem_of_getElem? (i := 105) rfl) dlw_667 (by decide +kernel) (i1 := 839) (by decide +kernel) (i2 := 840) (by decide +kernel) (i3 := 841) (by decide +kernel) (i4 := 62) (by decide +kernel) rfl rfl (by decide) hh0 rfl (Nat.le_of_ble_eq_true rfl) (Nat.le_of_ble_eq_true rfl) (C_puts hPI (xs (i + 1)) (xs (i + 2))) hP hS hl.1 (fun r1 h1 H1 q1 hP hS => ?_)
  obtain ⟨M, z, xM, rfl, ev2⟩ := q1
  refine lv_aload_n hx hb dlw_670 rfl (lv_at hl 2 rfl) ?_
  refine lw_arg cx (k := 1) (by decide) (by omega) hL hS hl dlw_671 dlw_672 dlw_673 dlw_674 dlw_675 ?_
  refine lw_arg cx (k := 2) (by decide) (by omega) hL hS hl dlw_676 dlw_677 dlw_678 dlw_679 dlw_680 ?_
  refine lw_call cx (M' := mX10_puts) (na := 2) (ci := 9) (q := 73) (vs := [.int (xs (i + 1)), .int (xs (i + 2))]) (rest := [.long z]) (List.mem_of_getElem? (i := 179) rfl) dlw_681 (by decide +kernel) (i1 := 1211) (by decide +kernel) (i2 := 1212) (by decide +kernel) (i3 := 1213) (by decide +kernel) (i4 := 77) (by decide +kernel) rfl rfl (by decide) xM.1 rfl (Nat.le_of_ble_eq_true rfl) (Nat.le_of_ble_eq_true rfl) ev2 hP hS hl.1 (fun r2 h2 H2 q2 hP hS => ?_)
  obtain ⟨rfl, hPI2⟩ := q2
  refine W.lcmp hx hb dlw_684 ?_
  refine lv_if_eq (tgt := 785) hx hb dlw_685 (by decide) (fun _ => ?_) (fun cz => ?_)
  · exact kk h2 H2 hPI2 hP hS
  · exact absurd (lw_cmp z) cz
set_option maxRecDepth 100000 in
theorem lc_useful {p : Program} {l : Launch} {e : Env} {s : State} {m : MethodId} {below : List Frame} {meth : Method} {c : Code} {D : va_G} {kc : ClassId × ClassId × ClassId} {b L i : Nat} {xs : Nat → Int32} {ad : Nat → Nat} {h : pH} {H : Heap} {ls : Array Slot} {Q : State → Prop} (cx : lw_Cx p s m meth c D kc b L xs ad) (hi : i + 4 ≤ L) (hL : L ≤ 2048) (hPI : PI h) (hP : va_P D (p_Cs.map Prod.fst) (p_wm kc ad pN h) H) (hS : va_S (fun q : Nat => s.heap.size ≤ q) s.heap H []) (hl : lv_has ls 4 (lw_lv b ad i))
    (kk : ∀ (h1 : pH) (H1 : Heap), PI h1 → va_P D (p_Cs.map Prod.fst) (p_wm kc ad pN h1) H1 → va_S (fun q : Nat => s.heap.size ≤ q) s.heap H1 [] → W p l e room_1 s m #[Value.ref b] below meth c H1 [] 600000 7302250 Q (F0 m 785 ls [])) : W p l e room_1 s m #[Value.ref b] below meth c H [] 600000 7302250 Q (F0 m 690 ls []) := by
  obtain ⟨hx, hb, hml, hown, hts, hX, hbl, hbA, inj, hAd, hK, hN⟩ := id cx
  obtain ⟨fs0, hh0⟩ := hPI.x
  refine lv_aload_n hx hb dlw_690 rfl (lv_at hl 1 rfl) ?_
  refine lw_arg cx (k := 1) (by decide) (by omega) hL hS hl dlw_691 dlw_692 dlw_693 dlw_694 dlw_695 ?_
  refine lw_call cx (M' := mX9_useful) (na := 1) (ci := 8) (q := 0) (vs := [.int (xs (i + 1))]) (rest := []) (List.mem_of_getElem? (i := 106) rfl) dlw_696 (by decide +kernel) (i1 := 848) (by decide +kernel) (i2 := 849) (by decide +kernel) (i3 := 850) (by decide +kernel) (i4 := 62) (by decide +kernel) rfl rfl (by decide) hh0 rfl (Nat.le_of_ble_eq_true rfl) (Nat.le_of_ble_eq_true rfl) (C_useful hPI (xs (i + 1))) hP hS hl.1 (fun r1 h1 H1 q1 hP hS => ?_)
  obtain ⟨M, z, xM, rfl, ev2⟩ := q1
  refine lv_aload_n hx hb dlw_699 rfl (lv_at hl 2 rfl) ?_
  refine lw_arg cx (k := 1) (by decide) (by omega) hL hS hl dlw_700 dlw_701 dlw_702 dlw_703 dlw_704 ?_
  refine lw_call cx (M' := mX10_useful) (na := 1) (ci := 9) (q := 73) (vs := [.int (xs (i + 1))]) (rest := [.int z]) (List.mem_of_getElem? (i := 181) rfl) dlw_705 (by decide +kernel) (i1 := 1216) (by decide +kernel) (i2 := 1217) (by decide +kernel) (i3 := 1218) (by decide +kernel) (i4 := 77) (by decide +kernel) rfl rfl (by decide) xM.1 rfl (Nat.le_of_ble_eq_true rfl) (Nat.le_of_ble_eq_true rfl) ev2 hP hS hl.1 (fun r2 h2 H2 q2 hP hS => ?_)
  obtain ⟨rfl, hPI2⟩ := q2
  refine lv_icmp_eq (tgt := 785) hx hb dlw_708 (by decide) (fun _ => ?_) (fun cz => ?_)
  · exact kk h2 H2 hPI2 hP hS
  · exact absurd rfl cz
set_option maxRecDepth 100000 in
theorem lc_end {p : Program} {l : Launch} {e : Env} {s : State} {m : MethodId} {below : List Frame} {meth : Method} {c : Code} {D : va_G} {kc : ClassId × ClassId × ClassId} {b L i : Nat} {xs : Nat → Int32} {ad : Nat → Nat} {h : pH} {H : Heap} {ls : Array Slot} {Q : State → Prop} (cx : lw_Cx p s m meth c D kc b L xs ad) (hi : i + 4 ≤ L) (hL : L ≤ 2048) (hPI : PI h) (hP : va_P D (p_Cs.map Prod.fst) (p_wm kc ad pN h) H) (hS : va_S (fun q : Nat => s.heap.size ≤ q) s.heap H []) (hl : lv_has ls 4 (lw_lv b ad i))
    (kk : ∀ (h1 : pH) (H1 : Heap), PI h1 → va_P D (p_Cs.map Prod.fst) (p_wm kc ad pN h1) H1 → va_S (fun q : Nat => s.heap.size ≤ q) s.heap H1 [] → W p l e room_1 s m #[Value.ref b] below meth c H1 [] 600000 7302250 Q (F0 m 785 ls [])) : W p l e room_1 s m #[Value.ref b] below meth c H [] 600000 7302250 Q (F0 m 713 ls []) := by
  obtain ⟨hx, hb, hml, hown, hts, hX, hbl, hbA, inj, hAd, hK, hN⟩ := id cx
  obtain ⟨fs0, hh0⟩ := hPI.x
  refine lv_aload_n hx hb dlw_713 rfl (lv_at hl 1 rfl) ?_
  refine lw_arg cx (k := 1) (by decide) (by omega) hL hS hl dlw_714 dlw_715 dlw_716 dlw_717 dlw_718 ?_
  refine lw_call cx (M' := mX9_end) (na := 1) (ci := 8) (q := 0) (vs := [.int (xs (i + 1))]) (rest := []) (List.mem_of_getElem? (i := 107) rfl) dlw_719 (by decide +kernel) (i1 := 852) (by decide +kernel) (i2 := 853) (by decide +kernel) (i3 := 854) (by decide +kernel) (i4 := 62) (by decide +kernel) rfl rfl (by decide) hh0 rfl (Nat.le_of_ble_eq_true rfl) (Nat.le_of_ble_eq_true rfl) (C_end hPI (xs (i + 1))) hP hS hl.1 (fun r1 h1 H1 q1 hP hS => ?_)
  obtain ⟨M, z, xM, rfl, ev2⟩ := q1
  refine lv_aload_n hx hb dlw_722 rfl (lv_at hl 2 rfl) ?_
  refine lw_arg cx (k := 1) (by decide) (by omega) hL hS hl dlw_723 dlw_724 dlw_725 dlw_726 dlw_727 ?_
  refine lw_call cx (M' := mX10_end) (na := 1) (ci := 9) (q := 73) (vs := [.int (xs (i + 1))]) (rest := [.int z]) (List.mem_of_getElem? (i := 182) rfl) dlw_728 (by decide +kernel) (i1 := 1224) (by decide +kernel) (i2 := 1225) (by decide +kernel) (i3 := 1226) (by decide +kernel) (i4 := 77) (by decide +kernel) rfl rfl (by decide) xM.1 rfl (Nat.le_of_ble_eq_true rfl) (Nat.le_of_ble_eq_true rfl) ev2 hP hS hl.1 (fun r2 h2 H2 q2 hP hS => ?_)
  obtain ⟨rfl, hPI2⟩ := q2
  refine lv_icmp_eq (tgt := 785) hx hb dlw_731 (by decide) (fun _ => ?_) (fun cz => ?_)
  · exact kk h2 H2 hPI2 hP hS
  · exact absurd rfl cz
set_option maxRecDepth 100000 in
theorem lc_keep {p : Program} {l : Launch} {e : Env} {s : State} {m : MethodId} {below : List Frame} {meth : Method} {c : Code} {D : va_G} {kc : ClassId × ClassId × ClassId} {b L i : Nat} {xs : Nat → Int32} {ad : Nat → Nat} {h : pH} {H : Heap} {ls : Array Slot} {Q : State → Prop} (cx : lw_Cx p s m meth c D kc b L xs ad) (hi : i + 4 ≤ L) (hL : L ≤ 2048) (hPI : PI h) (hP : va_P D (p_Cs.map Prod.fst) (p_wm kc ad pN h) H) (hS : va_S (fun q : Nat => s.heap.size ≤ q) s.heap H []) (hl : lv_has ls 4 (lw_lv b ad i))
    (kk : ∀ (h1 : pH) (H1 : Heap), PI h1 → va_P D (p_Cs.map Prod.fst) (p_wm kc ad pN h1) H1 → va_S (fun q : Nat => s.heap.size ≤ q) s.heap H1 [] → W p l e room_1 s m #[Value.ref b] below meth c H1 [] 600000 7302250 Q (F0 m 785 ls [])) : W p l e room_1 s m #[Value.ref b] below meth c H [] 600000 7302250 Q (F0 m 736 ls []) := by
  obtain ⟨hx, hb, hml, hown, hts, hX, hbl, hbA, inj, hAd, hK, hN⟩ := id cx
  obtain ⟨fs0, hh0⟩ := hPI.x
  refine lv_aload_n hx hb dlw_736 rfl (lv_at hl 1 rfl) ?_
  refine lw_call cx (M' := mX9_keep) (na := 0) (ci := 8) (q := 0) (vs := []) (rest := []) (List.mem_of_getElem? (i := 108) rfl) dlw_737 (by decide +kernel) (i1 := 860) (by decide +kernel) (i2 := 861) (by decide +kernel) (i3 := 862) (by decide +kernel) (i4 := 62) (by decide +kernel) rfl rfl (by decide) hh0 rfl (Nat.le_of_ble_eq_true rfl) (Nat.le_of_ble_eq_true rfl) (C_keep hPI) hP hS hl.1 (fun r1 h1 H1 q1 hP hS => ?_)
  obtain ⟨M, z, xM, rfl, ev2⟩ := q1
  refine lv_aload_n hx hb dlw_740 rfl (lv_at hl 2 rfl) ?_
  refine lw_call cx (M' := mX10_keep) (na := 0) (ci := 9) (q := 73) (vs := []) (rest := [.int z]) (List.mem_of_getElem? (i := 150) rfl) dlw_741 (by decide +kernel) (i1 := 1096) (by decide +kernel) (i2 := 1097) (by decide +kernel) (i3 := 1098) (by decide +kernel) (i4 := 77) (by decide +kernel) rfl rfl (by decide) xM.1 rfl (Nat.le_of_ble_eq_true rfl) (Nat.le_of_ble_eq_true rfl) ev2 hP hS hl.1 (fun r2 h2 H2 q2 hP hS => ?_)
  obtain ⟨rfl, hPI2⟩ := q2
  refine lv_icmp_eq (tgt := 785) hx hb dlw_744 (by decide) (fun _ => ?_) (fun cz => ?_)
  · exact kk h2 H2 hPI2 hP hS
  · exact absurd rfl cz
set_option maxRecDepth 100000 in
theorem lc_back {p : Program} {l : Launch} {e : Env} {s : State} {m : MethodId} {below : List Frame} {meth : Method} {c : Code} {D : va_G} {kc : ClassId × ClassId × ClassId} {b L i : Nat} {xs : Nat → Int32} {ad : Nat → Nat} {h : pH} {H : Heap} {ls : Array Slot} {Q : State → Prop} (cx : lw_Cx p s m meth c D kc b L xs ad) (hi : i + 4 ≤ L) (hL : L ≤ 2048) (hPI : PI h) (hP : va_P D (p_Cs.map Prod.fst) (p_wm kc ad pN h) H) (hS : va_S (fun q : Nat => s.heap.size ≤ q) s.heap H []) (hl : lv_has ls 4 (lw_lv b ad i))
    (kk : ∀ (h1 : pH) (H1 : Heap), PI h1 → va_P D (p_Cs.map Prod.fst) (p_wm kc ad pN h1) H1 → va_S (fun q : Nat => s.heap.size ≤ q) s.heap H1 [] → W p l e room_1 s m #[Value.ref b] below meth c H1 [] 600000 7302250 Q (F0 m 785 ls [])) : W p l e room_1 s m #[Value.ref b] below meth c H [] 600000 7302250 Q (F0 m 749 ls []) := by
  obtain ⟨hx, hb, hml, hown, hts, hX, hbl, hbA, inj, hAd, hK, hN⟩ := id cx
  obtain ⟨fs0, hh0⟩ := hPI.x
  refine lv_aload_n hx hb dlw_749 rfl (lv_at hl 1 rfl) ?_
  refine lw_call cx (M' := mX9_back) (na := 0) (ci := 8) (q := 0) (vs := []) (rest := []) (List.mem_of_getElem? (i := 109) rfl) dlw_750 (by decide +kernel) (i1 := 868) (by decide +kernel) (i2 := 869) (by decide +kernel) (i3 := 870) (by decide +kernel) (i4 := 62) (by decide +kernel) rfl rfl (by decide) hh0 rfl (Nat.le_of_ble_eq_true rfl) (Nat.le_of_ble_eq_true rfl) (C_back hPI) hP hS hl.1 (fun r1 h1 H1 q1 hP hS => ?_)
  obtain ⟨M, z, xM, rfl, ev2⟩ := q1
  refine lv_aload_n hx hb dlw_753 rfl (lv_at hl 2 rfl) ?_
  refine lw_call cx (M' := mX10_back) (na := 0) (ci := 9) (q := 73) (vs := []) (rest := [.int z]) (List.mem_of_getElem? (i := 151) rfl) dlw_754 (by decide +kernel) (i1 := 1100) (by decide +kernel) (i2 := 1101) (by decide +kernel) (i3 := 1102) (by decide +kernel) (i4 := 77) (by decide +kernel) rfl rfl (by decide) xM.1 rfl (Nat.le_of_ble_eq_true rfl) (Nat.le_of_ble_eq_true rfl) ev2 hP hS hl.1 (fun r2 h2 H2 q2 hP hS => ?_)
  obtain ⟨rfl, hPI2⟩ := q2
  refine lv_icmp_eq (tgt := 785) hx hb dlw_757 (by decide) (fun _ => ?_) (fun cz => ?_)
  · exact kk h2 H2 hPI2 hP hS
  · exact absurd rfl cz
set_option maxRecDepth 100000 in
theorem lc_count {p : Program} {l : Launch} {e : Env} {s : State} {m : MethodId} {below : List Frame} {meth : Method} {c : Code} {D : va_G} {kc : ClassId × ClassId × ClassId} {b L i : Nat} {xs : Nat → Int32} {ad : Nat → Nat} {h : pH} {H : Heap} {ls : Array Slot} {Q : State → Prop} (cx : lw_Cx p s m meth c D kc b L xs ad) (hi : i + 4 ≤ L) (hL : L ≤ 2048) (hPI : PI h) (hP : va_P D (p_Cs.map Prod.fst) (p_wm kc ad pN h) H) (hS : va_S (fun q : Nat => s.heap.size ≤ q) s.heap H []) (hl : lv_has ls 4 (lw_lv b ad i))
    (kk : ∀ (h1 : pH) (H1 : Heap), PI h1 → va_P D (p_Cs.map Prod.fst) (p_wm kc ad pN h1) H1 → va_S (fun q : Nat => s.heap.size ≤ q) s.heap H1 [] → W p l e room_1 s m #[Value.ref b] below meth c H1 [] 600000 7302250 Q (F0 m 785 ls [])) : W p l e room_1 s m #[Value.ref b] below meth c H [] 600000 7302250 Q (F0 m 762 ls []) := by
  obtain ⟨hx, hb, hml, hown, hts, hX, hbl, hbA, inj, hAd, hK, hN⟩ := id cx
  obtain ⟨fs0, hh0⟩ := hPI.x
  refine lv_aload_n hx hb dlw_762 rfl (lv_at hl 1 rfl) ?_
  refine lw_arg cx (k := 1) (by decide) (by omega) hL hS hl dlw_763 dlw_764 dlw_765 dlw_766 dlw_767 ?_
  refine lw_call cx (M' := mX9_count) (na := 1) (ci := 8) (q := 0) (vs := [.int (xs (i + 1))]) (rest := []) (List.mem_of_getElem? (i := 110) rfl) dlw_768 (by decide +kernel) (i1 := 872) (by decide +kernel) (i2 := 873) (by decide +kernel) (i3 := 874) (by decide +kernel) (i4 := 62) (by decide +kernel) rfl rfl (by decide) hh0 rfl (Nat.le_of_ble_eq_true rfl) (Nat.le_of_ble_eq_true rfl) (C_count hPI (xs (i + 1))) hP hS hl.1 (fun r1 h1 H1 q1 hP hS => ?_)
  obtain ⟨M, z, xM, rfl, ev2⟩ := q1
  refine lv_aload_n hx hb dlw_771 rfl (lv_at hl 2 rfl) ?_
  refine lw_arg cx (k := 1) (by decide) (by omega) hL hS hl dlw_772 dlw_773 dlw_774 dlw_775 dlw_776 ?_
  refine lw_call cx (M' := mX10_count) (na := 1) (ci := 9) (q := 73) (vs := [.int (xs (i + 1))]) (rest := [.int z]) (List.mem_of_getElem? (i := 185) rfl) dlw_777 (by decide +kernel) (i1 := 1228) (by decide +kernel) (i2 := 1229) (by decide +kernel) (i3 := 1230) (by decide +kernel) (i4 := 77) (by decide +kernel) rfl rfl (by decide) xM.1 rfl (Nat.le_of_ble_eq_true rfl) (Nat.le_of_ble_eq_true rfl) ev2 hP hS hl.1 (fun r2 h2 H2 q2 hP hS => ?_)
  obtain ⟨rfl, hPI2⟩ := q2
  refine lv_icmp_eq (tgt := 785) hx hb dlw_780 (by decide) (fun _ => ?_) (fun cz => ?_)
  · exact kk h2 H2 hPI2 hP hS
  · exact absurd rfl cz
