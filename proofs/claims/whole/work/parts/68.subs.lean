/-! the constructors of the nested classes (written by program: wip/whole/gen68.py) -/
theorem dX1_init_0 : decode cX1_init 0 = .ok (.aload_n 0, 1) := by decide +kernel
theorem dX1_init_1 : decode cX1_init 1 = .ok (.invokespecial 3, 3) := by decide +kernel
theorem dX1_init_4 : decode cX1_init 4 = .ok (.aload_n 0, 1) := by decide +kernel
theorem dX1_init_5 : decode cX1_init 5 = .ok (.sipush 200, 3) := by decide +kernel
theorem dX1_init_8 : decode cX1_init 8 = .ok (.newarray .int, 2) := by decide +kernel
theorem dX1_init_10 : decode cX1_init 10 = .ok (.putfield 9, 3) := by decide +kernel
theorem dX1_init_13 : decode cX1_init 13 = .ok (.return_, 1) := by decide +kernel
def iX1 : pM := (yX1_init, cX1_init, 1, none, 93, [])
def wX1 (kc : ClassId × ClassId × ClassId) (h0 : Nat) (u : Nat → Nat) : va_W := (h0, .inr (0, [.ref (u 0), .int 0])) :: ([] ++ [(u 0, .inl (kc.1, 200, .inl (fun _ => 0)))])
def zX1 (h0 : Nat) : va_W := [(h0, .inr (0, [.null, .int 0]))]
set_option maxRecDepth 100000 in
theorem cX1_new (l : Launch) (D : va_G) (kc : ClassId × ClassId × ClassId) (h0 sz : Nat) : Met l iX1.1 (p_ws iX1) (k_rm 1 1 200) (va_Pc (.ref h0 :: []) (k_B D kc (zX1 h0) sz)) (k_Q D (wX1 kc h0) (va_A (zX1 h0) sz)) 1 200 (va_A (zX1 h0) sz) := by
  refine k_open (M := iX1) (by decide +kernel) rfl rfl (Nat.le_of_ble_eq_true rfl) ?_
  intro p e s m args below meth c ls cx hsz hP hD hA hl
  obtain ⟨hx, hb, -⟩ := id cx
  have hS : va_S (va_A (zX1 h0) s.heap.size) s.heap s.heap [] := va_S.rf
  generalize va_A (zX1 h0) s.heap.size = A at hD hA hS ⊢
  refine k_obj cx (i1 := 94) (i2 := 87) (i3 := 88) (r := _) hl dX1_init_0 dX1_init_1 (by decide +kernel) (by decide +kernel) (by decide +kernel) (Nat.le_of_ble_eq_true rfl) (Nat.le_of_ble_eq_true rfl) ?_
  refine lv_aload_n hx hb dX1_init_4 rfl (lv_at hl 0 rfl) ?_
  refine lv_sipush (v := 200) hx hb dX1_init_5 (by decide) ?_
  refine k_arr cx (k := 0) (N := 200) (i1 := 102) (i2 := 95) hP hD hS hA rfl (by decide) rfl rfl (by simp) (by decide +kernel) (by decide +kernel) rfl (by decide) (by decide) (by decide) (Nat.le_of_ble_eq_true rfl) (Nat.le_of_ble_eq_true rfl) dX1_init_8 dX1_init_10 (fun q0 H locs hP hD hS => ?_)
  exact k_ret cx (fun j => [q0].getD j 0) hP hD hS dX1_init_13
theorem dX8_init_0 : decode cX8_init 0 = .ok (.aload_n 0, 1) := by decide +kernel
theorem dX8_init_1 : decode cX8_init 1 = .ok (.invokespecial 3, 3) := by decide +kernel
theorem dX8_init_4 : decode cX8_init 4 = .ok (.aload_n 0, 1) := by decide +kernel
theorem dX8_init_5 : decode cX8_init 5 = .ok (.iconst 3, 1) := by decide +kernel
theorem dX8_init_6 : decode cX8_init 6 = .ok (.newarray .int, 2) := by decide +kernel
theorem dX8_init_8 : decode cX8_init 8 = .ok (.putfield 9, 3) := by decide +kernel
theorem dX8_init_11 : decode cX8_init 11 = .ok (.return_, 1) := by decide +kernel
def iX8 : pM := (yX8_init, cX8_init, 1, none, 107, [])
def wX8 (kc : ClassId × ClassId × ClassId) (h0 : Nat) (u : Nat → Nat) : va_W := (h0, .inr (7, [.ref (u 0), .int 0, .int 0])) :: ([] ++ [(u 0, .inl (kc.1, 3, .inl (fun _ => 0)))])
def zX8 (h0 : Nat) : va_W := [(h0, .inr (7, [.null, .int 0, .int 0]))]
set_option maxRecDepth 100000 in
theorem cX8_new (l : Launch) (D : va_G) (kc : ClassId × ClassId × ClassId) (h0 sz : Nat) : Met l iX8.1 (p_ws iX8) (k_rm 1 1 3) (va_Pc (.ref h0 :: []) (k_B D kc (zX8 h0) sz)) (k_Q D (wX8 kc h0) (va_A (zX8 h0) sz)) 1 3 (va_A (zX8 h0) sz) := by
  refine k_open (M := iX8) (by decide +kernel) rfl rfl (Nat.le_of_ble_eq_true rfl) ?_
  intro p e s m args below meth c ls cx hsz hP hD hA hl
  obtain ⟨hx, hb, -⟩ := id cx
  have hS : va_S (va_A (zX8 h0) s.heap.size) s.heap s.heap [] := va_S.rf
  generalize va_A (zX8 h0) s.heap.size = A at hD hA hS ⊢
  refine k_obj cx (i1 := 108) (i2 := 87) (i3 := 88) (r := _) hl dX8_init_0 dX8_init_1 (by decide +kernel) (by decide +kernel) (by decide +kernel) (Nat.le_of_ble_eq_true rfl) (Nat.le_of_ble_eq_true rfl) ?_
  refine lv_aload_n hx hb dX8_init_4 rfl (lv_at hl 0 rfl) ?_
  refine lv_iconst (v := 3) hx hb dX8_init_5 (by decide) ?_
  refine k_arr cx (k := 0) (N := 3) (i1 := 102) (i2 := 109) hP hD hS hA rfl (by decide) rfl rfl (by simp) (by decide +kernel) (by decide +kernel) rfl (by decide) (by decide) (by decide) (Nat.le_of_ble_eq_true rfl) (Nat.le_of_ble_eq_true rfl) dX8_init_6 dX8_init_8 (fun q0 H locs hP hD hS => ?_)
  exact k_ret cx (fun j => [q0].getD j 0) hP hD hS dX8_init_11
theorem dX6_init_0 : decode cX6_init 0 = .ok (.aload_n 0, 1) := by decide +kernel
theorem dX6_init_1 : decode cX6_init 1 = .ok (.invokespecial 3, 3) := by decide +kernel
theorem dX6_init_4 : decode cX6_init 4 = .ok (.aload_n 0, 1) := by decide +kernel
theorem dX6_init_5 : decode cX6_init 5 = .ok (.bipush 8, 2) := by decide +kernel
theorem dX6_init_7 : decode cX6_init 7 = .ok (.newarray .int, 2) := by decide +kernel
theorem dX6_init_9 : decode cX6_init 9 = .ok (.putfield 9, 3) := by decide +kernel
theorem dX6_init_12 : decode cX6_init 12 = .ok (.return_, 1) := by decide +kernel
def iX6 : pM := (yX6_init, cX6_init, 1, none, 123, [])
def wX6 (kc : ClassId × ClassId × ClassId) (h0 : Nat) (u : Nat → Nat) : va_W := (h0, .inr (5, [.ref (u 0), .int 0, .int 0, .int 0, .int 0])) :: ([] ++ [(u 0, .inl (kc.1, 8, .inl (fun _ => 0)))])
def zX6 (h0 : Nat) : va_W := [(h0, .inr (5, [.null, .int 0, .int 0, .int 0, .int 0]))]
set_option maxRecDepth 100000 in
theorem cX6_new (l : Launch) (D : va_G) (kc : ClassId × ClassId × ClassId) (h0 sz : Nat) : Met l iX6.1 (p_ws iX6) (k_rm 1 1 8) (va_Pc (.ref h0 :: []) (k_B D kc (zX6 h0) sz)) (k_Q D (wX6 kc h0) (va_A (zX6 h0) sz)) 1 8 (va_A (zX6 h0) sz) := by
  refine k_open (M := iX6) (by decide +kernel) rfl rfl (Nat.le_of_ble_eq_true rfl) ?_
  intro p e s m args below meth c ls cx hsz hP hD hA hl
  obtain ⟨hx, hb, -⟩ := id cx
  have hS : va_S (va_A (zX6 h0) s.heap.size) s.heap s.heap [] := va_S.rf
  generalize va_A (zX6 h0) s.heap.size = A at hD hA hS ⊢
  refine k_obj cx (i1 := 124) (i2 := 87) (i3 := 88) (r := _) hl dX6_init_0 dX6_init_1 (by decide +kernel) (by decide +kernel) (by decide +kernel) (Nat.le_of_ble_eq_true rfl) (Nat.le_of_ble_eq_true rfl) ?_
  refine lv_aload_n hx hb dX6_init_4 rfl (lv_at hl 0 rfl) ?_
  refine lv_bipush (v := 8) hx hb dX6_init_5 (by decide) ?_
  refine k_arr cx (k := 0) (N := 8) (i1 := 102) (i2 := 125) hP hD hS hA rfl (by decide) rfl rfl (by simp) (by decide +kernel) (by decide +kernel) rfl (by decide) (by decide) (by decide) (Nat.le_of_ble_eq_true rfl) (Nat.le_of_ble_eq_true rfl) dX6_init_7 dX6_init_9 (fun q0 H locs hP hD hS => ?_)
  exact k_ret cx (fun j => [q0].getD j 0) hP hD hS dX6_init_12
theorem dX7_init_0 : decode cX7_init 0 = .ok (.aload_n 0, 1) := by decide +kernel
theorem dX7_init_1 : decode cX7_init 1 = .ok (.invokespecial 3, 3) := by decide +kernel
theorem dX7_init_4 : decode cX7_init 4 = .ok (.aload_n 0, 1) := by decide +kernel
theorem dX7_init_5 : decode cX7_init 5 = .ok (.bipush 24, 2) := by decide +kernel
theorem dX7_init_7 : decode cX7_init 7 = .ok (.newarray .int, 2) := by decide +kernel
theorem dX7_init_9 : decode cX7_init 9 = .ok (.putfield 9, 3) := by decide +kernel
theorem dX7_init_12 : decode cX7_init 12 = .ok (.aload_n 0, 1) := by decide +kernel
theorem dX7_init_13 : decode cX7_init 13 = .ok (.bipush 24, 2) := by decide +kernel
theorem dX7_init_15 : decode cX7_init 15 = .ok (.newarray .int, 2) := by decide +kernel
theorem dX7_init_17 : decode cX7_init 17 = .ok (.putfield 15, 3) := by decide +kernel
theorem dX7_init_20 : decode cX7_init 20 = .ok (.aload_n 0, 1) := by decide +kernel
theorem dX7_init_21 : decode cX7_init 21 = .ok (.bipush 24, 2) := by decide +kernel
theorem dX7_init_23 : decode cX7_init 23 = .ok (.newarray .int, 2) := by decide +kernel
theorem dX7_init_25 : decode cX7_init 25 = .ok (.putfield 18, 3) := by decide +kernel
theorem dX7_init_28 : decode cX7_init 28 = .ok (.return_, 1) := by decide +kernel
def iX7 : pM := (yX7_init, cX7_init, 1, none, 145, [])
def wX7 (kc : ClassId × ClassId × ClassId) (h0 : Nat) (u : Nat → Nat) : va_W := (h0, .inr (6, [.ref (u 0), .ref (u 1), .ref (u 2), .int 0, .int 0, .int 0])) :: ((([] ++ [(u 0, .inl (kc.1, 24, .inl (fun _ => 0)))]) ++ [(u 1, .inl (kc.1, 24, .inl (fun _ => 0)))]) ++ [(u 2, .inl (kc.1, 24, .inl (fun _ => 0)))])
def zX7 (h0 : Nat) : va_W := [(h0, .inr (6, [.null, .null, .null, .int 0, .int 0, .int 0]))]
set_option maxRecDepth 100000 in
theorem cX7_new (l : Launch) (D : va_G) (kc : ClassId × ClassId × ClassId) (h0 sz : Nat) : Met l iX7.1 (p_ws iX7) (k_rm 1 3 72) (va_Pc (.ref h0 :: []) (k_B D kc (zX7 h0) sz)) (k_Q D (wX7 kc h0) (va_A (zX7 h0) sz)) 3 72 (va_A (zX7 h0) sz) := by
  refine k_open (M := iX7) (by decide +kernel) rfl rfl (Nat.le_of_ble_eq_true rfl) ?_
  intro p e s m args below meth c ls cx hsz hP hD hA hl
  obtain ⟨hx, hb, -⟩ := id cx
  have hS : va_S (va_A (zX7 h0) s.heap.size) s.heap s.heap [] := va_S.rf
  generalize va_A (zX7 h0) s.heap.size = A at hD hA hS ⊢
  refine k_obj cx (i1 := 146) (i2 := 87) (i3 := 88) (r := _) hl dX7_init_0 dX7_init_1 (by decide +kernel) (by decide +kernel) (by decide +kernel) (Nat.le_of_ble_eq_true rfl) (Nat.le_of_ble_eq_true rfl) ?_
  refine lv_aload_n hx hb dX7_init_4 rfl (lv_at hl 0 rfl) ?_
  refine lv_bipush (v := 24) hx hb dX7_init_5 (by decide) ?_
  refine k_arr cx (k := 0) (N := 24) (i1 := 102) (i2 := 147) hP hD hS hA rfl (by decide) rfl rfl (by simp) (by decide +kernel) (by decide +kernel) rfl (by decide) (by decide) (by decide) (Nat.le_of_ble_eq_true rfl) (Nat.le_of_ble_eq_true rfl) dX7_init_7 dX7_init_9 (fun q0 H locs hP hD hS => ?_)
  refine lv_aload_n hx hb dX7_init_12 rfl (lv_at hl 0 rfl) ?_
  refine lv_bipush (v := 24) hx hb dX7_init_13 (by decide) ?_
  refine k_arr cx (k := 1) (N := 24) (i1 := 102) (i2 := 148) hP hD hS hA rfl (by decide) rfl rfl (by simp) (by decide +kernel) (by decide +kernel) rfl (by decide) (by decide) (by decide) (Nat.le_of_ble_eq_true rfl) (Nat.le_of_ble_eq_true rfl) dX7_init_15 dX7_init_17 (fun q1 H locs hP hD hS => ?_)
  refine lv_aload_n hx hb dX7_init_20 rfl (lv_at hl 0 rfl) ?_
  refine lv_bipush (v := 24) hx hb dX7_init_21 (by decide) ?_
  refine k_arr cx (k := 2) (N := 24) (i1 := 102) (i2 := 149) hP hD hS hA rfl (by decide) rfl rfl (by simp) (by decide +kernel) (by decide +kernel) rfl (by decide) (by decide) (by decide) (Nat.le_of_ble_eq_true rfl) (Nat.le_of_ble_eq_true rfl) dX7_init_23 dX7_init_25 (fun q2 H locs hP hD hS => ?_)
  exact k_ret cx (fun j => [q0, q1, q2].getD j 0) hP hD hS dX7_init_28
theorem dX3_init_0 : decode cX3_init 0 = .ok (.aload_n 0, 1) := by decide +kernel
theorem dX3_init_1 : decode cX3_init 1 = .ok (.invokespecial 3, 3) := by decide +kernel
theorem dX3_init_4 : decode cX3_init 4 = .ok (.aload_n 0, 1) := by decide +kernel
theorem dX3_init_5 : decode cX3_init 5 = .ok (.bipush 24, 2) := by decide +kernel
theorem dX3_init_7 : decode cX3_init 7 = .ok (.newarray .int, 2) := by decide +kernel
theorem dX3_init_9 : decode cX3_init 9 = .ok (.putfield 9, 3) := by decide +kernel
theorem dX3_init_12 : decode cX3_init 12 = .ok (.aload_n 0, 1) := by decide +kernel
theorem dX3_init_13 : decode cX3_init 13 = .ok (.bipush 24, 2) := by decide +kernel
theorem dX3_init_15 : decode cX3_init 15 = .ok (.newarray .int, 2) := by decide +kernel
theorem dX3_init_17 : decode cX3_init 17 = .ok (.putfield 15, 3) := by decide +kernel
theorem dX3_init_20 : decode cX3_init 20 = .ok (.aload_n 0, 1) := by decide +kernel
theorem dX3_init_21 : decode cX3_init 21 = .ok (.bipush 24, 2) := by decide +kernel
theorem dX3_init_23 : decode cX3_init 23 = .ok (.newarray .int, 2) := by decide +kernel
theorem dX3_init_25 : decode cX3_init 25 = .ok (.putfield 18, 3) := by decide +kernel
theorem dX3_init_28 : decode cX3_init 28 = .ok (.aload_n 0, 1) := by decide +kernel
theorem dX3_init_29 : decode cX3_init 29 = .ok (.bipush 24, 2) := by decide +kernel
theorem dX3_init_31 : decode cX3_init 31 = .ok (.newarray .int, 2) := by decide +kernel
theorem dX3_init_33 : decode cX3_init 33 = .ok (.putfield 21, 3) := by decide +kernel
theorem dX3_init_36 : decode cX3_init 36 = .ok (.aload_n 0, 1) := by decide +kernel
theorem dX3_init_37 : decode cX3_init 37 = .ok (.bipush 24, 2) := by decide +kernel
theorem dX3_init_39 : decode cX3_init 39 = .ok (.newarray .int, 2) := by decide +kernel
theorem dX3_init_41 : decode cX3_init 41 = .ok (.putfield 24, 3) := by decide +kernel
theorem dX3_init_44 : decode cX3_init 44 = .ok (.aload_n 0, 1) := by decide +kernel
theorem dX3_init_45 : decode cX3_init 45 = .ok (.bipush 24, 2) := by decide +kernel
theorem dX3_init_47 : decode cX3_init 47 = .ok (.newarray .int, 2) := by decide +kernel
theorem dX3_init_49 : decode cX3_init 49 = .ok (.putfield 27, 3) := by decide +kernel
theorem dX3_init_52 : decode cX3_init 52 = .ok (.aload_n 0, 1) := by decide +kernel
theorem dX3_init_53 : decode cX3_init 53 = .ok (.bipush 24, 2) := by decide +kernel
theorem dX3_init_55 : decode cX3_init 55 = .ok (.newarray .int, 2) := by decide +kernel
theorem dX3_init_57 : decode cX3_init 57 = .ok (.putfield 30, 3) := by decide +kernel
theorem dX3_init_60 : decode cX3_init 60 = .ok (.return_, 1) := by decide +kernel
def iX3 : pM := (yX3_init, cX3_init, 1, none, 170, [])
def wX3 (kc : ClassId × ClassId × ClassId) (h0 : Nat) (u : Nat → Nat) : va_W := (h0, .inr (2, [.ref (u 0), .ref (u 1), .ref (u 2), .ref (u 3), .ref (u 4), .ref (u 5), .ref (u 6), .int 0])) :: ((((((([] ++ [(u 0, .inl (kc.1, 24, .inl (fun _ => 0)))]) ++ [(u 1, .inl (kc.1, 24, .inl (fun _ => 0)))]) ++ [(u 2, .inl (kc.1, 24, .inl (fun _ => 0)))]) ++ [(u 3, .inl (kc.1, 24, .inl (fun _ => 0)))]) ++ [(u 4, .inl (kc.1, 24, .inl (fun _ => 0)))]) ++ [(u 5, .inl (kc.1, 24, .inl (fun _ => 0)))]) ++ [(u 6, .inl (kc.1, 24, .inl (fun _ => 0)))])
def zX3 (h0 : Nat) : va_W := [(h0, .inr (2, [.null, .null, .null, .null, .null, .null, .null, .int 0]))]
set_option maxRecDepth 100000 in
theorem cX3_new (l : Launch) (D : va_G) (kc : ClassId × ClassId × ClassId) (h0 sz : Nat) : Met l iX3.1 (p_ws iX3) (k_rm 1 7 168) (va_Pc (.ref h0 :: []) (k_B D kc (zX3 h0) sz)) (k_Q D (wX3 kc h0) (va_A (zX3 h0) sz)) 7 168 (va_A (zX3 h0) sz) := by
  refine k_open (M := iX3) (by decide +kernel) rfl rfl (Nat.le_of_ble_eq_true rfl) ?_
  intro p e s m args below meth c ls cx hsz hP hD hA hl
  obtain ⟨hx, hb, -⟩ := id cx
  have hS : va_S (va_A (zX3 h0) s.heap.size) s.heap s.heap [] := va_S.rf
  generalize va_A (zX3 h0) s.heap.size = A at hD hA hS ⊢
  refine k_obj cx (i1 := 171) (i2 := 87) (i3 := 88) (r := _) hl dX3_init_0 dX3_init_1 (by decide +kernel) (by decide +kernel) (by decide +kernel) (Nat.le_of_ble_eq_true rfl) (Nat.le_of_ble_eq_true rfl) ?_
  refine lv_aload_n hx hb dX3_init_4 rfl (lv_at hl 0 rfl) ?_
  refine lv_bipush (v := 24) hx hb dX3_init_5 (by decide) ?_
  refine k_arr cx (k := 0) (N := 24) (i1 := 102) (i2 := 172) hP hD hS hA rfl (by decide) rfl rfl (by simp) (by decide +kernel) (by decide +kernel) rfl (by decide) (by decide) (by decide) (Nat.le_of_ble_eq_true rfl) (Nat.le_of_ble_eq_true rfl) dX3_init_7 dX3_init_9 (fun q0 H locs hP hD hS => ?_)
  refine lv_aload_n hx hb dX3_init_12 rfl (lv_at hl 0 rfl) ?_
  refine lv_bipush (v := 24) hx hb dX3_init_13 (by decide) ?_
  refine k_arr cx (k := 1) (N := 24) (i1 := 102) (i2 := 173) hP hD hS hA rfl (by decide) rfl rfl (by simp) (by decide +kernel) (by decide +kernel) rfl (by decide) (by decide) (by decide) (Nat.le_of_ble_eq_true rfl) (Nat.le_of_ble_eq_true rfl) dX3_init_15 dX3_init_17 (fun q1 H locs hP hD hS => ?_)
  refine lv_aload_n hx hb dX3_init_20 rfl (lv_at hl 0 rfl) ?_
  refine lv_bipush (v := 24) hx hb dX3_init_21 (by decide) ?_
  refine k_arr cx (k := 2) (N := 24) (i1 := 102) (i2 := 174) hP hD hS hA rfl (by decide) rfl rfl (by simp) (by decide +kernel) (by decide +kernel) rfl (by decide) (by decide) (by decide) (Nat.le_of_ble_eq_true rfl) (Nat.le_of_ble_eq_true rfl) dX3_init_23 dX3_init_25 (fun q2 H locs hP hD hS => ?_)
  refine lv_aload_n hx hb dX3_init_28 rfl (lv_at hl 0 rfl) ?_
  refine lv_bipush (v := 24) hx hb dX3_init_29 (by decide) ?_
  refine k_arr cx (k := 3) (N := 24) (i1 := 102) (i2 := 175) hP hD hS hA rfl (by decide) rfl rfl (by simp) (by decide +kernel) (by decide +kernel) rfl (by decide) (by decide) (by decide) (Nat.le_of_ble_eq_true rfl) (Nat.le_of_ble_eq_true rfl) dX3_init_31 dX3_init_33 (fun q3 H locs hP hD hS => ?_)
  refine lv_aload_n hx hb dX3_init_36 rfl (lv_at hl 0 rfl) ?_
  refine lv_bipush (v := 24) hx hb dX3_init_37 (by decide) ?_
  refine k_arr cx (k := 4) (N := 24) (i1 := 102) (i2 := 176) hP hD hS hA rfl (by decide) rfl rfl (by simp) (by decide +kernel) (by decide +kernel) rfl (by decide) (by decide) (by decide) (Nat.le_of_ble_eq_true rfl) (Nat.le_of_ble_eq_true rfl) dX3_init_39 dX3_init_41 (fun q4 H locs hP hD hS => ?_)
  refine lv_aload_n hx hb dX3_init_44 rfl (lv_at hl 0 rfl) ?_
  refine lv_bipush (v := 24) hx hb dX3_init_45 (by decide) ?_
  refine k_arr cx (k := 5) (N := 24) (i1 := 102) (i2 := 177) hP hD hS hA rfl (by decide) rfl rfl (by simp) (by decide +kernel) (by decide +kernel) rfl (by decide) (by decide) (by decide) (Nat.le_of_ble_eq_true rfl) (Nat.le_of_ble_eq_true rfl) dX3_init_47 dX3_init_49 (fun q5 H locs hP hD hS => ?_)
  refine lv_aload_n hx hb dX3_init_52 rfl (lv_at hl 0 rfl) ?_
  refine lv_bipush (v := 24) hx hb dX3_init_53 (by decide) ?_
  refine k_arr cx (k := 6) (N := 24) (i1 := 102) (i2 := 178) hP hD hS hA rfl (by decide) rfl rfl (by simp) (by decide +kernel) (by decide +kernel) rfl (by decide) (by decide) (by decide) (Nat.le_of_ble_eq_true rfl) (Nat.le_of_ble_eq_true rfl) dX3_init_55 dX3_init_57 (fun q6 H locs hP hD hS => ?_)
  exact k_ret cx (fun j => [q0, q1, q2, q3, q4, q5, q6].getD j 0) hP hD hS dX3_init_60
theorem dX4_init_0 : decode cX4_init 0 = .ok (.aload_n 0, 1) := by decide +kernel
theorem dX4_init_1 : decode cX4_init 1 = .ok (.invokespecial 3, 3) := by decide +kernel
theorem dX4_init_4 : decode cX4_init 4 = .ok (.aload_n 0, 1) := by decide +kernel
theorem dX4_init_5 : decode cX4_init 5 = .ok (.bipush 8, 2) := by decide +kernel
theorem dX4_init_7 : decode cX4_init 7 = .ok (.newarray .int, 2) := by decide +kernel
theorem dX4_init_9 : decode cX4_init 9 = .ok (.putfield 9, 3) := by decide +kernel
theorem dX4_init_12 : decode cX4_init 12 = .ok (.aload_n 0, 1) := by decide +kernel
theorem dX4_init_13 : decode cX4_init 13 = .ok (.bipush 8, 2) := by decide +kernel
theorem dX4_init_15 : decode cX4_init 15 = .ok (.newarray .int, 2) := by decide +kernel
theorem dX4_init_17 : decode cX4_init 17 = .ok (.putfield 15, 3) := by decide +kernel
theorem dX4_init_20 : decode cX4_init 20 = .ok (.aload_n 0, 1) := by decide +kernel
theorem dX4_init_21 : decode cX4_init 21 = .ok (.bipush 8, 2) := by decide +kernel
theorem dX4_init_23 : decode cX4_init 23 = .ok (.newarray .int, 2) := by decide +kernel
theorem dX4_init_25 : decode cX4_init 25 = .ok (.putfield 18, 3) := by decide +kernel
theorem dX4_init_28 : decode cX4_init 28 = .ok (.aload_n 0, 1) := by decide +kernel
theorem dX4_init_29 : decode cX4_init 29 = .ok (.bipush 8, 2) := by decide +kernel
theorem dX4_init_31 : decode cX4_init 31 = .ok (.newarray .int, 2) := by decide +kernel
theorem dX4_init_33 : decode cX4_init 33 = .ok (.putfield 21, 3) := by decide +kernel
theorem dX4_init_36 : decode cX4_init 36 = .ok (.return_, 1) := by decide +kernel
def iX4 : pM := (yX4_init, cX4_init, 1, none, 201, [])
def wX4 (kc : ClassId × ClassId × ClassId) (h0 : Nat) (u : Nat → Nat) : va_W := (h0, .inr (3, [.ref (u 0), .ref (u 1), .ref (u 2), .ref (u 3), .int 0])) :: (((([] ++ [(u 0, .inl (kc.1, 8, .inl (fun _ => 0)))]) ++ [(u 1, .inl (kc.1, 8, .inl (fun _ => 0)))]) ++ [(u 2, .inl (kc.1, 8, .inl (fun _ => 0)))]) ++ [(u 3, .inl (kc.1, 8, .inl (fun _ => 0)))])
def zX4 (h0 : Nat) : va_W := [(h0, .inr (3, [.null, .null, .null, .null, .int 0]))]
set_option maxRecDepth 100000 in
theorem cX4_new (l : Launch) (D : va_G) (kc : ClassId × ClassId × ClassId) (h0 sz : Nat) : Met l iX4.1 (p_ws iX4) (k_rm 1 4 32) (va_Pc (.ref h0 :: []) (k_B D kc (zX4 h0) sz)) (k_Q D (wX4 kc h0) (va_A (zX4 h0) sz)) 4 32 (va_A (zX4 h0) sz) := by
  refine k_open (M := iX4) (by decide +kernel) rfl rfl (Nat.le_of_ble_eq_true rfl) ?_
  intro p e s m args below meth c ls cx hsz hP hD hA hl
  obtain ⟨hx, hb, -⟩ := id cx
  have hS : va_S (va_A (zX4 h0) s.heap.size) s.heap s.heap [] := va_S.rf
  generalize va_A (zX4 h0) s.heap.size = A at hD hA hS ⊢
  refine k_obj cx (i1 := 202) (i2 := 87) (i3 := 88) (r := _) hl dX4_init_0 dX4_init_1 (by decide +kernel) (by decide +kernel) (by decide +kernel) (Nat.le_of_ble_eq_true rfl) (Nat.le_of_ble_eq_true rfl) ?_
  refine lv_aload_n hx hb dX4_init_4 rfl (lv_at hl 0 rfl) ?_
  refine lv_bipush (v := 8) hx hb dX4_init_5 (by decide) ?_
  refine k_arr cx (k := 0) (N := 8) (i1 := 102) (i2 := 203) hP hD hS hA rfl (by decide) rfl rfl (by simp) (by decide +kernel) (by decide +kernel) rfl (by decide) (by decide) (by decide) (Nat.le_of_ble_eq_true rfl) (Nat.le_of_ble_eq_true rfl) dX4_init_7 dX4_init_9 (fun q0 H locs hP hD hS => ?_)
  refine lv_aload_n hx hb dX4_init_12 rfl (lv_at hl 0 rfl) ?_
  refine lv_bipush (v := 8) hx hb dX4_init_13 (by decide) ?_
  refine k_arr cx (k := 1) (N := 8) (i1 := 102) (i2 := 204) hP hD hS hA rfl (by decide) rfl rfl (by simp) (by decide +kernel) (by decide +kernel) rfl (by decide) (by decide) (by decide) (Nat.le_of_ble_eq_true rfl) (Nat.le_of_ble_eq_true rfl) dX4_init_15 dX4_init_17 (fun q1 H locs hP hD hS => ?_)
  refine lv_aload_n hx hb dX4_init_20 rfl (lv_at hl 0 rfl) ?_
  refine lv_bipush (v := 8) hx hb dX4_init_21 (by decide) ?_
  refine k_arr cx (k := 2) (N := 8) (i1 := 102) (i2 := 205) hP hD hS hA rfl (by decide) rfl rfl (by simp) (by decide +kernel) (by decide +kernel) rfl (by decide) (by decide) (by decide) (Nat.le_of_ble_eq_true rfl) (Nat.le_of_ble_eq_true rfl) dX4_init_23 dX4_init_25 (fun q2 H locs hP hD hS => ?_)
  refine lv_aload_n hx hb dX4_init_28 rfl (lv_at hl 0 rfl) ?_
  refine lv_bipush (v := 8) hx hb dX4_init_29 (by decide) ?_
  refine k_arr cx (k := 3) (N := 8) (i1 := 102) (i2 := 206) hP hD hS hA rfl (by decide) rfl rfl (by simp) (by decide +kernel) (by decide +kernel) rfl (by decide) (by decide) (by decide) (Nat.le_of_ble_eq_true rfl) (Nat.le_of_ble_eq_true rfl) dX4_init_31 dX4_init_33 (fun q3 H locs hP hD hS => ?_)
  exact k_ret cx (fun j => [q0, q1, q2, q3].getD j 0) hP hD hS dX4_init_36
theorem dX5_init_0 : decode cX5_init 0 = .ok (.aload_n 0, 1) := by decide +kernel
theorem dX5_init_1 : decode cX5_init 1 = .ok (.invokespecial 3, 3) := by decide +kernel
theorem dX5_init_4 : decode cX5_init 4 = .ok (.aload_n 0, 1) := by decide +kernel
theorem dX5_init_5 : decode cX5_init 5 = .ok (.bipush 8, 2) := by decide +kernel
theorem dX5_init_7 : decode cX5_init 7 = .ok (.newarray .int, 2) := by decide +kernel
theorem dX5_init_9 : decode cX5_init 9 = .ok (.putfield 9, 3) := by decide +kernel
theorem dX5_init_12 : decode cX5_init 12 = .ok (.aload_n 0, 1) := by decide +kernel
theorem dX5_init_13 : decode cX5_init 13 = .ok (.bipush 8, 2) := by decide +kernel
theorem dX5_init_15 : decode cX5_init 15 = .ok (.newarray .int, 2) := by decide +kernel
theorem dX5_init_17 : decode cX5_init 17 = .ok (.putfield 15, 3) := by decide +kernel
theorem dX5_init_20 : decode cX5_init 20 = .ok (.aload_n 0, 1) := by decide +kernel
theorem dX5_init_21 : decode cX5_init 21 = .ok (.bipush 8, 2) := by decide +kernel
theorem dX5_init_23 : decode cX5_init 23 = .ok (.newarray .int, 2) := by decide +kernel
theorem dX5_init_25 : decode cX5_init 25 = .ok (.putfield 18, 3) := by decide +kernel
theorem dX5_init_28 : decode cX5_init 28 = .ok (.return_, 1) := by decide +kernel
def iX5 : pM := (yX5_init, cX5_init, 1, none, 223, [])
def wX5 (kc : ClassId × ClassId × ClassId) (h0 : Nat) (u : Nat → Nat) : va_W := (h0, .inr (4, [.ref (u 0), .ref (u 1), .ref (u 2), .int 0, .int 0])) :: ((([] ++ [(u 0, .inl (kc.1, 8, .inl (fun _ => 0)))]) ++ [(u 1, .inl (kc.1, 8, .inl (fun _ => 0)))]) ++ [(u 2, .inl (kc.1, 8, .inl (fun _ => 0)))])
def zX5 (h0 : Nat) : va_W := [(h0, .inr (4, [.null, .null, .null, .int 0, .int 0]))]
set_option maxRecDepth 100000 in
theorem cX5_new (l : Launch) (D : va_G) (kc : ClassId × ClassId × ClassId) (h0 sz : Nat) : Met l iX5.1 (p_ws iX5) (k_rm 1 3 24) (va_Pc (.ref h0 :: []) (k_B D kc (zX5 h0) sz)) (k_Q D (wX5 kc h0) (va_A (zX5 h0) sz)) 3 24 (va_A (zX5 h0) sz) := by
  refine k_open (M := iX5) (by decide +kernel) rfl rfl (Nat.le_of_ble_eq_true rfl) ?_
  intro p e s m args below meth c ls cx hsz hP hD hA hl
  obtain ⟨hx, hb, -⟩ := id cx
  have hS : va_S (va_A (zX5 h0) s.heap.size) s.heap s.heap [] := va_S.rf
  generalize va_A (zX5 h0) s.heap.size = A at hD hA hS ⊢
  refine k_obj cx (i1 := 224) (i2 := 87) (i3 := 88) (r := _) hl dX5_init_0 dX5_init_1 (by decide +kernel) (by decide +kernel) (by decide +kernel) (Nat.le_of_ble_eq_true rfl) (Nat.le_of_ble_eq_true rfl) ?_
  refine lv_aload_n hx hb dX5_init_4 rfl (lv_at hl 0 rfl) ?_
  refine lv_bipush (v := 8) hx hb dX5_init_5 (by decide) ?_
  refine k_arr cx (k := 0) (N := 8) (i1 := 102) (i2 := 225) hP hD hS hA rfl (by decide) rfl rfl (by simp) (by decide +kernel) (by decide +kernel) rfl (by decide) (by decide) (by decide) (Nat.le_of_ble_eq_true rfl) (Nat.le_of_ble_eq_true rfl) dX5_init_7 dX5_init_9 (fun q0 H locs hP hD hS => ?_)
  refine lv_aload_n hx hb dX5_init_12 rfl (lv_at hl 0 rfl) ?_
  refine lv_bipush (v := 8) hx hb dX5_init_13 (by decide) ?_
  refine k_arr cx (k := 1) (N := 8) (i1 := 102) (i2 := 226) hP hD hS hA rfl (by decide) rfl rfl (by simp) (by decide +kernel) (by decide +kernel) rfl (by decide) (by decide) (by decide) (Nat.le_of_ble_eq_true rfl) (Nat.le_of_ble_eq_true rfl) dX5_init_15 dX5_init_17 (fun q1 H locs hP hD hS => ?_)
  refine lv_aload_n hx hb dX5_init_20 rfl (lv_at hl 0 rfl) ?_
  refine lv_bipush (v := 8) hx hb dX5_init_21 (by decide) ?_
  refine k_arr cx (k := 2) (N := 8) (i1 := 102) (i2 := 227) hP hD hS hA rfl (by decide) rfl rfl (by simp) (by decide +kernel) (by decide +kernel) rfl (by decide) (by decide) (by decide) (Nat.le_of_ble_eq_true rfl) (Nat.le_of_ble_eq_true rfl) dX5_init_23 dX5_init_25 (fun q2 H locs hP hD hS => ?_)
  exact k_ret cx (fun j => [q0, q1, q2].getD j 0) hP hD hS dX5_init_28
theorem dX2_init_0 : decode cX2_init 0 = .ok (.aload_n 0, 1) := by decide +kernel
theorem dX2_init_1 : decode cX2_init 1 = .ok (.invokespecial 3, 3) := by decide +kernel
theorem dX2_init_4 : decode cX2_init 4 = .ok (.aload_n 0, 1) := by decide +kernel
theorem dX2_init_5 : decode cX2_init 5 = .ok (.bipush 8, 2) := by decide +kernel
theorem dX2_init_7 : decode cX2_init 7 = .ok (.bipush 24, 2) := by decide +kernel
theorem dX2_init_9 : decode cX2_init 9 = .ok (.multianewarray 9 2, 4) := by decide +kernel
theorem dX2_init_13 : decode cX2_init 13 = .ok (.putfield 11, 3) := by decide +kernel
theorem dX2_init_16 : decode cX2_init 16 = .ok (.aload_n 0, 1) := by decide +kernel
theorem dX2_init_17 : decode cX2_init 17 = .ok (.bipush 8, 2) := by decide +kernel
theorem dX2_init_19 : decode cX2_init 19 = .ok (.bipush 24, 2) := by decide +kernel
theorem dX2_init_21 : decode cX2_init 21 = .ok (.multianewarray 9 2, 4) := by decide +kernel
theorem dX2_init_25 : decode cX2_init 25 = .ok (.putfield 16, 3) := by decide +kernel
theorem dX2_init_28 : decode cX2_init 28 = .ok (.aload_n 0, 1) := by decide +kernel
theorem dX2_init_29 : decode cX2_init 29 = .ok (.bipush 8, 2) := by decide +kernel
theorem dX2_init_31 : decode cX2_init 31 = .ok (.bipush 24, 2) := by decide +kernel
theorem dX2_init_33 : decode cX2_init 33 = .ok (.multianewarray 9 2, 4) := by decide +kernel
theorem dX2_init_37 : decode cX2_init 37 = .ok (.putfield 19, 3) := by decide +kernel
theorem dX2_init_40 : decode cX2_init 40 = .ok (.aload_n 0, 1) := by decide +kernel
theorem dX2_init_41 : decode cX2_init 41 = .ok (.bipush 24, 2) := by decide +kernel
theorem dX2_init_43 : decode cX2_init 43 = .ok (.newarray .long, 2) := by decide +kernel
theorem dX2_init_45 : decode cX2_init 45 = .ok (.putfield 22, 3) := by decide +kernel
theorem dX2_init_48 : decode cX2_init 48 = .ok (.aload_n 0, 1) := by decide +kernel
theorem dX2_init_49 : decode cX2_init 49 = .ok (.aload_n 1, 1) := by decide +kernel
theorem dX2_init_50 : decode cX2_init 50 = .ok (.putfield 26, 3) := by decide +kernel
theorem dX2_init_53 : decode cX2_init 53 = .ok (.aload_n 0, 1) := by decide +kernel
theorem dX2_init_54 : decode cX2_init 54 = .ok (.aload_n 2, 1) := by decide +kernel
theorem dX2_init_55 : decode cX2_init 55 = .ok (.putfield 30, 3) := by decide +kernel
theorem dX2_init_58 : decode cX2_init 58 = .ok (.aload_n 0, 1) := by decide +kernel
theorem dX2_init_59 : decode cX2_init 59 = .ok (.aload_n 3, 1) := by decide +kernel
theorem dX2_init_60 : decode cX2_init 60 = .ok (.putfield 34, 3) := by decide +kernel
theorem dX2_init_63 : decode cX2_init 63 = .ok (.return_, 1) := by decide +kernel
def iX2 : pM := (yX2_init, cX2_init, 4, none, 245, [])
def wX2 (kc : ClassId × ClassId × ClassId) (h0 : Nat) (v1 : Nat) (v2 : Nat) (v3 : Nat) (u : Nat → Nat) : va_W := (h0, .inr (1, [.ref (u 0), .ref (u 9), .ref (u 18), .ref (u 27), .ref v1, .ref v2, .ref v3])) :: (((([] ++ k_mat kc (u 0) (fun i => u (1 + i))) ++ k_mat kc (u 9) (fun i => u (10 + i))) ++ k_mat kc (u 18) (fun i => u (19 + i))) ++ [(u 27, .inl (kc.2.1, 24, .inr (.inl (fun _ => 0))))])
def zX2 (h0 : Nat) : va_W := [(h0, .inr (1, [.null, .null, .null, .null, .null, .null, .null]))]
set_option maxRecDepth 100000 in
theorem cX2_new (l : Launch) (D : va_G) (kc : ClassId × ClassId × ClassId) (h0 sz : Nat) (v1 : Nat) (v2 : Nat) (v3 : Nat) : Met l iX2.1 (p_ws iX2) (k_rm 1 28 624) (va_Pc (.ref h0 :: [.ref v1, .ref v2, .ref v3]) (k_B D kc (zX2 h0) sz)) (k_Q D (wX2 kc h0 v1 v2 v3) (va_A (zX2 h0) sz)) 28 624 (va_A (zX2 h0) sz) := by
  refine k_open (M := iX2) (by decide +kernel) rfl rfl (Nat.le_of_ble_eq_true rfl) ?_
  intro p e s m args below meth c ls cx hsz hP hD hA hl
  obtain ⟨hx, hb, -⟩ := id cx
  have hS : va_S (va_A (zX2 h0) s.heap.size) s.heap s.heap [] := va_S.rf
  generalize va_A (zX2 h0) s.heap.size = A at hD hA hS ⊢
  refine k_obj cx (i1 := 246) (i2 := 87) (i3 := 88) (r := _) hl dX2_init_0 dX2_init_1 (by decide +kernel) (by decide +kernel) (by decide +kernel) (Nat.le_of_ble_eq_true rfl) (Nat.le_of_ble_eq_true rfl) ?_
  refine lv_aload_n hx hb dX2_init_4 rfl (lv_at hl 0 rfl) ?_
  refine lv_bipush (v := 8) hx hb dX2_init_5 (by decide) ?_
  refine lv_bipush (v := 24) hx hb dX2_init_7 (by decide) ?_
  refine k_arrM cx (k := 0) (i0 := 247) (i1 := 271) (i2 := 249) hP hD hS hA rfl (by decide) rfl rfl (by simp) (by decide +kernel) (by decide +kernel) (by decide +kernel) rfl (Nat.le_of_ble_eq_true rfl) (Nat.le_of_ble_eq_true rfl) dX2_init_9 dX2_init_13 (fun q0 r0 H locs hP hD hS => ?_)
  refine lv_aload_n hx hb dX2_init_16 rfl (lv_at hl 0 rfl) ?_
  refine lv_bipush (v := 8) hx hb dX2_init_17 (by decide) ?_
  refine lv_bipush (v := 24) hx hb dX2_init_19 (by decide) ?_
  refine k_arrM cx (k := 1) (i0 := 247) (i1 := 271) (i2 := 250) hP hD hS hA rfl (by decide) rfl rfl (by simp) (by decide +kernel) (by decide +kernel) (by decide +kernel) rfl (Nat.le_of_ble_eq_true rfl) (Nat.le_of_ble_eq_true rfl) dX2_init_21 dX2_init_25 (fun q9 r9 H locs hP hD hS => ?_)
  refine lv_aload_n hx hb dX2_init_28 rfl (lv_at hl 0 rfl) ?_
  refine lv_bipush (v := 8) hx hb dX2_init_29 (by decide) ?_
  refine lv_bipush (v := 24) hx hb dX2_init_31 (by decide) ?_
  refine k_arrM cx (k := 2) (i0 := 247) (i1 := 271) (i2 := 251) hP hD hS hA rfl (by decide) rfl rfl (by simp) (by decide +kernel) (by decide +kernel) (by decide +kernel) rfl (Nat.le_of_ble_eq_true rfl) (Nat.le_of_ble_eq_true rfl) dX2_init_33 dX2_init_37 (fun q18 r18 H locs hP hD hS => ?_)
  refine lv_aload_n hx hb dX2_init_40 rfl (lv_at hl 0 rfl) ?_
  refine lv_bipush (v := 24) hx hb dX2_init_41 (by decide) ?_
  refine k_arrJ cx (k := 3) (N := 24) (i1 := 271) (i2 := 252) hP hD hS hA rfl (by decide) rfl rfl (by simp) (by decide +kernel) (by decide +kernel) rfl (by decide) (by decide) (by decide) (Nat.le_of_ble_eq_true rfl) (Nat.le_of_ble_eq_true rfl) dX2_init_43 dX2_init_45 (fun q27 H locs hP hD hS => ?_)
  refine lv_aload_n hx hb dX2_init_48 rfl (lv_at hl 0 rfl) ?_
  refine lv_aload_n hx hb dX2_init_49 rfl (lv_at hl 1 rfl) ?_
  refine k_put cx (k := 4) (i2 := 253) hP hD hS rfl (by decide) rfl rfl (by simp) (by decide +kernel) rfl rfl dX2_init_50 (fun H locs hP hD hS => ?_)
  refine lv_aload_n hx hb dX2_init_53 rfl (lv_at hl 0 rfl) ?_
  refine lv_aload_n hx hb dX2_init_54 rfl (lv_at hl 2 rfl) ?_
  refine k_put cx (k := 5) (i2 := 254) hP hD hS rfl (by decide) rfl rfl (by simp) (by decide +kernel) rfl rfl dX2_init_55 (fun H locs hP hD hS => ?_)
  refine lv_aload_n hx hb dX2_init_58 rfl (lv_at hl 0 rfl) ?_
  refine lv_aload_n hx hb dX2_init_59 rfl (lv_at hl 3 rfl) ?_
  refine k_put cx (k := 6) (i2 := 255) hP hD hS rfl (by decide) rfl rfl (by simp) (by decide +kernel) rfl rfl dX2_init_60 (fun H locs hP hD hS => ?_)
  have e : ∀ (a b : Nat) (r : Nat → Nat) (u : Nat → Nat), (∀ i, i < 8 → u (b + i) = r i) → k_mat kc a r = k_mat kc a (fun i => u (b + i)) := fun a b r u h => by
    unfold k_mat
    have e1 : (fun i => if i < 8 then some (r i) else none) = (fun i => if i < 8 then some (u (b + i)) else none) := funext fun i => by
      by_cases c : i < 8
      · rw [if_pos c, if_pos c, h i c]
      · rw [if_neg c, if_neg c]
    rw [e1]
    congr 1
    apply List.map_congr_left
    intro i hi
    rw [← h i (List.mem_range.mp hi)]
  have h8 : ∀ i, i < 8 → i = 0 ∨ i = 1 ∨ i = 2 ∨ i = 3 ∨ i = 4 ∨ i = 5 ∨ i = 6 ∨ i = 7 := fun i hi => by omega
  rw [e q0 1 r0 (fun j => [q0, r0 0, r0 1, r0 2, r0 3, r0 4, r0 5, r0 6, r0 7, q9, r9 0, r9 1, r9 2, r9 3, r9 4, r9 5, r9 6, r9 7, q18, r18 0, r18 1, r18 2, r18 3, r18 4, r18 5, r18 6, r18 7, q27].getD j 0) (fun i hi => by rcases h8 i hi with rfl | rfl | rfl | rfl | rfl | rfl | rfl | rfl <;> rfl)] at hP hD
  rw [e q9 10 r9 (fun j => [q0, r0 0, r0 1, r0 2, r0 3, r0 4, r0 5, r0 6, r0 7, q9, r9 0, r9 1, r9 2, r9 3, r9 4, r9 5, r9 6, r9 7, q18, r18 0, r18 1, r18 2, r18 3, r18 4, r18 5, r18 6, r18 7, q27].getD j 0) (fun i hi => by rcases h8 i hi with rfl | rfl | rfl | rfl | rfl | rfl | rfl | rfl <;> rfl)] at hP hD
  rw [e q18 19 r18 (fun j => [q0, r0 0, r0 1, r0 2, r0 3, r0 4, r0 5, r0 6, r0 7, q9, r9 0, r9 1, r9 2, r9 3, r9 4, r9 5, r9 6, r9 7, q18, r18 0, r18 1, r18 2, r18 3, r18 4, r18 5, r18 6, r18 7, q27].getD j 0) (fun i hi => by rcases h8 i hi with rfl | rfl | rfl | rfl | rfl | rfl | rfl | rfl <;> rfl)] at hP hD
  exact k_ret cx (fun j => [q0, r0 0, r0 1, r0 2, r0 3, r0 4, r0 5, r0 6, r0 7, q9, r9 0, r9 1, r9 2, r9 3, r9 4, r9 5, r9 6, r9 7, q18, r18 0, r18 1, r18 2, r18 3, r18 4, r18 5, r18 6, r18 7, q27].getD j 0) hP hD hS dX2_init_63
