/-! CONSTRUCTORS: tools -/
abbrev k_cl : List vw_C := p_Cs.map Prod.fst
theorem va_AOA.moved {ty : FieldType} {u U : State} (h : u.vm.Alike U.vm) (q : va_AOA ty u) : va_AOA ty U := fun args => by
  have h1 := q args
  rw [← Cond.arrayOver_setVmC (args := args) h] at h1
  exact h1
def k_rm (f c s : Nat) : Room := { frames := f, cells := c, slots := s, locals := 30 * f }
/-- what a constructor starts from: its world, and what is known of the tables -/
def k_B (D : va_G) (kc : ClassId × ClassId × ClassId) (ws : va_W) (sz : Nat) (U : State) : Prop := U.heap.size = sz ∧ va_P D k_cl ws U.heap ∧ va_D (fun _ => True) ws ∧ va_K D k_cl (p_tys kc) U ∧ p_nest U ∧ va_AOA .long U
def k_E (D : va_G) (w : (Nat → Nat) → va_W) (A : Nat → Prop) (u : Nat → Nat) (t : State) : Prop := va_P D k_cl (w u) t.heap ∧ va_D A (w u)
def k_Q (D : va_G) (w : (Nat → Nat) → va_W) (A : Nat → Prop) : Array Value → State → Outcome → State → Prop := va_Qv (fun _ : Nat → Nat => True) (k_E D w A) A
def k_Cx (p : Program) (s : State) (m : MethodId) (args : Array Value) (meth : Method) (c : Code) (D : va_G) (kc : ClassId × ClassId × ClassId) (M : pM) : Prop :=
  p.tables.exec = Jvm.exec ∧ c.code = M.2.1 ∧ meth.sig.returnType = none ∧ c.maxLocals = M.2.2.1 ∧ (∀ w ∈ p_ws M, w.before args s = true) ∧ s.vm.findClass M.1.cls = some m.cls ∧ meth.locks = false ∧ meth.name = "<init>" ∧ va_K D k_cl (p_tys kc) s ∧ p_nest s ∧ va_AOA .long s
theorem k_blind {D : va_G} {kc : ClassId × ClassId × ClassId} {ws : va_W} {sz : Nat} {vs : List Value} : FrameBlind (va_Pc vs (k_B D kc ws sz)) := by
  intro a U g mk ⟨q1, q2, q3, q4, q5, q6, q7⟩
  exact ⟨q1, q2, q3, q4, va_K.moved (u := U) (U := U.calling g mk a) (Vm.Alike.refl U.vm) q5, p_nest.same (u := U) (U := U.calling g mk a) rfl q6, va_AOA.moved (u := U) (U := U.calling g mk a) (Vm.Alike.refl U.vm) q7⟩
section KC
variable {p : Program} {l : Launch} {e : Env} {R : Room} {s : State} {m : MethodId} {args : Array Value} {below : List Frame} {meth : Method} {c : Code} {Q : State → Prop} {H : Heap} {locs : List Loc} {cells slots : Nat}
variable {D : va_G} {kc : ClassId × ClassId × ClassId} {M : pM} {A : Nat → Prop} {ls : Array Slot} {rest : List Value}
theorem k_open {ws : va_W} {h0 sz mc ms : Nat} {vs : List Value} {w : (Nat → Nat) → va_W} (hpl : plainName M.1.cls = true) (hret : M.2.2.2.1 = none) (hnm : M.1.name = "<init>") (hlen : (lg_sl (.ref h0 :: vs)).length ≤ M.2.2.1)
    (body : ∀ (p : Program) (e : Env) (s : State) (m : MethodId) (args : Array Value) (below : List Frame) (meth : Method) (c : Code) (ls : Array Slot), k_Cx p s m args meth c D kc M → s.heap.size = sz → va_P D k_cl ws s.heap → va_D (va_A ws s.heap.size) ws → (∀ q : Nat, s.heap.size ≤ q → va_A ws s.heap.size q) → lv_has ls M.2.2.1 (lv_args 0 (.ref h0 :: vs)) → W p l e R s m args below meth c s.heap [] 0 0 (MQ below (k_Q D w (va_A ws s.heap.size)) args s mc ms (va_A ws s.heap.size)) (F0 m 0 ls [])) :
    Met l M.1 (p_ws M) R (va_Pc (.ref h0 :: vs) (k_B D kc ws sz)) (k_Q D w (va_A ws sz)) mc ms (va_A ws sz) := by
  refine Met.ofW (cc := M.2.1) (maxL := M.2.2.1) (ret := M.2.2.2.1) hpl rfl ?_
  intro p e s m args below meth c s₁ B hml hv
  obtain ⟨rfl, hsz, hP, hD0, hK, hN, hO⟩ := hv
  have hl := lv_entry (.ref h0 :: vs) (n := M.2.2.1) hlen
  rw [lg_entry_eq]
  subst hsz
  exact body p e s m _ below meth c _ ⟨B.exec, B.bytes, B.returns.trans hret, hml, atoms_spec (ws := p_ws M) B.pre, findClass_of_methodNamed B.named, B.notSynchronized, (name_of_methodNamed B.named B.method).1.trans hnm, hK, hN, hO⟩ rfl hP (hD0.self (sz := s.heap.size)) (fun q h => Or.inr h) hl
theorem k_obj (cx : k_Cx p s m args meth c D kc M) {idx i1 i2 i3 h0 : Nat} {r : List (Nat × Value)} (hl : lv_has ls M.2.2.1 ((0, .ref h0) :: r)) (d0 : decode M.2.1 0 = .ok (.aload_n 0, 1)) (d1 : decode M.2.1 1 = .ok (.invokespecial idx, 3)) (w1 : p_word i1 (.methodLink M.1.cls idx Lib.objectInit) = true) (w2 : p_word i2 (.instanceMethod Lib.objectInit) = true) (w3 : p_word i3 (.code Lib.objectInit ⟨#[0xb1]⟩ 1 none) = true) (hf : 1 ≤ R.frames) (hlo : 12 ≤ R.locals)
    (kk : W p l e R s m args below meth c H locs cells slots Q (F0 m 4 ls [])) : W p l e R s m args below meth c H locs cells slots Q (F0 m 0 ls []) := by
  obtain ⟨hx, hb, hr, hml, hts, hown, hlocks, hnm, hK, hN, hO⟩ := cx
  have hWs : ∀ w ∈ p_W, w.before args s = true := fun w h => hts w (List.mem_cons_of_mem _ h)
  refine lv_aload_n hx hb d0 rfl (lv_at hl 0 rfl) ?_
  refine W.objInit hx hb hown (hWs _ (p_word_in w1)) (hWs _ (p_word_in w2)) (hWs _ (p_word_in w3)) rfl (by rw [hml]; exact hl.1) rfl d1 hf hlo ?_
  exact W.eq (g2 := F0 m 4 ls []) rfl kk
/-- a final field of the object gets what lies on the stack -/
theorem k_put (cx : k_Cx p s m args meth c D kc M) {T : u_T} {NF ci pc idx h0 k i2 : Nat} {ty0 : Nat → FieldType} {fs : List Value} {Xs : va_W} {v : Value} (hP : va_P D k_cl ((h0, .inr (ci, fs)) :: Xs) H) (hD : va_D A ((h0, .inr (ci, fs)) :: Xs)) (hS : va_S A s.heap H locs) (hC : p_Cs[ci]? = some ((M.1.cls, T, NF), ty0)) (hk : k < NF) (hfin : (T k).2.2.2 = true) (hdecl : (T k).1 = M.1.cls) (hl : k < fs.length) (w2 : p_word i2 (.fieldLink M.1.cls idx M.1.cls (T k).2.1 (T k).2.2.1) = true) (hn : narrow (ty0 k) v = v) (hfit : fits (ty0 k) v = true) (d2 : decode M.2.1 pc = .ok (.putfield idx, 3))
    (kk : ∀ (H1 : Heap) (locs1 : List Loc), va_P D k_cl ((h0, .inr (ci, fs.set k v)) :: Xs) H1 → va_D A ((h0, .inr (ci, fs.set k v)) :: Xs) → va_S A s.heap H1 locs1 → W p l e R s m args below meth c H1 locs1 cells slots Q (F0 m (pc + 3) ls rest)) : W p l e R s m args below meth c H locs cells slots Q (F0 m pc ls (v :: .ref h0 :: rest)) := by
  obtain ⟨hx, hb, hr, hml, hts, hown, hlocks, hnm, hK, hN, hO⟩ := cx
  have hWs : ∀ w ∈ p_W, w.before args s = true := fun w h => hts w (List.mem_cons_of_mem _ h)
  obtain ⟨o1, o2, o3⟩ := p_Cs_ok ci _ hC
  exact va_putF (D := D) (C := M.1.cls) (T := T) (N := NF) (ref := M.1.cls) (index := idx) hx hb hWs o1 ty0 o2 o3 hown hK hP hD hS 0 rfl (p_cl_at hC) k hk (hWs _ (p_word_in w2)) (by rw [hdecl]; exact fun _ h => h) hfin hnm hdecl (o2 k hk) hn hfit hl d2 kk
/-- new int[n] into a final field -/
theorem k_arr (cx : k_Cx p s m args meth c D kc M) {T : u_T} {NF ci pc idx h0 k i1 i2 N : Nat} {ty0 : Nat → FieldType} {fs : List Value} {Xs : va_W} {n : Int32} (hP : va_P D k_cl ((h0, .inr (ci, fs)) :: Xs) H) (hD : va_D A ((h0, .inr (ci, fs)) :: Xs)) (hS : va_S A s.heap H locs) (hA : ∀ q, s.heap.size ≤ q → A q) (hC : p_Cs[ci]? = some ((M.1.cls, T, NF), ty0)) (hk : k < NF) (hfin : (T k).2.2.2 = true) (hdecl : (T k).1 = M.1.cls) (hl : k < fs.length) (w1 : p_word i1 (.arrayClass .int) = true) (w2 : p_word i2 (.fieldLink M.1.cls idx M.1.cls (T k).2.1 (T k).2.2.1) = true) (ht : ty0 k = .array .int)
    (hn : ¬ n < 0) (hN : n.toNatClampNeg = N) (hb3 : N ≤ 1000) (hcells : cells + 1 ≤ R.cells) (hslots : slots + N ≤ R.slots) (d1 : decode M.2.1 pc = .ok (.newarray .int, 2)) (d2 : decode M.2.1 (pc + 2) = .ok (.putfield idx, 3))
    (kk : ∀ (q : Nat) (H1 : Heap) (locs1 : List Loc), va_P D k_cl ((h0, .inr (ci, fs.set k (.ref q))) :: (Xs ++ [(q, .inl (kc.1, N, .inl (fun _ => 0)))])) H1 → va_D A ((h0, .inr (ci, fs.set k (.ref q))) :: (Xs ++ [(q, .inl (kc.1, N, .inl (fun _ => 0)))])) → va_S A s.heap H1 locs1 → W p l e R s m args below meth c H1 locs1 (cells + 1) (slots + N) Q (F0 m (pc + 5) ls rest)) : W p l e R s m args below meth c H locs cells slots Q (F0 m pc ls (.int n :: .ref h0 :: rest)) := by
  obtain ⟨hx, hb, hr, hml, hts, hown, hlocks, hnm, hK, hN0, hO⟩ := id cx
  have hWs : ∀ w ∈ p_W, w.before args s = true := fun w h => hts w (List.mem_cons_of_mem _ h)
  refine va_newa (atype := .int) (ty := .int) (a0 := (N, .inl (fun _ => 0))) hx hb (hWs _ (p_word_in w1)) rfl hK hP hD hS hA (fun _ => rfl) hn hN (show N * 4 ≤ 536870912 by omega) hcells hslots d1 (fun q cA H1 hK1 hP1 hD1 hS1 => ?_)
  have e1 : s.vm.findClass ("[" ++ (FieldType.int).toString) = some kc.1 := (hK.2 0 _ rfl).2
  have e2 : s.vm.findClass ("[" ++ (FieldType.int).toString) = some cA := (hK1.2 3 _ rfl).2
  have e3 : cA = kc.1 := Option.some.inj (e2.symm.trans e1)
  subst e3
  exact k_put cx hP1 hD1 hS1 hC hk hfin hdecl hl w2 (by rw [ht]; rfl) (by rw [ht]; rfl) d2 (fun H2 locs2 hP2 hD2 hS2 => kk q H2 locs2 hP2 hD2 hS2)
/-- new long[n] into a final field -/
theorem k_arrJ (cx : k_Cx p s m args meth c D kc M) {T : u_T} {NF ci pc idx h0 k i1 i2 N : Nat} {ty0 : Nat → FieldType} {fs : List Value} {Xs : va_W} {n : Int32} (hP : va_P D k_cl ((h0, .inr (ci, fs)) :: Xs) H) (hD : va_D A ((h0, .inr (ci, fs)) :: Xs)) (hS : va_S A s.heap H locs) (hA : ∀ q, s.heap.size ≤ q → A q) (hC : p_Cs[ci]? = some ((M.1.cls, T, NF), ty0)) (hk : k < NF) (hfin : (T k).2.2.2 = true) (hdecl : (T k).1 = M.1.cls) (hl : k < fs.length) (w1 : p_word i1 (.arrayClass .long) = true) (w2 : p_word i2 (.fieldLink M.1.cls idx M.1.cls (T k).2.1 (T k).2.2.1) = true) (ht : ty0 k = .array .long)
    (hn : ¬ n < 0) (hN : n.toNatClampNeg = N) (hb3 : N ≤ 1000) (hcells : cells + 1 ≤ R.cells) (hslots : slots + N ≤ R.slots) (d1 : decode M.2.1 pc = .ok (.newarray .long, 2)) (d2 : decode M.2.1 (pc + 2) = .ok (.putfield idx, 3))
    (kk : ∀ (q : Nat) (H1 : Heap) (locs1 : List Loc), va_P D k_cl ((h0, .inr (ci, fs.set k (.ref q))) :: (Xs ++ [(q, .inl (kc.2.1, N, .inr (.inl (fun _ => 0))))])) H1 → va_D A ((h0, .inr (ci, fs.set k (.ref q))) :: (Xs ++ [(q, .inl (kc.2.1, N, .inr (.inl (fun _ => 0))))])) → va_S A s.heap H1 locs1 → W p l e R s m args below meth c H1 locs1 (cells + 1) (slots + N) Q (F0 m (pc + 5) ls rest)) : W p l e R s m args below meth c H locs cells slots Q (F0 m pc ls (.int n :: .ref h0 :: rest)) := by
  obtain ⟨hx, hb, hr, hml, hts, hown, hlocks, hnm, hK, hN0, hO⟩ := id cx
  have hWs : ∀ w ∈ p_W, w.before args s = true := fun w h => hts w (List.mem_cons_of_mem _ h)
  refine va_newa (atype := .long) (ty := .long) (a0 := (N, .inr (.inl (fun _ => 0)))) hx hb (hWs _ (p_word_in w1)) rfl hK hP hD hS hA (fun _ => rfl) hn hN (show N * 8 ≤ 536870912 by omega) hcells hslots d1 (fun q cA H1 hK1 hP1 hD1 hS1 => ?_)
  have e1 : s.vm.findClass ("[" ++ (FieldType.long).toString) = some kc.2.1 := (hK.2 1 _ rfl).2
  have e2 : s.vm.findClass ("[" ++ (FieldType.long).toString) = some cA := (hK1.2 3 _ rfl).2
  have e3 : cA = kc.2.1 := Option.some.inj (e2.symm.trans e1)
  subst e3
  exact k_put cx hP1 hD1 hS1 hC hk hfin hdecl hl w2 (by rw [ht]; rfl) (by rw [ht]; rfl) d2 (fun H2 locs2 hP2 hD2 hS2 => kk q H2 locs2 hP2 hD2 hS2)
/-- the cells of new long[8][24] -/
def k_mat (kc : ClassId × ClassId × ClassId) (q : Nat) (r : Nat → Nat) : va_W := (q, .inl (kc.2.2, 8, .inr (.inr (.inr (.inr (fun i => if i < 8 then some (r i) else none)))))) :: (List.range 8).map (fun i => (r i, .inl (kc.2.1, 24, .inr (.inl (fun _ => 0)))))
theorem k_arrM (cx : k_Cx p s m args meth c D kc M) {T : u_T} {NF ci pc idx idx0 h0 k i0 i1 i2 : Nat} {ty0 : Nat → FieldType} {fs : List Value} {Xs : va_W} (hP : va_P D k_cl ((h0, .inr (ci, fs)) :: Xs) H) (hD : va_D A ((h0, .inr (ci, fs)) :: Xs)) (hS : va_S A s.heap H locs) (hA : ∀ q, s.heap.size ≤ q → A q) (hC : p_Cs[ci]? = some ((M.1.cls, T, NF), ty0)) (hk : k < NF) (hfin : (T k).2.2.2 = true) (hdecl : (T k).1 = M.1.cls) (hl : k < fs.length) (w0 : p_word i0 (.classLink M.1.cls idx0 "[[J") = true) (w1 : p_word i1 (.arrayClass .long) = true) (w2 : p_word i2 (.fieldLink M.1.cls idx M.1.cls (T k).2.1 (T k).2.2.1) = true) (ht : ty0 k = .array (.array .long))
    (hcells : cells + (1 + 8) ≤ R.cells) (hslots : slots + (8 + 8 * 24) ≤ R.slots) (d1 : decode M.2.1 pc = .ok (.multianewarray idx0 2, 4)) (d2 : decode M.2.1 (pc + 4) = .ok (.putfield idx, 3))
    (kk : ∀ (q : Nat) (r : Nat → Nat) (H1 : Heap) (locs1 : List Loc), va_P D k_cl ((h0, .inr (ci, fs.set k (.ref q))) :: (Xs ++ k_mat kc q r)) H1 → va_D A ((h0, .inr (ci, fs.set k (.ref q))) :: (Xs ++ k_mat kc q r)) → va_S A s.heap H1 locs1 → W p l e R s m args below meth c H1 locs1 (cells + 1 + 8) (slots + 8 + 8 * 24) Q (F0 m (pc + 7) ls rest)) : W p l e R s m args below meth c H locs cells slots Q (F0 m pc ls (.int 24 :: .int 8 :: .ref h0 :: rest)) := by
  obtain ⟨hx, hb, hr, hml, hts, hown, hlocks, hnm, hK, hN0, hO⟩ := id cx
  have hWs : ∀ w ∈ p_W, w.before args s = true := fun w h => hts w (List.mem_cons_of_mem _ h)
  have e1 : s.vm.findClass ("[" ++ (FieldType.long).toString) = some kc.2.1 := (hK.2 1 _ rfl).2
  have f1 : s.vm.findClass ("[" ++ (FieldType.array .long).toString) = some kc.2.2 := (hK.2 2 _ rfl).2
  obtain ⟨comp, cA, kA, g1, g2, g3, g4⟩ := gd_over (hO args)
  obtain ⟨cJ, kJ, cE, j1, j2, j3⟩ := Cond.arrayClass_spec (hWs _ (p_word_in w1))
  have q1 : comp = kc.2.1 := Option.some.inj (g1.symm.trans e1)
  have q2 : cA = kc.2.2 := Option.some.inj (g2.symm.trans f1)
  have q3 : cJ = kc.2.1 := Option.some.inj (j1.symm.trans e1)
  rw [q2] at g3
  rw [q1] at g4
  rw [q3] at j2
  refine gd_step (own := M.1.cls) (index := idx0) (cA := kc.2.2) (cJ := kc.2.1) hx hb hown (hWs _ (p_word_in w0)) f1 g3 g4 j2 j3 hS.1 hcells hslots d1 (fun H1 z3 z4 z5 z2 => ?_)
  have ad : ∀ (i : Nat) (x : Nat × va_E), (k_mat kc H.size (fun i => H.size + 1 + i))[i]? = some x → x.1 = H.size + i ∧ va_at D k_cl x H1 := by
    intro i x hx
    cases i with
    | zero =>
      cases hx
      refine ⟨rfl, ?_⟩
      show H1[H.size]? = some (vp_cell kc.2.2 (8, .inr (.inr (.inr (.inr (fun i => if i < 8 then some (H.size + 1 + i) else none))))))
      rw [vp_cell_q]
      exact z3
    | succ i =>
      have hx : ((List.range 8).map (fun i => ((H.size + 1 + i, .inl (kc.2.1, 24, .inr (.inl (fun _ => 0)))) : Nat × va_E)))[i]? = some x := hx
      by_cases h8 : i < 8
      · rw [List.getElem?_map, List.getElem?_range h8] at hx
        cases hx
        exact ⟨by show H.size + 1 + i = H.size + (i + 1); omega, z4 i h8⟩
      · rw [List.getElem?_eq_none (by rw [List.length_map, List.length_range]; omega)] at hx
        cases hx
  have hlt : ∀ (k : Nat) (x : Nat × va_E), ((h0, .inr (ci, fs)) :: Xs)[k]? = some x → x.1 < H.size := fun k x hx => (hP k x hx).lt
  have hP1 : va_P D k_cl ((h0, .inr (ci, fs)) :: (Xs ++ k_mat kc H.size (fun i => H.size + 1 + i))) H1 := (hP.kept (fun k x hx => z5 x.1 (hlt k x hx))).app (fun k x hx => (ad k x hx).2)
  have hD2 : va_D A (k_mat kc H.size (fun i => H.size + 1 + i)) := ⟨fun i j x y hi hj hxy => by
    have h1 := (ad i x hi).1
    have h2 := (ad j y hj).1
    omega, fun k x hx => hA _ (by rw [(ad k x hx).1]; have := hS.1; omega)⟩
  have hD1 : va_D A ((h0, .inr (ci, fs)) :: (Xs ++ k_mat kc H.size (fun i => H.size + 1 + i))) := hD.app hD2 (fun i j x y hi hj hxy => by
    have h1 := hlt i x hi
    have h2 := (ad j y hj).1
    omega)
  have hS1 : va_S A s.heap H1 locs := ⟨by rw [z2]; have := hS.1; omega, fun x h1 h2 => (z5 x (Nat.lt_of_lt_of_le h1 hS.1)).trans (hS.2.1 x h1 h2), hS.2.2⟩
  exact k_put cx (Xs := Xs ++ k_mat kc H.size (fun i => H.size + 1 + i)) hP1 hD1 hS1 hC hk hfin hdecl hl w2 (by rw [ht]; rfl) (by rw [ht]; rfl) d2 (fun H2 locs2 hP2 hD2 hS2 => kk H.size (fun i => H.size + 1 + i) H2 locs2 hP2 hD2 hS2)
theorem k_ret (cx : k_Cx p s m args meth c D kc M) {w : (Nat → Nat) → va_W} {pc mc ms : Nat} (u : Nat → Nat) (hP : va_P D k_cl (w u) H) (hD : va_D A (w u)) (hS : va_S A s.heap H locs) (d : decode M.2.1 pc = .ok (.return_, 1)) : W p l e R s m args below meth c H locs mc ms (MQ below (k_Q D w A) args s mc ms A) (F0 m pc ls []) := by
  obtain ⟨hx, hb, hr, hml, hts, hown, hlocks, hnm, hK, hN, hO⟩ := cx
  exact W.vret hx hb hr (fun t ht hW => ⟨⟨u, rfl, trivial, by rw [ht]; exact hP, hD⟩, hS.F ht⟩) hS.2.2 d hlocks
end KC
