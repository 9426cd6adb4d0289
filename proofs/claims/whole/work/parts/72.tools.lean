/-! LabelTree.<init>: tools, and the loop over the letters (written by program: wip/whole/gen72.py) -/
theorem dX9_init_0 : decode cX9_init 0 = .ok (.aload_n 0, 1) := by decide +kernel
theorem dX9_init_1 : decode cX9_init 1 = .ok (.invokespecial 1, 3) := by decide +kernel
theorem dX9_init_4 : decode cX9_init 4 = .ok (.aload_n 0, 1) := by decide +kernel
theorem dX9_init_5 : decode cX9_init 5 = .ok (.new 7, 3) := by decide +kernel
theorem dX9_init_8 : decode cX9_init 8 = .ok (.dup, 1) := by decide +kernel
theorem dX9_init_9 : decode cX9_init 9 = .ok (.invokespecial 9, 3) := by decide +kernel
theorem dX9_init_12 : decode cX9_init 12 = .ok (.putfield 10, 3) := by decide +kernel
theorem dX9_init_15 : decode cX9_init 15 = .ok (.aload_n 0, 1) := by decide +kernel
theorem dX9_init_16 : decode cX9_init 16 = .ok (.new 16, 3) := by decide +kernel
theorem dX9_init_19 : decode cX9_init 19 = .ok (.dup, 1) := by decide +kernel
theorem dX9_init_20 : decode cX9_init 20 = .ok (.invokespecial 18, 3) := by decide +kernel
theorem dX9_init_23 : decode cX9_init 23 = .ok (.putfield 19, 3) := by decide +kernel
theorem dX9_init_26 : decode cX9_init 26 = .ok (.aload_n 0, 1) := by decide +kernel
theorem dX9_init_27 : decode cX9_init 27 = .ok (.new 23, 3) := by decide +kernel
theorem dX9_init_30 : decode cX9_init 30 = .ok (.dup, 1) := by decide +kernel
theorem dX9_init_31 : decode cX9_init 31 = .ok (.invokespecial 25, 3) := by decide +kernel
theorem dX9_init_34 : decode cX9_init 34 = .ok (.putfield 26, 3) := by decide +kernel
theorem dX9_init_37 : decode cX9_init 37 = .ok (.aload_n 0, 1) := by decide +kernel
theorem dX9_init_38 : decode cX9_init 38 = .ok (.new 30, 3) := by decide +kernel
theorem dX9_init_41 : decode cX9_init 41 = .ok (.dup, 1) := by decide +kernel
theorem dX9_init_42 : decode cX9_init 42 = .ok (.invokespecial 32, 3) := by decide +kernel
theorem dX9_init_45 : decode cX9_init 45 = .ok (.putfield 33, 3) := by decide +kernel
theorem dX9_init_48 : decode cX9_init 48 = .ok (.aload_n 0, 1) := by decide +kernel
theorem dX9_init_49 : decode cX9_init 49 = .ok (.new 30, 3) := by decide +kernel
theorem dX9_init_52 : decode cX9_init 52 = .ok (.dup, 1) := by decide +kernel
theorem dX9_init_53 : decode cX9_init 53 = .ok (.invokespecial 32, 3) := by decide +kernel
theorem dX9_init_56 : decode cX9_init 56 = .ok (.putfield 37, 3) := by decide +kernel
theorem dX9_init_59 : decode cX9_init 59 = .ok (.aload_n 0, 1) := by decide +kernel
theorem dX9_init_60 : decode cX9_init 60 = .ok (.new 40, 3) := by decide +kernel
theorem dX9_init_63 : decode cX9_init 63 = .ok (.dup, 1) := by decide +kernel
theorem dX9_init_64 : decode cX9_init 64 = .ok (.invokespecial 42, 3) := by decide +kernel
theorem dX9_init_67 : decode cX9_init 67 = .ok (.putfield 43, 3) := by decide +kernel
theorem dX9_init_70 : decode cX9_init 70 = .ok (.aload_n 0, 1) := by decide +kernel
theorem dX9_init_71 : decode cX9_init 71 = .ok (.new 47, 3) := by decide +kernel
theorem dX9_init_74 : decode cX9_init 74 = .ok (.dup, 1) := by decide +kernel
theorem dX9_init_75 : decode cX9_init 75 = .ok (.invokespecial 49, 3) := by decide +kernel
theorem dX9_init_78 : decode cX9_init 78 = .ok (.putfield 50, 3) := by decide +kernel
theorem dX9_init_81 : decode cX9_init 81 = .ok (.aload_n 0, 1) := by decide +kernel
theorem dX9_init_82 : decode cX9_init 82 = .ok (.new 30, 3) := by decide +kernel
theorem dX9_init_85 : decode cX9_init 85 = .ok (.dup, 1) := by decide +kernel
theorem dX9_init_86 : decode cX9_init 86 = .ok (.invokespecial 32, 3) := by decide +kernel
theorem dX9_init_89 : decode cX9_init 89 = .ok (.putfield 54, 3) := by decide +kernel
theorem dX9_init_92 : decode cX9_init 92 = .ok (.aload_n 0, 1) := by decide +kernel
theorem dX9_init_93 : decode cX9_init 93 = .ok (.new 30, 3) := by decide +kernel
theorem dX9_init_96 : decode cX9_init 96 = .ok (.dup, 1) := by decide +kernel
theorem dX9_init_97 : decode cX9_init 97 = .ok (.invokespecial 32, 3) := by decide +kernel
theorem dX9_init_100 : decode cX9_init 100 = .ok (.putfield 57, 3) := by decide +kernel
theorem dX9_init_103 : decode cX9_init 103 = .ok (.aload_n 0, 1) := by decide +kernel
theorem dX9_init_104 : decode cX9_init 104 = .ok (.new 60, 3) := by decide +kernel
theorem dX9_init_107 : decode cX9_init 107 = .ok (.dup, 1) := by decide +kernel
theorem dX9_init_108 : decode cX9_init 108 = .ok (.invokespecial 62, 3) := by decide +kernel
theorem dX9_init_111 : decode cX9_init 111 = .ok (.putfield 63, 3) := by decide +kernel
theorem dX9_init_114 : decode cX9_init 114 = .ok (.aload_n 0, 1) := by decide +kernel
theorem dX9_init_115 : decode cX9_init 115 = .ok (.new 60, 3) := by decide +kernel
theorem dX9_init_118 : decode cX9_init 118 = .ok (.dup, 1) := by decide +kernel
theorem dX9_init_119 : decode cX9_init 119 = .ok (.invokespecial 62, 3) := by decide +kernel
theorem dX9_init_122 : decode cX9_init 122 = .ok (.putfield 67, 3) := by decide +kernel
theorem dX9_init_125 : decode cX9_init 125 = .ok (.aload_n 0, 1) := by decide +kernel
theorem dX9_init_126 : decode cX9_init 126 = .ok (.new 70, 3) := by decide +kernel
theorem dX9_init_129 : decode cX9_init 129 = .ok (.dup, 1) := by decide +kernel
theorem dX9_init_130 : decode cX9_init 130 = .ok (.aload_n 0, 1) := by decide +kernel
theorem dX9_init_131 : decode cX9_init 131 = .ok (.getfield 33, 3) := by decide +kernel
theorem dX9_init_134 : decode cX9_init 134 = .ok (.aload_n 0, 1) := by decide +kernel
theorem dX9_init_135 : decode cX9_init 135 = .ok (.getfield 43, 3) := by decide +kernel
theorem dX9_init_138 : decode cX9_init 138 = .ok (.aload_n 0, 1) := by decide +kernel
theorem dX9_init_139 : decode cX9_init 139 = .ok (.getfield 63, 3) := by decide +kernel
theorem dX9_init_142 : decode cX9_init 142 = .ok (.invokespecial 72, 3) := by decide +kernel
theorem dX9_init_145 : decode cX9_init 145 = .ok (.putfield 75, 3) := by decide +kernel
theorem dX9_init_148 : decode cX9_init 148 = .ok (.iconst 0, 1) := by decide +kernel
theorem dX9_init_149 : decode cX9_init 149 = .ok (.istore_n 1, 1) := by decide +kernel
theorem dX9_init_150 : decode cX9_init 150 = .ok (.iload_n 1, 1) := by decide +kernel
theorem dX9_init_151 : decode cX9_init 151 = .ok (.ldc 79, 2) := by decide +kernel
theorem dX9_init_153 : decode cX9_init 153 = .ok (.invokevirtual 81, 3) := by decide +kernel
theorem dX9_init_156 : decode cX9_init 156 = .ok (.if_icmp .ge 22, 3) := by decide +kernel
theorem dX9_init_159 : decode cX9_init 159 = .ok (.aload_n 0, 1) := by decide +kernel
theorem dX9_init_160 : decode cX9_init 160 = .ok (.getfield 10, 3) := by decide +kernel
theorem dX9_init_163 : decode cX9_init 163 = .ok (.ldc 79, 2) := by decide +kernel
theorem dX9_init_165 : decode cX9_init 165 = .ok (.iload_n 1, 1) := by decide +kernel
theorem dX9_init_166 : decode cX9_init 166 = .ok (.invokevirtual 87, 3) := by decide +kernel
theorem dX9_init_169 : decode cX9_init 169 = .ok (.invokevirtual 91, 3) := by decide +kernel
theorem dX9_init_172 : decode cX9_init 172 = .ok (.iinc 1 1, 3) := by decide +kernel
theorem dX9_init_175 : decode cX9_init 175 = .ok (.goto (-25), 3) := by decide +kernel
theorem dX9_init_178 : decode cX9_init 178 = .ok (.aload_n 0, 1) := by decide +kernel
theorem dX9_init_179 : decode cX9_init 179 = .ok (.getfield 19, 3) := by decide +kernel
theorem dX9_init_182 : decode cX9_init 182 = .ok (.aload_n 0, 1) := by decide +kernel
theorem dX9_init_183 : decode cX9_init 183 = .ok (.getfield 10, 3) := by decide +kernel
theorem dX9_init_186 : decode cX9_init 186 = .ok (.aload_n 0, 1) := by decide +kernel
theorem dX9_init_187 : decode cX9_init 187 = .ok (.getfield 33, 3) := by decide +kernel
theorem dX9_init_190 : decode cX9_init 190 = .ok (.invokevirtual 95, 3) := by decide +kernel
theorem dX9_init_193 : decode cX9_init 193 = .ok (.pop, 1) := by decide +kernel
theorem dX9_init_194 : decode cX9_init 194 = .ok (.aload_n 0, 1) := by decide +kernel
theorem dX9_init_195 : decode cX9_init 195 = .ok (.getfield 10, 3) := by decide +kernel
theorem dX9_init_198 : decode cX9_init 198 = .ok (.invokevirtual 99, 3) := by decide +kernel
theorem dX9_init_201 : decode cX9_init 201 = .ok (.aload_n 0, 1) := by decide +kernel
theorem dX9_init_202 : decode cX9_init 202 = .ok (.invokevirtual 102, 3) := by decide +kernel
theorem dX9_init_205 : decode cX9_init 205 = .ok (.return_, 1) := by decide +kernel
def iX9 : pM := (yX9_init, cX9_init, 2, none, 85, [])
def s_lit : String := "k0;r0;g0,0,1;g0,1,2;g0,1,1;g1,0,3;g1,1,2;g3,0,3;g0,0,4;g2,0,1;g8,0,3;"
def o_Cx (p : Program) (s : State) (m : MethodId) (args : Array Value) (meth : Method) (c : Code) (M : pM) : Prop := p.tables.exec = Jvm.exec ∧ c.code = M.2.1 ∧ meth.sig.returnType = none ∧ c.maxLocals = M.2.2.1 ∧ (∀ w ∈ p_ws M, w.before args s = true) ∧ s.vm.findClass M.1.cls = some m.cls ∧ meth.locks = false ∧ meth.name = "<init>"
theorem o_Cx.k {p : Program} {s : State} {m : MethodId} {args : Array Value} {meth : Method} {c : Code} {M : pM} {D : va_G} {kc : ClassId × ClassId × ClassId} (h : o_Cx p s m args meth c M) (hK : va_K D k_cl (p_tys kc) s) (hN : p_nest s) (hO : va_AOA .long s) : k_Cx p s m args meth c D kc M := by
  obtain ⟨h1, h2, h3, h4, h5, h6, h7, h8⟩ := h
  exact ⟨h1, h2, h3, h4, h5, h6, h7, h8, hK, hN, hO⟩
theorem x_open {M : pM} {l : Launch} {R : Room} {vs : List Value} {Bp : State → Prop} {Qc : Array Value → State → Outcome → State → Prop} {mc ms : Nat} {free : Addr → Prop} (hpl : plainName M.1.cls = true) (hret : M.2.2.2.1 = none) (hnm : M.1.name = "<init>") (hlen : (lg_sl vs).length ≤ M.2.2.1)
    (body : ∀ (p : Program) (e : Env) (s : State) (m : MethodId) (args : Array Value) (below : List Frame) (meth : Method) (c : Code) (ls : Array Slot), o_Cx p s m args meth c M → Bp s → lv_has ls M.2.2.1 (lv_args 0 vs) → W p l e R s m args below meth c s.heap [] 0 0 (MQ below Qc args s mc ms free) (F0 m 0 ls [])) : Met l M.1 (p_ws M) R (va_Pc vs Bp) Qc mc ms free := by
  refine Met.ofW (cc := M.2.1) (maxL := M.2.2.1) (ret := M.2.2.2.1) hpl rfl ?_
  intro p e s m args below meth c s₁ B hml hv
  obtain ⟨rfl, hB⟩ := hv
  have hl := lv_entry vs (n := M.2.2.1) hlen
  rw [lg_entry_eq]
  exact body p e s m _ below meth c _ ⟨B.exec, B.bytes, B.returns.trans hret, hml, atoms_spec (ws := p_ws M) B.pre, findClass_of_methodNamed B.named, B.notSynchronized, (name_of_methodNamed B.named B.method).1.trans hnm⟩ hB hl
section XT
variable {p : Program} {l : Launch} {e : Env} {R : Room} {s : State} {m : MethodId} {args : Array Value} {below : List Frame} {meth : Method} {c : Code} {Q : State → Prop} {H : Heap} {locs : List Loc} {cells slots : Nat}
variable {D : va_G} {kc : ClassId × ClassId × ClassId} {own : String} {cc : ByteArray} {nL : Nat} {A : Nat → Prop} {ls : Array Slot} {rest : List Value} {pc : Nat}
theorem g_get (cx : g_Cx p s m args c own cc nL D kc) {T : u_T} {NF ci idx k i2 N q : Nat} {ty0 : Nat → FieldType} {fs : List Value} {v : Value} {ad : Nat → Nat} {h : pH} (hC : p_Cs[ci]? = some ((own, T, NF), ty0)) (hk : k < NF) (hdecl : (T k).1 = own) (w2 : p_word i2 (.fieldLink own idx own (T k).2.1 (T k).2.2.1) = true) (hq : q < N) (hh : h q = eO ci fs) (hv : fs[k]? = some v) (hP : va_P D k_cl (p_wm kc ad N h) H) (hd : decode cc pc = .ok (.getfield idx, 3)) (kk : W p l e R s m args below meth c H locs cells slots Q (F0 m (pc + 3) ls (p_v ad v :: rest))) : W p l e R s m args below meth c H locs cells slots Q (F0 m pc ls (.ref (ad q) :: rest)) := by
  obtain ⟨⟨hx, hb, hml, hown, hWs⟩, hK, hN, hO⟩ := cx
  obtain ⟨o1, o2, o3⟩ := p_Cs_ok ci _ hC
  exact va_get (C := own) (T := T) (N := NF) (ref := own) (index := idx) (fs := fs.map (p_v ad)) (v := p_v ad v) hx hb hWs o1 hown hK hP q (by rw [p_wm_get hq, hh]; rfl) (p_cl_at hC) k hk (hWs _ (p_word_in w2)) (by rw [hdecl]; exact fun _ h => h) (by rw [List.getElem?_map, hv]; rfl) hd kk
theorem g_get0 (cx : g_Cx p s m args c own cc nL D kc) {T : u_T} {NF ci idx k i2 h0 : Nat} {ty0 : Nat → FieldType} {fs : List Value} {v : Value} {Xs : va_W} (hC : p_Cs[ci]? = some ((own, T, NF), ty0)) (hk : k < NF) (hdecl : (T k).1 = own) (w2 : p_word i2 (.fieldLink own idx own (T k).2.1 (T k).2.2.1) = true) (hv : fs[k]? = some v) (hP : va_P D k_cl ((h0, .inr (ci, fs)) :: Xs) H) (hd : decode cc pc = .ok (.getfield idx, 3)) (kk : W p l e R s m args below meth c H locs cells slots Q (F0 m (pc + 3) ls (v :: rest))) : W p l e R s m args below meth c H locs cells slots Q (F0 m pc ls (.ref h0 :: rest)) := by
  obtain ⟨⟨hx, hb, hml, hown, hWs⟩, hK, hN, hO⟩ := cx
  obtain ⟨o1, o2, o3⟩ := p_Cs_ok ci _ hC
  exact va_get (C := own) (T := T) (N := NF) (ref := own) (index := idx) (fs := fs) (v := v) hx hb hWs o1 hown hK hP 0 rfl (p_cl_at hC) k hk (hWs _ (p_word_in w2)) (by rw [hdecl]; exact fun _ h => h) hv hd kk
end XT
section PXU
variable {h h1 : pH} {X X' : tX} {L L' : tL} {K K' : tK} {U : tU} {T T' D : tT} {O O' : tO} {P : tP} {A B : tT} {S E : tS} {G : tG}
theorem PX.wL (x : PX h X L K U T D O P A B S E G) (y : isL h1 L') (f : fr [(1, 3)] h h1) : PX h1 X L' K U T D O P A B S E G := by
  obtain ⟨xX, xL, xK, xU, xT, xD, xO, xP, xA, xB, xS, xE, xG⟩ := x
  exact ⟨isX.fr f (by decide) xX, y, isK.fr f (by decide) xK, isU.fr f (by decide) xU, isT.fr f (by decide) xT, isT.fr f (by decide) xD, isO.fr f (by decide) xO, isP.fr f (by decide) xP, isT.fr f (by decide) xA, isT.fr f (by decide) xB, isS.fr f (by decide) xS, isS.fr f (by decide) xE, isG.fr f (by decide) xG⟩
theorem PX.wKT (x : PX h X L K U T D O P A B S E G) (y : isK h1 K') (z : isT7 h1 7 T') (f : fr [(3, 5), (7, 7 + 4)] h h1) : PX h1 X L K' U T' D O P A B S E G := by
  obtain ⟨xX, xL, xK, xU, xT, xD, xO, xP, xA, xB, xS, xE, xG⟩ := x
  exact ⟨isX.fr f (by decide) xX, isL.fr f (by decide) xL, y, isU.fr f (by decide) xU, ⟨z.1, z.2.1, z.2.2.1, z.2.2.2.1, by decide⟩, isT.fr f (by decide) xD, isO.fr f (by decide) xO, isP.fr f (by decide) xP, isT.fr f (by decide) xA, isT.fr f (by decide) xB, isS.fr f (by decide) xS, isS.fr f (by decide) xE, isG.fr f (by decide) xG⟩
theorem PX.wXO (x : PX h X L K U T D O P A B S E G) (y : isX h1 X') (z : isO h1 O') (f : fr [(0, 1), (15, 23)] h h1) : PX h1 X' L K U T D O' P A B S E G := by
  obtain ⟨xX, xL, xK, xU, xT, xD, xO, xP, xA, xB, xS, xE, xG⟩ := x
  exact ⟨y, isL.fr f (by decide) xL, isK.fr f (by decide) xK, isU.fr f (by decide) xU, isT.fr f (by decide) xT, isT.fr f (by decide) xD, z, isP.fr f (by decide) xP, isT.fr f (by decide) xA, isT.fr f (by decide) xB, isS.fr f (by decide) xS, isS.fr f (by decide) xE, isG.fr f (by decide) xG⟩
theorem PX.w7 (x : PX h X L K U T D O P A B S E G) : isT7 h 7 T := by
  obtain ⟨xX, xL, xK, xU, ⟨t0, t1, t2, t3, -⟩, -⟩ := x
  exact ⟨t0, t1, t2, t3, by decide⟩
end PXU
set_option maxRecDepth 100000 in
theorem x_loop {p : Program} {l : Launch} {e : Env} {R : Room} {s : State} {m : MethodId} {args : Array Value} {below : List Frame} {meth : Method} {c : Code} {Q : State → Prop} {cells slots : Nat} {D : va_G} {kc : ClassId × ClassId × ClassId} {A : Nat → Prop} {kS vS : Nat} {ad : Nat → Nat} {X : tX} {K : tK} {U : tU} {T Dr : tT} {O : tO} {Pa : tP} {Ka Kb : tT} {S E : tS} {G : tG} (cx : k_Cx p s m args meth c D kc iX9) (hst : s_st A kS vS s s.heap) (hvk : vk_R "LabelTree" 79 s_lit kS s) (inj : ∀ i j, i < 73 → j < 73 → ad i = ad j → i = j) (hAd : ∀ j, j < 73 → A (ad j)) (hR : 4 ≤ R.frames ∧ 150 ≤ R.locals) (hcells : cells ≤ R.cells) (hslots : slots ≤ R.slots)
    (kk : ∀ (h : pH) (H : Heap) (locs : List Loc) (ls : Array Slot) (L : tL), PX h X L K U T Dr O Pa Ka Kb S E G → L.2 = nI 69 → (∀ i, i < 69 → L.1 i = s_ch i) → va_P D k_cl (p_wm kc ad 73 h) H → va_S A s.heap H locs → lv_has ls 2 [(0, .ref (ad 0))] → W p l e R s m args below meth c H locs cells slots Q (F0 m 178 ls [])) : ∀ (j k : Nat), k + j = 69 → ∀ (h : pH) (H : Heap) (locs : List Loc) (ls : Array Slot) (L : tL), PX h X L K U T Dr O Pa Ka Kb S E G → L.2 = nI k → (∀ i, i < k → L.1 i = s_ch i) → va_P D k_cl (p_wm kc ad 73 h) H → va_S A s.heap H locs → lv_has ls 2 [(0, .ref (ad 0)), (1, .int (nI k))] → W p l e R s m args below meth c H locs cells slots Q (F0 m 150 ls [])
  | j, k, hjk, h, H, locs, ls, L, px, hL, hc, hP, hS, hl => by
    obtain ⟨hx, hb, hr, hml, hts, hown, hlocks, hnm, hK, hN, hO⟩ := id cx
    have gx := cx.g
    obtain ⟨xX, xL, -⟩ := id px
    refine lv_iload_n hx hb dX9_init_150 rfl (lv_at hl 1 rfl) ?_
    refine va_ldcS hx hb hown hvk dX9_init_151 ?_
    refine s_callV (na := 0) (vs := []) (rest := [.int (nI k)]) (Mi := i_length) (fr := 1) (i0 := 276) (i1 := 273) (i2 := 274) (i3 := 71) (i4 := 275) gx.1 hst hS (m_length l kS vS) rfl (by decide +kernel) (by decide +kernel) (by decide +kernel) (by decide +kernel) (by decide +kernel) (by decide +kernel) ⟨by omega, by show 8 + (1 + 11) + 30 * 1 ≤ R.locals; omega⟩ rfl hl.1 (Nat.le_of_ble_eq_true rfl) dX9_init_153 hcells hslots ?_
    refine lv_icmp_ge (tgt := 178) hx hb dX9_init_156 (by decide) (fun c1 => ?_) (fun c1 => ?_)
    · have e : k = 69 := by
        by_cases c2 : k < 69
        · exact absurd c1 (nI_ge (b := 69) c2 (by decide))
        · omega
      subst e
      exact kk h H locs ls L px hL hc hP hS (lv_sub hl [0] rfl)
    · cases j with
      | zero => exact absurd (nI_le (a := 69) (b := k) (by omega) (by omega)) c1
      | succ j =>
        have hk : k < 69 := by omega
        refine lv_aload_n hx hb dX9_init_159 rfl (lv_at hl 0 rfl) ?_
        refine g_get gx (k := 0) (ci := 8) (i2 := 469) (q := 0) rfl (by decide) rfl (by decide +kernel) (by decide) xX rfl hP dX9_init_160 ?_
        refine va_ldcS hx hb hown hvk dX9_init_163 ?_
        refine lv_iload_n hx hb dX9_init_165 rfl (lv_at hl 1 rfl) ?_
        refine s_callV (na := 1) (vs := [.int (nI k)]) (rest := [.ref (ad 1)]) (Mi := i_char0) (fr := 3) (i0 := 286) (i1 := 283) (i2 := 284) (i3 := 71) (i4 := 285) gx.1 hst hS (m_char0 l kS vS hk) rfl (by decide +kernel) (by decide +kernel) (by decide +kernel) (by decide +kernel) (by decide +kernel) (by decide +kernel) ⟨by omega, by show 8 + (2 + 11) + 30 * 3 ≤ R.locals; omega⟩ rfl hl.1 (Nat.le_of_ble_eq_true rfl) dX9_init_166 hcells hslots ?_
        obtain ⟨n, r, h1, hrun, rfl, yL, f⟩ := spX1_add7 (d := 0) xL (s_ch k) (st_add hk hL (s_ch k))
        refine g_call gx (N := 73) (ad := ad) (M' := mX1_add) (na := 1) (ci := 0) (q := 1) (vs := [.int (s_ch k)]) (rest := []) (i1 := 321) (i2 := 322) (i3 := 323) (i4 := 63) inj hAd (List.mem_of_getElem? (i := 6) rfl) dX9_init_169 (by decide +kernel) (by decide +kernel) (by decide +kernel) (by decide +kernel) (by decide +kernel) rfl rfl (by decide) xL.1 rfl (Nat.le_of_ble_eq_true rfl) (Nat.le_of_ble_eq_true rfl) ⟨by omega, by show 8 + (2 + 11) + 30 * 0 ≤ R.locals; omega⟩ hcells hslots hrun hP hS hl.1 (fun H1 locs1 hP1 hS1 => ?_)
        refine lv_iinc (v := nI (k + 1)) (lv' := [(1, .int (nI (k + 1))), (0, .ref (ad 0))]) hx hb dX9_init_172 hl (k := 1) rfl (nI_add k 1) (by decide) rfl (fun ls hl => ?_)
        refine lv_goto (tgt := 150) hx hb dX9_init_175 (by decide) ?_
        refine x_loop cx hst hvk inj hAd hR hcells hslots kk j (k + 1) (by omega) h1 H1 locs1 ls (upd L.1 k (s_ch k), nI (k + 1)) (PX.wL px yL f) rfl (fun i hi => ?_) hP1 hS1 (lv_sub hl [1, 0] rfl)
        by_cases ci : i = k
        · subst ci
          exact pk_us
        · exact (pk_un ci).trans (hc i (by omega))
