/-! CALLS OF CONSTRUCTORS AND OF THE TABLES' METHODS, from any frame -/
def b_Cx (p : Program) (s : State) (m : MethodId) (args : Array Value) (c : Code) (own : String) (cc : ByteArray) (nL : Nat) : Prop :=
  p.tables.exec = Jvm.exec ∧ c.code = cc ∧ c.maxLocals = nL ∧ s.vm.findClass own = some m.cls ∧ (∀ w ∈ p_W, w.before args s = true)
def g_Cx (p : Program) (s : State) (m : MethodId) (args : Array Value) (c : Code) (own : String) (cc : ByteArray) (nL : Nat) (D : va_G) (kc : ClassId × ClassId × ClassId) : Prop :=
  b_Cx p s m args c own cc nL ∧ va_K D k_cl (p_tys kc) s ∧ p_nest s ∧ va_AOA .long s
theorem k_Cx.g {p : Program} {s : State} {m : MethodId} {args : Array Value} {meth : Method} {c : Code} {D : va_G} {kc : ClassId × ClassId × ClassId} {M : pM} (cx : k_Cx p s m args meth c D kc M) : g_Cx p s m args c M.1.cls M.2.1 M.2.2.1 D kc := by
  obtain ⟨hx, hb, hr, hml, hts, hown, hlocks, hnm, hK, hN, hO⟩ := cx
  exact ⟨⟨hx, hb, hml, hown, fun w h => hts w (List.mem_cons_of_mem _ h)⟩, hK, hN, hO⟩
theorem g_good {Mi : pM} (h : Jvm.Cond.code Mi.1 Mi.2.1 Mi.2.2.1 Mi.2.2.2.1 ∈ p_W) : GoodIn p_W (p_ws Mi) := fun w hw => by
  rcases List.mem_cons.mp hw with e | hw
  · subst e
    exact ⟨h, p_good h⟩
  · exact ⟨hw, p_good hw⟩
/-- behind a call: what stood ahead of the callee's cells, and the callee's world -/
theorem k_join {A0 : Nat → Prop} {D : va_G} {cl : List vw_C} {ws0 wc w1 : va_W} {H H1 : Heap} (hP : va_P D cl (ws0 ++ wc) H) (hD : va_D A0 (ws0 ++ wc)) (hk : ∀ q : Nat, q < H.size → ¬ va_A wc H.size q → H1[q]? = H[q]?) (hF : ∀ q, va_A wc H.size q → A0 q) (hP1 : va_P D cl w1 H1) (hD1 : va_D (va_A wc H.size) w1) : va_P D cl (ws0 ++ w1) H1 ∧ va_D A0 (ws0 ++ w1) := by
  have left : ∀ (k : Nat) (q : Nat × va_E), ws0[k]? = some q → (ws0 ++ wc)[k]? = some q := fun k q hq => by
    rw [List.getElem?_append_left (List.getElem?_eq_some_iff.mp hq).1]
    exact hq
  have apart : ∀ (k : Nat) (q : Nat × va_E), ws0[k]? = some q → q.1 < H.size ∧ ¬ va_A wc H.size q.1 := by
    intro k q hq
    have h2 := left k q hq
    have hl := (hP k q h2).lt
    have hkl : k < ws0.length := (List.getElem?_eq_some_iff.mp hq).1
    refine ⟨hl, fun h => ?_⟩
    rcases h with ⟨k2, e, h⟩ | h
    · have h4 : (ws0 ++ wc)[ws0.length + k2]? = some (q.1, e) := by
        rw [List.getElem?_append_right (by omega), Nat.add_sub_cancel_left]
        exact h
      have hij := hD.1 k (ws0.length + k2) q (q.1, e) h2 h4 rfl
      omega
    · omega
  have hD0 : va_D A0 ws0 := ⟨fun i j x y hx hy hxy => hD.1 i j x y (left i x hx) (left j y hy) hxy, fun k q hq => hD.2 k q (left k q hq)⟩
  refine ⟨va_P.app (fun k q hq => ?_) hP1, va_D.app hD0 (hD1.weaken (fun k q _ h => hF q.1 h)) (fun i j x y hx hy hxy => ?_)⟩
  · obtain ⟨g1, g2⟩ := apart k q hq
    exact (hP k q (left k q hq)).kept (hk q.1 g1 g2)
  · exact (apart i x hx).2 (by rw [hxy]; exact hD1.2 j y hy)
def g_E {S : Type} (D : va_G) (w : S → va_W) (A : Nat → Prop) (u : S) (t : State) : Prop := va_P D k_cl (w u) t.heap ∧ va_D A (w u)
section GC
variable {p : Program} {l : Launch} {e : Env} {R : Room} {s : State} {m : MethodId} {args : Array Value} {below : List Frame} {meth : Method} {c : Code} {Q : State → Prop} {H : Heap} {locs : List Loc} {cells slots : Nat}
variable {D : va_G} {kc : ClassId × ClassId × ClassId} {own : String} {cc : ByteArray} {nL : Nat} {A : Nat → Prop} {ls : Array Slot} {rest : List Value} {pc : Nat}
/-- new C; dup -/
theorem g_new (cx : g_Cx p s m args c own cc nL D kc) {Cn : String} {T : u_T} {NF ci idx i1 i2 i3 : Nat} {ty0 : Nat → FieldType} {ws : va_W} {zs : List Value} (hP : va_P D k_cl ws H) (hD : va_D A ws) (hS : va_S A s.heap H locs) (hA : ∀ q, s.heap.size ≤ q → A q) (hC : p_Cs[ci]? = some ((Cn, T, NF), ty0)) (w1 : p_word i1 (.classLink own idx Cn) = true) (w2 : p_word i2 (.instantiable Cn NF) = true) (w3 : p_word i3 (.initialized Cn) = true) (hfs : ∀ j, j < NF → defaultValue (ty0 j) = vp_V zs j) (hcells : cells + 1 ≤ R.cells) (hslots : slots + NF ≤ R.slots) (d1 : decode cc pc = .ok (.new idx, 3)) (d2 : decode cc (pc + 3) = .ok (.dup, 1))
    (kk : ∀ (q : Nat) (H1 : Heap), va_P D k_cl (ws ++ [(q, .inr (ci, zs))]) H1 → va_D A (ws ++ [(q, .inr (ci, zs))]) → va_S A s.heap H1 locs → W p l e R s m args below meth c H1 locs (cells + 1) (slots + NF) Q (F0 m (pc + 4) ls (.ref q :: .ref q :: rest))) : W p l e R s m args below meth c H locs cells slots Q (F0 m pc ls rest) := by
  obtain ⟨⟨hx, hb, hml, hown, hWs⟩, hK, hN, hO⟩ := cx
  obtain ⟨o1, o2, o3⟩ := p_Cs_ok ci _ hC
  refine va_new (C := Cn) (T := T) (N := NF) (ci := ci) (fs := zs) hx hb hWs o1 ty0 o2 hown (hWs _ (p_word_in w1)) (hWs _ (p_word_in w2)) (hWs _ (p_word_in w3)) hK hP hD hS hA (p_cl_at hC) hfs hcells hslots d1 (fun q H1 hP1 hD1 hS1 => ?_)
  refine lv_dup hx hb d2 rfl ?_
  exact kk q H1 hP1 hD1 hS1
/-- invokespecial <init>, by its contract -/
theorem g_ctor (cx : g_Cx p s m args c own cc nL D kc) {S : Type} {post : S → Prop} {Mi : pM} {fr mc ms idx na i0 i1 i2 i3 q : Nat} {vs : List Value} {w : S → va_W} {ws0 wc : va_W} {Bp : State → Prop}
    (hM : Met l Mi.1 (p_ws Mi) (k_rm fr mc ms) (va_Pc (.ref q :: vs) Bp) (va_Qv post (g_E D w (va_A wc H.size)) (va_A wc H.size)) mc ms (va_A wc H.size))
    (hp : PreS s H (va_Pc (.ref q :: vs) Bp) (.ref q :: vs)) (hret : Mi.2.2.2.1 = none) (w0 : p_word i0 (.code Mi.1 Mi.2.1 Mi.2.2.1 Mi.2.2.2.1) = true) (y0 : p_okY Mi na = true) (w1 : p_word i1 (.methodLink own idx Mi.1) = true) (w2 : p_word i2 (.instanceMethod Mi.1) = true) (w3 : p_word i3 (.initialized Mi.1.cls) = true) (hnm : Mi.1.name = "<init>") (hR : fr + 1 ≤ R.frames ∧ 8 + (Mi.2.2.1 + 11) + 30 * fr ≤ R.locals) (hna : vs.length = na) (hl : ls.size = nL) (hcat : (rest.map fun v => v.category).sum ≤ 8) (hd : decode cc pc = .ok (.invokespecial idx, 3)) (hcells : cells + mc ≤ R.cells) (hslots : slots + ms ≤ R.slots)
    (hP : va_P D k_cl (ws0 ++ wc) H) (hD : va_D A (ws0 ++ wc)) (hS : va_S A s.heap H locs) (hA : ∀ q, s.heap.size ≤ q → A q)
    (kk : ∀ (u : S) (H1 : Heap) (locs1 : List Loc), post u → va_P D k_cl (ws0 ++ w u) H1 → va_D A (ws0 ++ w u) → va_S A s.heap H1 locs1 → W p l e R s m args below meth c H1 locs1 (cells + mc) (slots + ms) Q (F0 m (pc + 3) ls rest)) : W p l e R s m args below meth c H locs cells slots Q (F0 m pc ls (vs.reverse ++ .ref q :: rest)) := by
  obtain ⟨⟨hx, hb, hml, hown, hWs⟩, hK, hN, hO⟩ := cx
  have hF : ∀ x, va_A wc H.size x → A x := fun x h => by
    rcases h with ⟨k, e, h⟩ | h
    · refine hD.2 (ws0.length + k) (x, e) ?_
      rw [List.getElem?_append_right (by omega), Nat.add_sub_cancel_left]
      exact h
    · exact hA x (Nat.le_trans hS.1 h)
  simp only [p_okY, Bool.and_eq_true, decide_eq_true_eq] at y0
  obtain ⟨⟨y1, y2⟩, y3⟩ := y0
  have hc0 := p_word_in w0
  refine va_callv (va_runI (As := vs) (rest := rest) ⟨hx, hb, hml, hown, hWs⟩ hM (cwI (Ts := p_W) (bytes := Mi.2.1) (maxL := Mi.2.2.1) (ws' := p_W) na hWs (g_good hc0) (by rw [← hret]; rfl) rfl rfl (hWs _ (p_word_in w3)) (hWs _ (p_word_in w1)) (hWs _ (p_word_in w2)) hnm ⟨y1, y2, y3⟩ hR) hp rfl hna hl rfl (lv_room hcat) hd ⟨hcells, hslots⟩) hS (fun x _ h => hF x h) hF (fun u t H1 locs1 ht hvm hpo hB hz1 hk1 hS1 => ?_)
  obtain ⟨hP1, hD1⟩ := hB
  rw [ht] at hP1
  obtain ⟨hP2, hD2⟩ := k_join hP hD hk1 hF hP1 hD1
  exact kk u H1 locs1 hpo hP2 hD2 hS1
/-- the same, of a nest mate -/
theorem g_ctorN (cx : g_Cx p s m args c own cc nL D kc) {S : Type} {post : S → Prop} {Mi : pM} {fr mc ms idx na i0 i1 i2 i3 q : Nat} {vs : List Value} {w : S → va_W} {ws0 wc : va_W} {Bp : State → Prop} {host : String}
    (hM : Met l Mi.1 (p_ws Mi) (k_rm fr mc ms) (va_Pc (.ref q :: vs) Bp) (va_Qv post (g_E D w (va_A wc H.size)) (va_A wc H.size)) mc ms (va_A wc H.size))
    (hp : PreS s H (va_Pc (.ref q :: vs) Bp) (.ref q :: vs)) (hret : Mi.2.2.2.1 = none) (w0 : p_word i0 (.code Mi.1 Mi.2.1 Mi.2.2.1 Mi.2.2.2.1) = true) (y0 : p_okY Mi na = true) (w1 : lw_tbl[i1]? = some (.methodLinkNest own idx Mi.1 host)) (w2 : p_word i2 (.instanceMethod Mi.1) = true) (w3 : p_word i3 (.initialized Mi.1.cls) = true) (hnm : Mi.1.name = "<init>") (hR : fr + 1 ≤ R.frames ∧ 8 + (Mi.2.2.1 + 11) + 30 * fr ≤ R.locals) (hna : vs.length = na) (hl : ls.size = nL) (hcat : (rest.map fun v => v.category).sum ≤ 8) (hd : decode cc pc = .ok (.invokespecial idx, 3)) (hcells : cells + mc ≤ R.cells) (hslots : slots + ms ≤ R.slots)
    (hP : va_P D k_cl (ws0 ++ wc) H) (hD : va_D A (ws0 ++ wc)) (hS : va_S A s.heap H locs) (hA : ∀ q, s.heap.size ≤ q → A q)
    (kk : ∀ (u : S) (H1 : Heap) (locs1 : List Loc), post u → va_P D k_cl (ws0 ++ w u) H1 → va_D A (ws0 ++ w u) → va_S A s.heap H1 locs1 → W p l e R s m args below meth c H1 locs1 (cells + mc) (slots + ms) Q (F0 m (pc + 3) ls rest)) : W p l e R s m args below meth c H locs cells slots Q (F0 m pc ls (vs.reverse ++ .ref q :: rest)) := by
  obtain ⟨⟨hx, hb, hml, hown, hWs⟩, hK, hN, hO⟩ := cx
  have hF : ∀ x, va_A wc H.size x → A x := fun x h => by
    rcases h with ⟨k, e, h⟩ | h
    · refine hD.2 (ws0.length + k) (x, e) ?_
      rw [List.getElem?_append_right (by omega), Nat.add_sub_cancel_left]
      exact h
    · exact hA x (Nat.le_trans hS.1 h)
  simp only [p_okY, Bool.and_eq_true, decide_eq_true_eq] at y0
  obtain ⟨⟨y1, y2⟩, y3⟩ := y0
  have hc0 := p_word_in w0
  have cb := va_cnB (R := R) (mc := mc) (ms := ms) (own := own) (host := host) (index := idx) (Ts := p_W) (ws' := p_W) (bytes := Mi.2.1) (maxL := Mi.2.2.1) (ret := none) na hWs (g_good hc0) (by rw [← hret]; rfl) (rm := k_rm fr mc ms) rfl rfl (hN _ (List.mem_of_getElem? w1) rfl) (hWs _ (p_word_in w3)) ⟨y1, y2, y3⟩ hR
  refine va_callv (va_runIN (As := vs) (rest := rest) ⟨hx, hb, hml, hown, hWs⟩ hM ⟨cb, hnm, hWs _ (p_word_in w2)⟩ hp rfl hna hl rfl (lv_room hcat) hd ⟨hcells, hslots⟩) hS (fun x _ h => hF x h) hF (fun u t H1 locs1 ht hvm hpo hB hz1 hk1 hS1 => ?_)
  obtain ⟨hP1, hD1⟩ := hB
  rw [ht] at hP1
  obtain ⟨hP2, hD2⟩ := k_join hP hD hk1 hF hP1 hD1
  exact kk u H1 locs1 hpo hP2 hD2 hS1
theorem g_right {ws0 wc : va_W} (hP : va_P D k_cl (ws0 ++ wc) H) (hD : va_D A (ws0 ++ wc)) : va_P D k_cl wc H ∧ va_D (fun _ => True) wc := by
  have rt : ∀ (k : Nat) (q : Nat × va_E), wc[k]? = some q → (ws0 ++ wc)[ws0.length + k]? = some q := fun k q hq => by
    rw [List.getElem?_append_right (by omega), Nat.add_sub_cancel_left]
    exact hq
  refine ⟨fun k q hq => hP _ q (rt k q hq), fun i j x y hx hy hxy => ?_, fun _ _ _ => trivial⟩
  have := hD.1 _ _ x y (rt i x hx) (rt j y hy) hxy
  omega
theorem g_pre (cx : g_Cx p s m args c own cc nL D kc) {ws0 wc : va_W} {vs : List Value} (hP : va_P D k_cl (ws0 ++ wc) H) (hD : va_D A (ws0 ++ wc)) : PreS s H (va_Pc vs (k_B D kc wc H.size)) vs := by
  obtain ⟨-, hK, hN, hO⟩ := cx
  obtain ⟨h1, h2⟩ := g_right hP hD
  exact ⟨k_blind, fun U hU hW => ⟨rfl, by rw [hU], by rw [hU]; exact h1, h2, va_K.moved hW.alike hK, p_nest.warm hW hN, va_AOA.moved hW.alike hO⟩⟩
/-- a method of the tables, over N places -/
theorem g_call (cx : g_Cx p s m args c own cc nL D kc) {N n d : Nat} {ad : Nat → Nat} (inj : ∀ i j, i < N → j < N → ad i = ad j → i = j) (hAd : ∀ j, j < N → A (ad j)) {idx na ci q i1 i2 i3 i4 : Nat} {M' : pM} {vs : List Value} {h h1 : pH} {fs : List Value} {r : Option Value} {C : pCi} (hM : M' ∈ p_T) (hd : decode cc pc = .ok (.invokevirtual idx, 3)) (y0 : p_okY M' na = true) (w1 : p_word i1 (.methodLink own idx M'.1) = true) (w2 : p_word i2 (.instanceMethod M'.1) = true) (w3 : p_word i3 (.selects M'.1.cls M'.1 M'.1) = true) (w4 : p_word i4 (.initialized M'.1.cls) = true) (hC1 : p_Cs[ci]? = some C) (hC2 : C.1.1 = M'.1.cls) (hq : q < N) (hh : h q = eO ci fs) (hna : vs.length = na) (hsl : (lg_sl (.ref q :: vs)).length ≤ M'.2.2.1) (hcat : (rest.map fun v => v.category).sum ≤ 8) (hR : d + 1 ≤ R.frames ∧ 8 + (M'.2.2.1 + 11) + 30 * d ≤ R.locals) (hcells : cells ≤ R.cells) (hslots : slots ≤ R.slots)
    (hrun : p_run N p_Cs p_T n d M' (h, 0, lv_args 0 (.ref q :: vs), []) = some (r, h1)) (hP : va_P D k_cl (p_wm kc ad N h) H) (hS : va_S A s.heap H locs) (hl : ls.size = nL)
    (kk : ∀ (H1 : Heap) (locs1 : List Loc), va_P D k_cl (p_wm kc ad N h1) H1 → va_S A s.heap H1 locs1 → W p l e R s m args below meth c H1 locs1 cells slots Q (F0 m (pc + 3) ls ((r.map (p_v ad)).toList ++ rest))) : W p l e R s m args below meth c H locs cells slots Q (F0 m pc ls ((vs.map (p_v ad)).reverse ++ .ref (ad q) :: rest)) := by
  obtain ⟨⟨hx, hb, hml, hown, hWs⟩, hK, hN, hO⟩ := cx
  have okM' := p_T_ok M' hM
  have hmet := p_met_of (l := l) (D := D) (kc := kc) (p_runW p_Cs_ok p_T_ok inj n) p_T_ok d M' hM h h1 (.ref q :: vs) r hrun hsl
  obtain ⟨okI, okc, okn, okm⟩ := okM'
  simp only [p_okY, Bool.and_eq_true, decide_eq_true_eq] at y0
  obtain ⟨⟨y1, y2⟩, y3⟩ := y0
  have cb := callB_of (R := R) (mc := 0) (ms := 0) (own := own) (index := idx) (ws' := p_W) (bytes := M'.2.1) (maxL := M'.2.2.1) (ret := M'.2.2.2.1) na hWs (g_good (Mi := M') okc) rfl (rm := p_rm d) rfl rfl (hWs _ (p_word_in w4)) (hWs _ (p_word_in w1)) ⟨y1, y2, y3⟩ hR
  have hrecv := va_recv (D := D) hK hP (p_cl_at hC1) (q0 := q) (a := ad q) (fs := fs.map (p_v ad)) (by rw [p_wm_get hq, hh]; rfl)
  rw [hC2] at hrecv
  refine p_contL (A := A) (va_runV (As := vs.map (p_v ad)) (rest := rest) ⟨hx, hb, hml, hown, hWs⟩ hmet ⟨cb, hWs _ (p_word_in w2), hWs _ (p_word_in w3)⟩ ⟨p_blind, hrecv, fun U hU hW => ⟨rfl, by rw [hU]; exact hP, va_K.moved hW.alike hK, p_nest.warm hW hN⟩⟩ rfl (by simpa using hna) hl rfl (lv_room hcat) hd ⟨hcells, hslots⟩) hS (fun x hx => ?_) (fun H1 locs1 hP1 hS1 _ _ => kk H1 locs1 hP1 hS1)
  obtain ⟨j, hj, rfl⟩ := hx
  exact hAd j hj
end GC
