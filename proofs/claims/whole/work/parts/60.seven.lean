/-! the runs that the constructor of LabelTree needs, over its own 73 places (a copy by program: wip/whole/gen60.py) -/
def pN7 : Nat := 73
def Ev7 (d : Nat) (M : pM) (s : pS) (Q : Option Value → pH → Prop) : Prop := ∃ n r h', p_run pN7 p_Cs p_T n d M s = some (r, h') ∧ Q r h'
def p_go7 : Nat → pM → pS → Option pS
  | 0, _, s => some s
  | k + 1, M, s =>
    match List.lookup s.2.1 M.2.2.2.2.2 with
    | none => none
    | some (i, len, a, _, ks) =>
      match p_kd i with
      | 0 => (match p_step pN7 p_Cs M.2.2.1 i len a (s.1, s.2.1, p_live ks s.2.2.1, s.2.2.2) with
        | some s' => p_go7 k M s'
        | none => none)
      | _ => none
theorem p_go_run7 {d : Nat} {M : pM} : ∀ {k n : Nat} {s s' : pS} {x : Option Value × pH}, p_go7 k M s = some s' → p_run pN7 p_Cs p_T n d M s' = some x → p_run pN7 p_Cs p_T (k + n) d M s = some x
  | 0, n, s, s', x, h, hr => by
    cases h
    rw [Nat.zero_add]
    exact hr
  | k + 1, n, s, s', x, h, hr => by
    simp only [p_go7] at h
    split at h
    · cases h
    · rename_i i len a ps ks hlook
      split at h
      · rename_i hkd
        split at h
        · rename_i s1 hst
          rw [show k + 1 + n = (k + n) + 1 by omega]
          simp only [p_run, hlook, hkd, hst]
          exact p_go_run7 h hr
        · cases h
      · cases h
theorem Ev7.go {d : Nat} {M : pM} {s s' : pS} {Q : Option Value → pH → Prop} (k : Nat) (h : p_go7 k M s = some s') (kk : Ev7 d M s' Q) : Ev7 d M s Q := by
  obtain ⟨n, r, h', e, q⟩ := kk
  exact ⟨k + n, r, h', p_go_run7 h e, q⟩
theorem Ev7.mono {d : Nat} {M : pM} {s : pS} {Q Q' : Option Value → pH → Prop} (h : Ev7 d M s Q) (hq : ∀ r h', Q r h' → Q' r h') : Ev7 d M s Q' := by
  obtain ⟨n, r, h', e, q⟩ := h
  exact ⟨n, r, h', e, hq r h' q⟩
section S7
variable {d : Nat} {M : pM} {Q : Option Value → pH → Prop} {h : pH} {pc : Nat} {lv : pLv} {st : List Value} {len : Nat} {a : Nat × Nat × Nat} {ps : List Nat}
theorem Ev7.one {i : Instr} {s' : pS} (hf : List.lookup pc M.2.2.2.2.2 = some (i, len, a, ps, [])) (hk : p_kd i = 0) (hs : p_step pN7 p_Cs M.2.2.1 i len a (h, pc, lv, st) = some s') (kk : Ev7 d M s' Q) : Ev7 d M (h, pc, lv, st) Q := by
  refine Ev7.go 1 ?_ kk
  simp only [p_go7, hf, hk, p_live, hs]
theorem Ev7.ret {i : Instr} {r : Option Value} (hf : List.lookup pc M.2.2.2.2.2 = some (i, len, a, ps, [])) (hk : p_kd i = 1) (hs : p_ret M.2.2.2.1 i (h, pc, lv, st) = some (r, h)) (kk : Q r h) : Ev7 d M (h, pc, lv, st) Q :=
  ⟨1, r, h, by simp only [p_run, hf, hk, p_live, hs], kk⟩
theorem Ev7.if1 {c : ClassFile.Cond} {off : Int} {x : Int32} {r : List Value} (hf : List.lookup pc M.2.2.2.2.2 = some (.ifCond c off, len, a, ps, [])) (kt : p_cd c x 0 → Ev7 d M (h, a.1, lv, r) Q) (kf : ¬ p_cd c x 0 → Ev7 d M (h, pc + len, lv, r) Q) : Ev7 d M (h, pc, lv, .int x :: r) Q := by
  by_cases hc : p_cd c x 0
  · refine Ev7.one hf rfl ?_ (kt hc)
    simp only [p_step, p_if1, if_pos ((p_cb_iff c x 0).mpr hc)]
  · refine Ev7.one hf rfl ?_ (kf hc)
    simp only [p_step, p_if1, if_neg (fun q => hc ((p_cb_iff c x 0).mp q))]
theorem Ev7.if2 {c : ClassFile.Cond} {off : Int} {x y : Int32} {r : List Value} (hf : List.lookup pc M.2.2.2.2.2 = some (.if_icmp c off, len, a, ps, [])) (kt : p_cd c x y → Ev7 d M (h, a.1, lv, r) Q) (kf : ¬ p_cd c x y → Ev7 d M (h, pc + len, lv, r) Q) : Ev7 d M (h, pc, lv, .int y :: .int x :: r) Q := by
  by_cases hc : p_cd c x y
  · refine Ev7.one hf rfl ?_ (kt hc)
    simp only [p_step, p_if2, if_pos ((p_cb_iff c x y).mpr hc)]
  · refine Ev7.one hf rfl ?_ (kf hc)
    simp only [p_step, p_if2, if_neg (fun q => hc ((p_cb_iff c x y).mp q))]
theorem Ev7.idiv {x y : Int32} {r : List Value} (hf : List.lookup pc M.2.2.2.2.2 = some (.idiv, len, a, ps, [])) (hy : ¬ y = 0) (kk : Ev7 d M (h, pc + len, lv, .int (x / y) :: r) Q) : Ev7 d M (h, pc, lv, .int y :: .int x :: r) Q := by
  refine Ev7.one hf rfl ?_ kk
  simp only [p_step, p_bD, if_neg hy]
theorem Ev7.get {b idx : Nat} {fs : List Value} {v : Value} {r : List Value} (hf : List.lookup pc M.2.2.2.2.2 = some (.getfield idx, len, a, ps, [])) (hb : b < pN7) (hh : h b = eO a.1 fs) (hv : fs[a.2.1]? = some v) (kk : Ev7 d M (h, pc + len, lv, v :: r) Q) : Ev7 d M (h, pc, lv, .ref b :: r) Q := by
  refine Ev7.one hf rfl ?_ kk
  simp only [p_step, p_get, if_pos hb, hh, if_true, hv]
theorem Ev7.put {b idx : Nat} {fs : List Value} {v : Value} {r : List Value} {C : pCi} (hf : List.lookup pc M.2.2.2.2.2 = some (.putfield idx, len, a, ps, [])) (hC : p_Cs[a.1]? = some C) (hb : b < pN7) (hh : h b = eO a.1 fs) (hl : a.2.1 < fs.length) (hn : narrow (C.2 a.2.1) v = v) (hfi : fits (C.2 a.2.1) v = true) {fs' : List Value} (hs : fs.set a.2.1 v = fs') (kk : Ev7 d M (pu h b (eO a.1 fs'), pc + len, lv, r) Q) : Ev7 d M (h, pc, lv, v :: .ref b :: r) Q := by
  refine Ev7.one hf rfl ?_ kk
  simp only [p_step, hC, p_put, if_pos hb, hh, hs]
  rw [if_pos ⟨trivial, hl, hn, hfi⟩]
theorem Ev7.iald {b n : Nat} {f : Nat → Int32} {i : Int32} {r : List Value} (hf : List.lookup pc M.2.2.2.2.2 = some (.iaload, len, a, ps, [])) (hb : b < pN7) (hh : h b = eI n f) (hi : vp_in i n) (kk : Ev7 d M (h, pc + len, lv, .int (f i.toNatClampNeg) :: r) Q) : Ev7 d M (h, pc, lv, .int i :: .ref b :: r) Q := by
  refine Ev7.one hf rfl ?_ kk
  simp only [p_step, p_iald, if_pos hb, hh]
  rw [if_neg hi]
theorem Ev7.iast {b n : Nat} {f : Nat → Int32} {i x : Int32} {r : List Value} (hf : List.lookup pc M.2.2.2.2.2 = some (.iastore, len, a, ps, [])) (hb : b < pN7) (hh : h b = eI n f) (hi : vp_in i n) (kk : Ev7 d M (pu h b (eI n (upd f i.toNatClampNeg x)), pc + len, lv, r) Q) : Ev7 d M (h, pc, lv, .int x :: .int i :: .ref b :: r) Q := by
  refine Ev7.one hf rfl ?_ kk
  simp only [p_step, p_iast, if_pos hb, hh]
  rw [if_neg hi]
theorem Ev7.alen {b n : Nat} {r : List Value} (hf : List.lookup pc M.2.2.2.2.2 = some (.arraylength, len, a, ps, [])) (hb : b < pN7) (hh : p_len (h b) = some n) (kk : Ev7 d M (h, pc + len, lv, .int (Int32.ofNat n) :: r) Q) : Ev7 d M (h, pc, lv, .ref b :: r) Q := by
  refine Ev7.one hf rfl ?_ kk
  simp only [p_step, p_alen, if_pos hb, hh]
theorem Ev7.mmin {idx : Nat} {x y : Int32} {r : List Value} (hf : List.lookup pc M.2.2.2.2.2 = some (.invokestatic idx, len, a, ps, [])) (hc : a.2.2 = 4) (c6 : (r.map fun v => v.category).sum ≤ 8) (kk : Ev7 (d + 1) M (h, pc + 3, lv, .int (if y < x then y else x) :: r) Q) : Ev7 (d + 1) M (h, pc, lv, .int y :: .int x :: r) Q := by
  obtain ⟨k, r', h', e, q⟩ := kk
  refine ⟨k + 1, r', h', ?_, q⟩
  have e1 : p_nat pN7 a.2.2 (h, pc, lv, .int y :: .int x :: r) = some (h, pc + 3, lv, .int (if y < x then y else x) :: r) := by
    simp only [p_nat, hc, p_mm, if_neg (show ¬ 4 = 2 by decide), if_neg (show ¬ 4 = 3 by decide), if_true]
    rw [if_neg (by omega)]
    rfl
  have e2 : p_isCp (.invokestatic idx) a.2.2 = true := by simp [p_isCp, hc]
  simp only [p_run, hf, p_kd, p_live]
  rw [if_pos e2, e1]
  exact e
theorem Ev7.call {i : Instr} {M' : pM} {vs rest : List Value} (hf : List.lookup pc M.2.2.2.2.2 = some (i, len, a, ps, [])) (hk : p_kd i = 2) (hc : p_isCp i a.2.2 = false) (ha : p_args pN7 i a.2.1 a.2.2 (h, pc, lv, st) = some (vs, rest)) (hM : p_T[a.1]? = some M') (hl : (lg_sl vs).length ≤ M'.2.2.1)
    (kk : Ev7 d M' (h, 0, lv_args 0 vs, []) (fun r h1 => Ev7 (d + 1) M (h1, pc + 3, lv, r.toList ++ rest) Q)) : Ev7 (d + 1) M (h, pc, lv, st) Q := by
  obtain ⟨n1, r1, h1, e1, n2, r2, h2, e2, q⟩ := kk
  refine ⟨max n1 n2 + 1, r2, h2, ?_, q⟩
  have e3 := p_run_mono (Nat.le_max_left n1 n2) e1
  have e4 := p_run_mono (Nat.le_max_right n1 n2) e2
  simp only [p_run, hf, hk, p_live]
  rw [if_neg (by rw [hc]; decide), ha, hM]
  simp only [if_pos hl, e3]
  exact e4
end S7
theorem p_argsV7 {idx na ci r pc : Nat} {h : pH} {lv : pLv} {st rest fs : List Value} (hr : r < pN7) (hh : h r = eO ci fs) (hc : (rest.map fun v => v.category).sum ≤ 8) (hd : st.drop na = .ref r :: rest := by rfl) (hl : na ≤ st.length := by exact Nat.le_of_ble_eq_true rfl) : p_args pN7 (.invokevirtual idx) na ci (h, pc, lv, st) = some (.ref r :: (st.take na).reverse, rest) := by
  simp only [p_args, hd, if_pos (show r < pN7 ∧ na ≤ st.length ∧ (rest.map fun v => v.category).sum ≤ 8 from ⟨hr, hl, hc⟩), hh, if_true]
theorem Ev7.callE {d : Nat} {M : pM} {Q : Option Value → pH → Prop} {h : pH} {pc : Nat} {lv : pLv} {st : List Value} {len : Nat} {a : Nat × Nat × Nat} {ps : List Nat} {i : Instr} {M' : pM} {vs rest : List Value} {x : Option Value} (hf : List.lookup pc M.2.2.2.2.2 = some (i, len, a, ps, [])) (hk : p_kd i = 2) (hc : p_isCp i a.2.2 = false) (ha : p_args pN7 i a.2.1 a.2.2 (h, pc, lv, st) = some (vs, rest)) (hM : p_T[a.1]? = some M') (hl : (lg_sl vs).length ≤ M'.2.2.1)
    (he : Ev7 d M' (h, 0, lv_args 0 vs, []) (fun r h1 => r = x ∧ h1 = h)) (kk : Ev7 (d + 1) M (h, pc + 3, lv, x.toList ++ rest) Q) : Ev7 (d + 1) M (h, pc, lv, st) Q := by
  refine Ev7.call hf hk hc ha hM hl (he.mono (fun r h1 hq => ?_))
  obtain ⟨rfl, rfl⟩ := hq
  exact kk
theorem Ev7.live {d : Nat} {M : pM} {Q : Option Value → pH → Prop} {h : pH} {pc : Nat} {lv lv' : pLv} {st : List Value} {len : Nat} {a : Nat × Nat × Nat} {ps ks : List Nat} {i : Instr} (hf : List.lookup pc M.2.2.2.2.2 = some (i, len, a, ps, ks)) (hl : p_live ks lv = lv') (kk : Ev7 d M (h, pc, lv', st) Q) : Ev7 d M (h, pc, lv, st) Q := by
  subst hl
  obtain ⟨n, r, h', e, q⟩ := kk
  refine ⟨n, r, h', ?_, q⟩
  cases n with
  | zero => simp [p_run] at e
  | succ n =>
    have e2 : p_live ks (p_live ks lv) = p_live ks lv := by
      cases ks with
      | nil => rfl
      | cons x r =>
        show List.filter _ (List.filter _ lv) = List.filter _ lv
        rw [List.filter_filter]
        congr 1
        funext q
        exact Bool.and_self _
    simp only [p_run, hf] at e ⊢
    rw [e2] at e
    exact e
def isT7 (h : pH) (t : Nat) (X : tT) : Prop := h t = eO 6 [.ref (t + 1), .ref (t + 2), .ref (t + 3), .int X.2.2.2.1, .int X.2.2.2.2.1, .int X.2.2.2.2.2] ∧ h (t + 1) = eI 24 X.1 ∧ h (t + 2) = eI 24 X.2.1 ∧ h (t + 3) = eI 24 X.2.2.1 ∧ t + 3 < pN7
theorem isT7.fr {L : List (Nat × Nat)} {h h1 : pH} {t : Nat} {X : tT} (f : fr L h h1) (hd : ∀ q ∈ L, t + 4 ≤ q.1 ∨ q.2 ≤ t) (hx : isT7 h t X) : isT7 h1 t X := ⟨(f _ (fun q hq => by have := hd q hq; omega)).trans hx.1, (f _ (fun q hq => by have := hd q hq; omega)).trans hx.2.1, (f _ (fun q hq => by have := hd q hq; omega)).trans hx.2.2.1, (f _ (fun q hq => by have := hd q hq; omega)).trans hx.2.2.2.1, hx.2.2.2.2⟩
def isS7 (h : pH) (t : Nat) (X : tS) : Prop := h t = eO 4 [.ref (t + 1), .ref (t + 2), .ref (t + 3), .int X.2.2.2.1, .int X.2.2.2.2] ∧ h (t + 1) = eI 8 X.1 ∧ h (t + 2) = eI 8 X.2.1 ∧ h (t + 3) = eI 8 X.2.2.1 ∧ t + 3 < pN7
theorem isS7.fr {L : List (Nat × Nat)} {h h1 : pH} {t : Nat} {X : tS} (f : fr L h h1) (hd : ∀ q ∈ L, t + 4 ≤ q.1 ∨ q.2 ≤ t) (hx : isS7 h t X) : isS7 h1 t X := ⟨(f _ (fun q hq => by have := hd q hq; omega)).trans hx.1, (f _ (fun q hq => by have := hd q hq; omega)).trans hx.2.1, (f _ (fun q hq => by have := hd q hq; omega)).trans hx.2.2.1, (f _ (fun q hq => by have := hd q hq; omega)).trans hx.2.2.2.1, hx.2.2.2.2⟩
theorem spX7_isNumber7 {d : Nat} {h : pH}  (v : Int32) : Ev7 d mX7_isNumber (h, 0, [(0, .int v)], []) (fun r h1 => r = some (.int (fX7_isNumber v)) ∧ h1 = h) := by
  refine Ev7.go 1 (s' := (h, 1, [(0, .int v)], [.int v])) rfl ?_
  refine Ev7.if1 rfl (fun c1 => ?_) (fun c1 => ?_)
  · have c1 : v < 0 := c1
    refine Ev7.go 1 (s' := (h, 15, [(0, .int v)], [.int 0])) rfl ?_
    exact Ev7.ret rfl rfl (p_retZ rfl) ⟨congrArg (fun z => some (Value.int z)) (by rw [fX7_isNumber, if_pos c1]), rfl⟩
  · have c1 : ¬ (v < 0) := c1
    refine Ev7.go 2 (s' := (h, 7, [(0, .int v)], [.int 24, .int v])) rfl ?_
    refine Ev7.if2 rfl (fun c2 => ?_) (fun c2 => ?_)
    · have c2 : 24 ≤ v := c2
      refine Ev7.go 1 (s' := (h, 15, [(0, .int v)], [.int 0])) rfl ?_
      exact Ev7.ret rfl rfl (p_retZ rfl) ⟨congrArg (fun z => some (Value.int z)) (by rw [fX7_isNumber, if_neg c1, if_pos c2]), rfl⟩
    · have c2 : ¬ (24 ≤ v) := c2
      refine Ev7.go 2 (s' := (h, 15, [(0, .int v)], [.int 1])) rfl ?_
      exact Ev7.ret rfl rfl (p_retZ rfl) ⟨congrArg (fun z => some (Value.int z)) (by rw [fX7_isNumber, if_neg c1, if_neg c2]), rfl⟩
theorem spX7_isThere7 {d : Nat} {h : pH} {t : Nat} {T : tT} (xT : isT7 h t T) (v : Int32) : Ev7 (d + 1) mX7_isThere (h, 0, [(0, .ref t), (1, .int v)], []) (fun r h1 => r = some (.int (fX7_isThere T v)) ∧ h1 = h) := by
  refine Ev7.go 1 (s' := (h, 1, [(0, .ref t), (1, .int v)], [.int v])) rfl ?_
  refine Ev7.callE rfl rfl rfl rfl rfl (Nat.le_of_ble_eq_true rfl) (spX7_isNumber7  v) ?_
  refine Ev7.if1 rfl (fun c1 => ?_) (fun c1 => ?_)
  · have c1 : (fX7_isNumber v) = 0 := c1
    refine Ev7.go 1 (s' := (h, 24, [(0, .ref t), (1, .int v)], [.int 0])) rfl ?_
    exact Ev7.ret rfl rfl (p_retZ rfl) ⟨congrArg (fun z => some (Value.int z)) (by rw [fX7_isThere, if_pos c1]), rfl⟩
  · have c1 : ¬ ((fX7_isNumber v) = 0) := c1
    refine Ev7.go 1 (s' := (h, 8, [(0, .ref t), (1, .int v)], [.ref t])) rfl ?_
    refine Ev7.get rfl (by have := xT.2.2.2.2; omega) xT.1 rfl ?_
    refine Ev7.go 5 (s' := (h, 16, [(0, .ref t), (1, .int v)], [.int 1, .int ((T.2.2.2.1 >>> (v &&& 31)) &&& 1)])) rfl ?_
    refine Ev7.if2 rfl (fun c2 => ?_) (fun c2 => ?_)
    · have c2 : ¬ ((T.2.2.2.1 >>> (v &&& 31)) &&& 1) = 1 := c2
      refine Ev7.go 1 (s' := (h, 24, [(0, .ref t), (1, .int v)], [.int 0])) rfl ?_
      exact Ev7.ret rfl rfl (p_retZ rfl) ⟨congrArg (fun z => some (Value.int z)) (by rw [fX7_isThere, if_neg c1, if_pos c2]), rfl⟩
    · have c2 : ¬ (¬ ((T.2.2.2.1 >>> (v &&& 31)) &&& 1) = 1) := c2
      refine Ev7.go 2 (s' := (h, 24, [(0, .ref t), (1, .int v)], [.int 1])) rfl ?_
      exact Ev7.ret rfl rfl (p_retZ rfl) ⟨congrArg (fun z => some (Value.int z)) (by rw [fX7_isThere, if_neg c1, if_neg c2]), rfl⟩
theorem spX7_isFull7 {d : Nat} {h : pH} {t : Nat} {T : tT} (xT : isT7 h t T) : Ev7 d mX7_isFull (h, 0, [(0, .ref t)], []) (fun r h1 => r = some (.int (fX7_isFull T)) ∧ h1 = h) := by
  refine Ev7.go 1 (s' := (h, 1, [(0, .ref t)], [.ref t])) rfl ?_
  refine Ev7.get rfl (by have := xT.2.2.2.2; omega) xT.1 rfl ?_
  refine Ev7.go 1 (s' := (h, 6, [(0, .ref t)], [.int 24, .int T.2.2.2.2.1])) rfl ?_
  refine Ev7.if2 rfl (fun c1 => ?_) (fun c1 => ?_)
  · have c1 : T.2.2.2.2.1 < 24 := c1
    refine Ev7.go 1 (s' := (h, 14, [(0, .ref t)], [.int 0])) rfl ?_
    exact Ev7.ret rfl rfl (p_retZ rfl) ⟨congrArg (fun z => some (Value.int z)) (by rw [fX7_isFull, if_pos c1]), rfl⟩
  · have c1 : ¬ (T.2.2.2.2.1 < 24) := c1
    refine Ev7.go 2 (s' := (h, 14, [(0, .ref t)], [.int 1])) rfl ?_
    exact Ev7.ret rfl rfl (p_retZ rfl) ⟨congrArg (fun z => some (Value.int z)) (by rw [fX7_isFull, if_neg c1]), rfl⟩
theorem spX7_came7 {d : Nat} {h : pH} {t : Nat} {T : tT} (xT : isT7 h t T) : Ev7 d mX7_came (h, 0, [(0, .ref t)], []) (fun r h1 => r = some (.int (fX7_came T)) ∧ h1 = h) := by
  refine Ev7.go 1 (s' := (h, 1, [(0, .ref t)], [.ref t])) rfl ?_
  refine Ev7.get rfl (by have := xT.2.2.2.2; omega) xT.1 rfl ?_
  exact Ev7.ret rfl rfl (p_retZ rfl) ⟨congrArg (fun z => some (Value.int z)) (by rw [fX7_came]), rfl⟩
theorem spX7_spotOf7 {d : Nat} {h : pH} {t : Nat} {T : tT} (xT : isT7 h t T) (v : Int32) : Ev7 (d + 1) mX7_spotOf (h, 0, [(0, .ref t), (1, .int v)], []) (fun r h1 => r = some (.int (fX7_spotOf T v)) ∧ h1 = h) := by
  refine Ev7.go 1 (s' := (h, 1, [(0, .ref t), (1, .int v)], [.int v])) rfl ?_
  refine Ev7.callE rfl rfl rfl rfl rfl (Nat.le_of_ble_eq_true rfl) (spX7_isNumber7  v) ?_
  refine Ev7.if1 rfl (fun c1 => ?_) (fun c1 => ?_)
  · have c1 : (fX7_isNumber v) = 0 := c1
    refine Ev7.go 1 (s' := (h, 17, [(0, .ref t), (1, .int v)], [.int 0])) rfl ?_
    exact Ev7.ret rfl rfl (p_retZ rfl) ⟨congrArg (fun z => some (Value.int z)) (by rw [fX7_spotOf, if_pos c1]), rfl⟩
  · have c1 : ¬ ((fX7_isNumber v) = 0) := c1
    refine Ev7.go 1 (s' := (h, 8, [(0, .ref t), (1, .int v)], [.ref t])) rfl ?_
    refine Ev7.get rfl (by have := xT.2.2.2.2; omega) xT.1 rfl ?_
    refine Ev7.go 1 (s' := (h, 12, [(0, .ref t), (1, .int v)], [.int v, .ref (t + 3)])) rfl ?_
    refine Ev7.iald rfl (by have := xT.2.2.2.2; omega) xT.2.2.2.1 (vnX7 c1) ?_
    refine Ev7.go 1 (s' := (h, 17, [(0, .ref t), (1, .int v)], [.int (T.2.2.1 v.toNatClampNeg)])) rfl ?_
    exact Ev7.ret rfl rfl (p_retZ rfl) ⟨congrArg (fun z => some (Value.int z)) (by rw [fX7_spotOf, if_neg c1]), rfl⟩
theorem llX7_kidsOf_47 {d n : Nat} {t : Nat} {T : tT} : ∀ (m : Nat) (h : pH) (x1 : Int32) (x2 : Int32) (x3 : Int32) (res : Int32), lX7_kidsOf_4 n T m x1 x2 x3 = some res → isT7 h t T → Ev7 (d + 2) mX7_kidsOf (h, 4, [(0, .ref t), (1, .int x1), (2, .int x2), (3, .int x3)], []) (fun r h1 => r = some (.int res) ∧ h1 = h)
  | 0, h, x1, x2, x3, res, H, _ => by cases H
  | m + 1, h, x1, x2, x3, res, H, xT => by
    have H : (if 24 ≤ x3 then some x2 else (if (fX7_isThere T x3) = 0 then lX7_kidsOf_4 n T m x1 x2 (x3 + 1) else (if x3 < 0 ∨ 24 ≤ x3.toNatClampNeg then none else (if ¬ (T.2.1 x3.toNatClampNeg) = x1 then lX7_kidsOf_4 n T m x1 x2 (x3 + 1) else lX7_kidsOf_4 n T m x1 (x2 + 1) (x3 + 1))))) = some res := H
    refine Ev7.go 2 (s' := (h, 7, [(0, .ref t), (1, .int x1), (2, .int x2), (3, .int x3)], [.int 24, .int x3])) rfl ?_
    refine Ev7.if2 rfl (fun c1 => ?_) (fun c1 => ?_)
    · have c1 : 24 ≤ x3 := c1
      rw [if_pos c1] at H
      refine Ev7.go 1 (s' := (h, 38, [(0, .ref t), (1, .int x1), (2, .int x2), (3, .int x3)], [.int x2])) rfl ?_
      have H := Option.some.inj H
      subst H
      exact Ev7.ret rfl rfl (p_retZ rfl) ⟨rfl, rfl⟩
    · have c1 : ¬ (24 ≤ x3) := c1
      rw [if_neg c1] at H
      refine Ev7.go 2 (s' := (h, 12, [(0, .ref t), (1, .int x1), (2, .int x2), (3, .int x3)], [.int x3, .ref t])) rfl ?_
      refine Ev7.callE rfl rfl rfl (p_argsV7 (by have := xT.2.2.2.2; omega) xT.1 (Nat.le_of_ble_eq_true rfl)) rfl (Nat.le_of_ble_eq_true rfl) (spX7_isThere7 xT x3) ?_
      refine Ev7.if1 rfl (fun c2 => ?_) (fun c2 => ?_)
      · have c2 : (fX7_isThere T x3) = 0 := c2
        rw [if_pos c2] at H
        refine Ev7.go 2 (s' := (h, 4, [(0, .ref t), (1, .int x1), (2, .int x2), (3, .int (x3 + 1))], [])) rfl ?_
        refine Ev7.live rfl (lv' := [(0, .ref t), (1, .int x1), (2, .int x2), (3, .int (x3 + 1))]) rfl ?_
        exact llX7_kidsOf_47 m h x1 x2 (x3 + 1) _ H xT
      · have c2 : ¬ ((fX7_isThere T x3) = 0) := c2
        rw [if_neg c2] at H
        refine Ev7.go 1 (s' := (h, 19, [(0, .ref t), (1, .int x1), (2, .int x2), (3, .int x3)], [.ref t])) rfl ?_
        refine Ev7.get rfl (by have := xT.2.2.2.2; omega) xT.1 rfl ?_
        refine Ev7.go 1 (s' := (h, 23, [(0, .ref t), (1, .int x1), (2, .int x2), (3, .int x3)], [.int x3, .ref (t + 2)])) rfl ?_
        have v3 : vp_in x3 24 := fun q => by rw [if_pos q] at H; cases H
        rw [if_neg v3] at H
        refine Ev7.iald rfl (by have := xT.2.2.2.2; omega) xT.2.2.1 v3 ?_
        refine Ev7.go 1 (s' := (h, 25, [(0, .ref t), (1, .int x1), (2, .int x2), (3, .int x3)], [.int x1, .int (T.2.1 x3.toNatClampNeg)])) rfl ?_
        refine Ev7.if2 rfl (fun c4 => ?_) (fun c4 => ?_)
        · have c4 : ¬ (T.2.1 x3.toNatClampNeg) = x1 := c4
          rw [if_pos c4] at H
          refine Ev7.go 2 (s' := (h, 4, [(0, .ref t), (1, .int x1), (2, .int x2), (3, .int (x3 + 1))], [])) rfl ?_
          refine Ev7.live rfl (lv' := [(0, .ref t), (1, .int x1), (2, .int x2), (3, .int (x3 + 1))]) rfl ?_
          exact llX7_kidsOf_47 m h x1 x2 (x3 + 1) _ H xT
        · have c4 : ¬ (¬ (T.2.1 x3.toNatClampNeg) = x1) := c4
          rw [if_neg c4] at H
          refine Ev7.go 3 (s' := (h, 4, [(0, .ref t), (1, .int x1), (2, .int (x2 + 1)), (3, .int (x3 + 1))], [])) rfl ?_
          refine Ev7.live rfl (lv' := [(0, .ref t), (1, .int x1), (2, .int (x2 + 1)), (3, .int (x3 + 1))]) rfl ?_
          exact llX7_kidsOf_47 m h x1 (x2 + 1) (x3 + 1) _ H xT
theorem spX7_kidsOf7 {d n : Nat} {h : pH} {t : Nat} {T : tT} (xT : isT7 h t T) (p : Int32) {res : Int32} (H : fX7_kidsOf n T p = some res) : Ev7 (d + 2) mX7_kidsOf (h, 0, [(0, .ref t), (1, .int p)], []) (fun r h1 => r = some (.int res) ∧ h1 = h) := by
  unfold fX7_kidsOf at H
  refine Ev7.go 4 (s' := (h, 4, [(0, .ref t), (1, .int p), (2, .int 0), (3, .int 1)], [])) rfl ?_
  refine Ev7.live rfl (lv' := [(0, .ref t), (1, .int p), (2, .int 0), (3, .int 1)]) rfl ?_
  exact llX7_kidsOf_47 n h p 0 1 _ H xT
theorem llX7_nextKid_97 {d n : Nat} {t : Nat} {T : tT} : ∀ (m : Nat) (h : pH) (x1 : Int32) (x2 : Int32) (x3 : Int32) (x4 : Int32) (x5 : Int32) (res : Int32), lX7_nextKid_9 n T m x1 x2 x3 x4 x5 = some res → isT7 h t T → Ev7 d mX7_nextKid (h, 9, [(0, .ref t), (1, .int x1), (2, .int x2), (3, .int x3), (4, .int x4), (5, .int x5)], []) (fun r h1 => r = some (.int res) ∧ h1 = h)
  | 0, h, x1, x2, x3, x4, x5, res, H, _ => by cases H
  | m + 1, h, x1, x2, x3, x4, x5, res, H, xT => by
    have H : (if 24 ≤ x5 then some x3 else (if ¬ ((T.2.2.2.1 >>> (x5 &&& 31)) &&& 1) = 1 then lX7_nextKid_9 n T m x1 x2 x3 x4 (x5 + 1) else (if x5 < 0 ∨ 24 ≤ x5.toNatClampNeg then none else (if ¬ (T.2.1 x5.toNatClampNeg) = x1 then lX7_nextKid_9 n T m x1 x2 x3 x4 (x5 + 1) else (if (T.2.2.1 x5.toNatClampNeg) ≤ x2 then lX7_nextKid_9 n T m x1 x2 x3 x4 (x5 + 1) else (if x4 ≤ (T.2.2.1 x5.toNatClampNeg) then lX7_nextKid_9 n T m x1 x2 x3 x4 (x5 + 1) else lX7_nextKid_9 n T m x1 x2 x5 (T.2.2.1 x5.toNatClampNeg) (x5 + 1))))))) = some res := H
    refine Ev7.go 2 (s' := (h, 13, [(0, .ref t), (1, .int x1), (2, .int x2), (3, .int x3), (4, .int x4), (5, .int x5)], [.int 24, .int x5])) rfl ?_
    refine Ev7.if2 rfl (fun c1 => ?_) (fun c1 => ?_)
    · have c1 : 24 ≤ x5 := c1
      rw [if_pos c1] at H
      refine Ev7.go 1 (s' := (h, 82, [(0, .ref t), (1, .int x1), (2, .int x2), (3, .int x3), (4, .int x4), (5, .int x5)], [.int x3])) rfl ?_
      have H := Option.some.inj H
      subst H
      exact Ev7.ret rfl rfl (p_retZ rfl) ⟨rfl, rfl⟩
    · have c1 : ¬ (24 ≤ x5) := c1
      rw [if_neg c1] at H
      refine Ev7.go 1 (s' := (h, 17, [(0, .ref t), (1, .int x1), (2, .int x2), (3, .int x3), (4, .int x4), (5, .int x5)], [.ref t])) rfl ?_
      refine Ev7.get rfl (by have := xT.2.2.2.2; omega) xT.1 rfl ?_
      refine Ev7.go 5 (s' := (h, 26, [(0, .ref t), (1, .int x1), (2, .int x2), (3, .int x3), (4, .int x4), (5, .int x5)], [.int 1, .int ((T.2.2.2.1 >>> (x5 &&& 31)) &&& 1)])) rfl ?_
      refine Ev7.if2 rfl (fun c2 => ?_) (fun c2 => ?_)
      · have c2 : ¬ ((T.2.2.2.1 >>> (x5 &&& 31)) &&& 1) = 1 := c2
        rw [if_pos c2] at H
        refine Ev7.go 2 (s' := (h, 9, [(0, .ref t), (1, .int x1), (2, .int x2), (3, .int x3), (4, .int x4), (5, .int (x5 + 1))], [])) rfl ?_
        refine Ev7.live rfl (lv' := [(0, .ref t), (1, .int x1), (2, .int x2), (3, .int x3), (4, .int x4), (5, .int (x5 + 1))]) rfl ?_
        exact llX7_nextKid_97 m h x1 x2 x3 x4 (x5 + 1) _ H xT
      · have c2 : ¬ (¬ ((T.2.2.2.1 >>> (x5 &&& 31)) &&& 1) = 1) := c2
        rw [if_neg c2] at H
        refine Ev7.go 1 (s' := (h, 30, [(0, .ref t), (1, .int x1), (2, .int x2), (3, .int x3), (4, .int x4), (5, .int x5)], [.ref t])) rfl ?_
        refine Ev7.get rfl (by have := xT.2.2.2.2; omega) xT.1 rfl ?_
        refine Ev7.go 1 (s' := (h, 35, [(0, .ref t), (1, .int x1), (2, .int x2), (3, .int x3), (4, .int x4), (5, .int x5)], [.int x5, .ref (t + 2)])) rfl ?_
        have v3 : vp_in x5 24 := fun q => by rw [if_pos q] at H; cases H
        rw [if_neg v3] at H
        refine Ev7.iald rfl (by have := xT.2.2.2.2; omega) xT.2.2.1 v3 ?_
        refine Ev7.go 1 (s' := (h, 37, [(0, .ref t), (1, .int x1), (2, .int x2), (3, .int x3), (4, .int x4), (5, .int x5)], [.int x1, .int (T.2.1 x5.toNatClampNeg)])) rfl ?_
        refine Ev7.if2 rfl (fun c4 => ?_) (fun c4 => ?_)
        · have c4 : ¬ (T.2.1 x5.toNatClampNeg) = x1 := c4
          rw [if_pos c4] at H
          refine Ev7.go 2 (s' := (h, 9, [(0, .ref t), (1, .int x1), (2, .int x2), (3, .int x3), (4, .int x4), (5, .int (x5 + 1))], [])) rfl ?_
          refine Ev7.live rfl (lv' := [(0, .ref t), (1, .int x1), (2, .int x2), (3, .int x3), (4, .int x4), (5, .int (x5 + 1))]) rfl ?_
          exact llX7_nextKid_97 m h x1 x2 x3 x4 (x5 + 1) _ H xT
        · have c4 : ¬ (¬ (T.2.1 x5.toNatClampNeg) = x1) := c4
          rw [if_neg c4] at H
          refine Ev7.go 1 (s' := (h, 41, [(0, .ref t), (1, .int x1), (2, .int x2), (3, .int x3), (4, .int x4), (5, .int x5)], [.ref t])) rfl ?_
          refine Ev7.get rfl (by have := xT.2.2.2.2; omega) xT.1 rfl ?_
          refine Ev7.go 1 (s' := (h, 46, [(0, .ref t), (1, .int x1), (2, .int x2), (3, .int x3), (4, .int x4), (5, .int x5)], [.int x5, .ref (t + 3)])) rfl ?_
          refine Ev7.iald rfl (by have := xT.2.2.2.2; omega) xT.2.2.2.1 v3 ?_
          refine Ev7.go 1 (s' := (h, 48, [(0, .ref t), (1, .int x1), (2, .int x2), (3, .int x3), (4, .int x4), (5, .int x5)], [.int x2, .int (T.2.2.1 x5.toNatClampNeg)])) rfl ?_
          refine Ev7.if2 rfl (fun c5 => ?_) (fun c5 => ?_)
          · have c5 : (T.2.2.1 x5.toNatClampNeg) ≤ x2 := c5
            rw [if_pos c5] at H
            refine Ev7.go 2 (s' := (h, 9, [(0, .ref t), (1, .int x1), (2, .int x2), (3, .int x3), (4, .int x4), (5, .int (x5 + 1))], [])) rfl ?_
            refine Ev7.live rfl (lv' := [(0, .ref t), (1, .int x1), (2, .int x2), (3, .int x3), (4, .int x4), (5, .int (x5 + 1))]) rfl ?_
            exact llX7_nextKid_97 m h x1 x2 x3 x4 (x5 + 1) _ H xT
          · have c5 : ¬ ((T.2.2.1 x5.toNatClampNeg) ≤ x2) := c5
            rw [if_neg c5] at H
            refine Ev7.go 1 (s' := (h, 52, [(0, .ref t), (1, .int x1), (2, .int x2), (3, .int x3), (4, .int x4), (5, .int x5)], [.ref t])) rfl ?_
            refine Ev7.get rfl (by have := xT.2.2.2.2; omega) xT.1 rfl ?_
            refine Ev7.go 1 (s' := (h, 57, [(0, .ref t), (1, .int x1), (2, .int x2), (3, .int x3), (4, .int x4), (5, .int x5)], [.int x5, .ref (t + 3)])) rfl ?_
            refine Ev7.iald rfl (by have := xT.2.2.2.2; omega) xT.2.2.2.1 v3 ?_
            refine Ev7.go 1 (s' := (h, 60, [(0, .ref t), (1, .int x1), (2, .int x2), (3, .int x3), (4, .int x4), (5, .int x5)], [.int x4, .int (T.2.2.1 x5.toNatClampNeg)])) rfl ?_
            refine Ev7.if2 rfl (fun c6 => ?_) (fun c6 => ?_)
            · have c6 : x4 ≤ (T.2.2.1 x5.toNatClampNeg) := c6
              rw [if_pos c6] at H
              refine Ev7.go 2 (s' := (h, 9, [(0, .ref t), (1, .int x1), (2, .int x2), (3, .int x3), (4, .int x4), (5, .int (x5 + 1))], [])) rfl ?_
              refine Ev7.live rfl (lv' := [(0, .ref t), (1, .int x1), (2, .int x2), (3, .int x3), (4, .int x4), (5, .int (x5 + 1))]) rfl ?_
              exact llX7_nextKid_97 m h x1 x2 x3 x4 (x5 + 1) _ H xT
            · have c6 : ¬ (x4 ≤ (T.2.2.1 x5.toNatClampNeg)) := c6
              rw [if_neg c6] at H
              refine Ev7.go 3 (s' := (h, 67, [(0, .ref t), (1, .int x1), (2, .int x2), (3, .int x5), (4, .int x4), (5, .int x5)], [.ref t])) rfl ?_
              refine Ev7.get rfl (by have := xT.2.2.2.2; omega) xT.1 rfl ?_
              refine Ev7.go 1 (s' := (h, 72, [(0, .ref t), (1, .int x1), (2, .int x2), (3, .int x5), (4, .int x4), (5, .int x5)], [.int x5, .ref (t + 3)])) rfl ?_
              refine Ev7.iald rfl (by have := xT.2.2.2.2; omega) xT.2.2.2.1 v3 ?_
              refine Ev7.go 3 (s' := (h, 9, [(0, .ref t), (1, .int x1), (2, .int x2), (3, .int x5), (4, .int (T.2.2.1 x5.toNatClampNeg)), (5, .int (x5 + 1))], [])) rfl ?_
              refine Ev7.live rfl (lv' := [(0, .ref t), (1, .int x1), (2, .int x2), (3, .int x5), (4, .int (T.2.2.1 x5.toNatClampNeg)), (5, .int (x5 + 1))]) rfl ?_
              exact llX7_nextKid_97 m h x1 x2 x5 (T.2.2.1 x5.toNatClampNeg) (x5 + 1) _ H xT
theorem spX7_nextKid7 {d n : Nat} {h : pH} {t : Nat} {T : tT} (xT : isT7 h t T) (p : Int32) (spot : Int32) {res : Int32} (H : fX7_nextKid n T p spot = some res) : Ev7 d mX7_nextKid (h, 0, [(0, .ref t), (1, .int p), (2, .int spot)], []) (fun r h1 => r = some (.int res) ∧ h1 = h) := by
  unfold fX7_nextKid at H
  refine Ev7.go 6 (s' := (h, 9, [(0, .ref t), (1, .int p), (2, .int spot), (3, .int ((-1))), (4, .int 1000000000), (5, .int 1)], [])) rfl ?_
  refine Ev7.live rfl (lv' := [(0, .ref t), (1, .int p), (2, .int spot), (3, .int ((-1))), (4, .int 1000000000), (5, .int 1)]) rfl ?_
  exact llX7_nextKid_97 n h p spot (-1) 1000000000 1 _ H xT
theorem llX7_childAt_107 {d n : Nat} {t : Nat} {T : tT} : ∀ (m : Nat) (h : pH) (x1 : Int32) (x2 : Int32) (x3 : Int32) (x4 : Int32) (res : Int32), lX7_childAt_10 n T m x1 x2 x3 x4 = some res → isT7 h t T → Ev7 (d + 1) mX7_childAt (h, 10, [(0, .ref t), (1, .int x1), (2, .int x2), (3, .int x3), (4, .int x4)], []) (fun r h1 => r = some (.int res) ∧ h1 = h)
  | 0, h, x1, x2, x3, x4, res, H, _ => by cases H
  | m + 1, h, x1, x2, x3, x4, res, H, xT => by
    have H : (if x2 ≤ x4 then some x3 else (if (fX7_isNumber x3) = 0 then some x3 else (if x3 < 0 ∨ 24 ≤ x3.toNatClampNeg then none else ((fX7_nextKid n T x1 (T.2.2.1 x3.toNatClampNeg)).bind fun y7 => lX7_childAt_10 n T m x1 x2 y7 (x4 + 1))))) = some res := H
    refine Ev7.go 2 (s' := (h, 13, [(0, .ref t), (1, .int x1), (2, .int x2), (3, .int x3), (4, .int x4)], [.int x2, .int x4])) rfl ?_
    refine Ev7.if2 rfl (fun c3 => ?_) (fun c3 => ?_)
    · have c3 : x2 ≤ x4 := c3
      rw [if_pos c3] at H
      refine Ev7.go 1 (s' := (h, 42, [(0, .ref t), (1, .int x1), (2, .int x2), (3, .int x3), (4, .int x4)], [.int x3])) rfl ?_
      have H := Option.some.inj H
      subst H
      exact Ev7.ret rfl rfl (p_retZ rfl) ⟨rfl, rfl⟩
    · have c3 : ¬ (x2 ≤ x4) := c3
      rw [if_neg c3] at H
      refine Ev7.go 1 (s' := (h, 17, [(0, .ref t), (1, .int x1), (2, .int x2), (3, .int x3), (4, .int x4)], [.int x3])) rfl ?_
      refine Ev7.callE rfl rfl rfl rfl rfl (Nat.le_of_ble_eq_true rfl) (spX7_isNumber7  x3) ?_
      refine Ev7.if1 rfl (fun c4 => ?_) (fun c4 => ?_)
      · have c4 : (fX7_isNumber x3) = 0 := c4
        rw [if_pos c4] at H
        refine Ev7.go 1 (s' := (h, 42, [(0, .ref t), (1, .int x1), (2, .int x2), (3, .int x3), (4, .int x4)], [.int x3])) rfl ?_
        have H := Option.some.inj H
        subst H
        exact Ev7.ret rfl rfl (p_retZ rfl) ⟨rfl, rfl⟩
      · have c4 : ¬ ((fX7_isNumber x3) = 0) := c4
        rw [if_neg c4] at H
        refine Ev7.go 3 (s' := (h, 26, [(0, .ref t), (1, .int x1), (2, .int x2), (3, .int x3), (4, .int x4)], [.ref t, .int x1, .ref t])) rfl ?_
        refine Ev7.get rfl (by have := xT.2.2.2.2; omega) xT.1 rfl ?_
        refine Ev7.go 1 (s' := (h, 30, [(0, .ref t), (1, .int x1), (2, .int x2), (3, .int x3), (4, .int x4)], [.int x3, .ref (t + 3), .int x1, .ref t])) rfl ?_
        have v5 : vp_in x3 24 := fun q => by rw [if_pos q] at H; cases H
        rw [if_neg v5] at H
        refine Ev7.iald rfl (by have := xT.2.2.2.2; omega) xT.2.2.2.1 v5 ?_
        obtain ⟨y7, e6, H⟩ := Option.bind_eq_some_iff.mp H
        refine Ev7.callE rfl rfl rfl (p_argsV7 (by have := xT.2.2.2.2; omega) xT.1 (Nat.le_of_ble_eq_true rfl)) rfl (Nat.le_of_ble_eq_true rfl) (spX7_nextKid7 xT x1 (T.2.2.1 x3.toNatClampNeg) e6) ?_
        refine Ev7.go 3 (s' := (h, 10, [(0, .ref t), (1, .int x1), (2, .int x2), (3, .int y7), (4, .int (x4 + 1))], [])) rfl ?_
        refine Ev7.live rfl (lv' := [(0, .ref t), (1, .int x1), (2, .int x2), (3, .int y7), (4, .int (x4 + 1))]) rfl ?_
        exact llX7_childAt_107 m h x1 x2 y7 (x4 + 1) _ H xT
theorem spX7_childAt7 {d n : Nat} {h : pH} {t : Nat} {T : tT} (xT : isT7 h t T) (p : Int32) (place : Int32) {res : Int32} (H : fX7_childAt n T p place = some res) : Ev7 (d + 1) mX7_childAt (h, 0, [(0, .ref t), (1, .int p), (2, .int place)], []) (fun r h1 => r = some (.int res) ∧ h1 = h) := by
  unfold fX7_childAt at H
  refine Ev7.go 3 (s' := (h, 3, [(0, .ref t), (1, .int p), (2, .int place)], [.int 0, .int p, .ref t])) rfl ?_
  obtain ⟨y2, e1, H⟩ := Option.bind_eq_some_iff.mp H
  refine Ev7.callE rfl rfl rfl (p_argsV7 (by have := xT.2.2.2.2; omega) xT.1 (Nat.le_of_ble_eq_true rfl)) rfl (Nat.le_of_ble_eq_true rfl) (spX7_nextKid7 xT p 0 e1) ?_
  refine Ev7.go 3 (s' := (h, 10, [(0, .ref t), (1, .int p), (2, .int place), (3, .int y2), (4, .int 0)], [])) rfl ?_
  refine Ev7.live rfl (lv' := [(0, .ref t), (1, .int p), (2, .int place), (3, .int y2), (4, .int 0)]) rfl ?_
  exact llX7_childAt_107 n h p place y2 0 _ H xT
theorem spX7_clear7 {d : Nat} {h : pH} {t : Nat} {T : tT} (xT : isT7 h t T) {res : tT} (H : fX7_clear T = some res) : Ev7 d mX7_clear (h, 0, [(0, .ref t)], []) (fun r h1 => r = none ∧ isT7 h1 t res ∧ fr [(t, t + 4)] h h1) := by
  unfold fX7_clear at H
  refine Ev7.go 2 (s' := (h, 2, [(0, .ref t)], [.int 0, .ref t])) rfl ?_
  refine Ev7.put rfl rfl (by have := xT.2.2.2.2; omega) xT.1 (Nat.le_of_ble_eq_true rfl) rfl rfl (fs' := [.ref (t + 1), .ref (t + 2), .ref (t + 3), .int 0, .int T.2.2.2.2.1, .int T.2.2.2.2.2]) rfl ?_
  refine Ev7.go 2 (s' := ((pu h t (eO 6 [.ref (t + 1), .ref (t + 2), .ref (t + 3), .int 0, .int T.2.2.2.2.1, .int T.2.2.2.2.2])), 7, [(0, .ref t)], [.int 0, .ref t])) rfl ?_
  refine Ev7.put rfl rfl (by have := xT.2.2.2.2; omega) pu_s (Nat.le_of_ble_eq_true rfl) rfl rfl (fs' := [.ref (t + 1), .ref (t + 2), .ref (t + 3), .int 0, .int 0, .int T.2.2.2.2.2]) rfl ?_
  refine Ev7.go 2 (s' := ((pu (pu h t (eO 6 [.ref (t + 1), .ref (t + 2), .ref (t + 3), .int 0, .int T.2.2.2.2.1, .int T.2.2.2.2.2])) t (eO 6 [.ref (t + 1), .ref (t + 2), .ref (t + 3), .int 0, .int 0, .int T.2.2.2.2.2])), 12, [(0, .ref t)], [.int 0, .ref t])) rfl ?_
  refine Ev7.put rfl rfl (by have := xT.2.2.2.2; omega) pu_s (Nat.le_of_ble_eq_true rfl) rfl rfl (fs' := [.ref (t + 1), .ref (t + 2), .ref (t + 3), .int 0, .int 0, .int 0]) rfl ?_
  have H := Option.some.inj H
  subst H
  exact Ev7.ret rfl rfl rfl ⟨rfl, ⟨pu_s, (pu_n (by omega) (pu_n (by omega) (pu_n (by omega) xT.2.1))), (pu_n (by omega) (pu_n (by omega) (pu_n (by omega) xT.2.2.1))), (pu_n (by omega) (pu_n (by omega) (pu_n (by omega) xT.2.2.2.1))), (by have := xT.2.2.2.2; omega)⟩, (fun k hk => by rw [pu_x (show k ≠ t from fun e => by have := hk; simp at this; omega)]; rw [pu_x (show k ≠ t from fun e => by have := hk; simp at this; omega)]; rw [pu_x (show k ≠ t from fun e => by have := hk; simp at this; omega)])⟩
theorem spX7_setKind7 {d : Nat} {h : pH} {t : Nat} {T : tT} (xT : isT7 h t T) (number : Int32) {res : tT} (H : fX7_setKind T number = some res) : Ev7 d mX7_setKind (h, 0, [(0, .ref t), (1, .int number)], []) (fun r h1 => r = none ∧ isT7 h1 t res ∧ fr [(t, t + 4)] h h1) := by
  unfold fX7_setKind at H
  refine Ev7.go 2 (s' := (h, 2, [(0, .ref t), (1, .int number)], [.int number, .ref t])) rfl ?_
  refine Ev7.put rfl rfl (by have := xT.2.2.2.2; omega) xT.1 (Nat.le_of_ble_eq_true rfl) rfl rfl (fs' := [.ref (t + 1), .ref (t + 2), .ref (t + 3), .int T.2.2.2.1, .int T.2.2.2.2.1, .int number]) rfl ?_
  have H := Option.some.inj H
  subst H
  exact Ev7.ret rfl rfl rfl ⟨rfl, ⟨pu_s, (pu_n (by omega) xT.2.1), (pu_n (by omega) xT.2.2.1), (pu_n (by omega) xT.2.2.2.1), (by have := xT.2.2.2.2; omega)⟩, (fun k hk => by rw [pu_x (show k ≠ t from fun e => by have := hk; simp at this; omega)])⟩
theorem spX7_add7 {d : Nat} {h : pH} {t : Nat} {T : tT} (xT : isT7 h t T) (parent : Int32) (spot : Int32) (number : Int32) {res : Int32 × tT} (H : fX7_add T parent spot number = some res) : Ev7 (d + 1) mX7_add (h, 0, [(0, .ref t), (1, .int parent), (2, .int spot), (3, .int number)], []) (fun r h1 => r = some (.int res.1) ∧ isT7 h1 t res.2 ∧ fr [(t, t + 4)] h h1) := by
  unfold fX7_add at H
  refine Ev7.go 1 (s' := (h, 1, [(0, .ref t), (1, .int parent), (2, .int spot), (3, .int number)], [.ref t])) rfl ?_
  refine Ev7.callE rfl rfl rfl (p_argsV7 (by have := xT.2.2.2.2; omega) xT.1 (Nat.le_of_ble_eq_true rfl)) rfl (Nat.le_of_ble_eq_true rfl) (spX7_isFull7 xT ) ?_
  refine Ev7.if1 rfl (fun c1 => ?_) (fun c1 => ?_)
  · have c1 : (fX7_isFull T) = 0 := c1
    rw [if_pos c1] at H
    refine Ev7.go 1 (s' := (h, 10, [(0, .ref t), (1, .int parent), (2, .int spot), (3, .int number)], [.ref t])) rfl ?_
    refine Ev7.get rfl (by have := xT.2.2.2.2; omega) xT.1 rfl ?_
    refine Ev7.go 2 (s' := (h, 16, [(0, .ref t), (1, .int parent), (2, .int spot), (3, .int number), (4, .int T.2.2.2.2.1)], [.ref t])) rfl ?_
    refine Ev7.get rfl (by have := xT.2.2.2.2; omega) xT.1 rfl ?_
    refine Ev7.go 2 (s' := (h, 22, [(0, .ref t), (1, .int parent), (2, .int spot), (3, .int number), (4, .int T.2.2.2.2.1)], [.int number, .int T.2.2.2.2.1, .ref (t + 1)])) rfl ?_
    have v2 : vp_in T.2.2.2.2.1 24 := fun q => by rw [if_pos q] at H; cases H
    rw [if_neg v2] at H
    refine Ev7.iast rfl (by have := xT.2.2.2.2; omega) xT.2.1 v2 ?_
    refine Ev7.go 1 (s' := ((pu h (t + 1) (eI 24 (upd T.1 T.2.2.2.2.1.toNatClampNeg number))), 24, [(0, .ref t), (1, .int parent), (2, .int spot), (3, .int number), (4, .int T.2.2.2.2.1)], [.ref t])) rfl ?_
    refine Ev7.get rfl (by have := xT.2.2.2.2; omega) (pu_n (by omega) xT.1) rfl ?_
    refine Ev7.go 2 (s' := ((pu h (t + 1) (eI 24 (upd T.1 T.2.2.2.2.1.toNatClampNeg number))), 30, [(0, .ref t), (1, .int parent), (2, .int spot), (3, .int number), (4, .int T.2.2.2.2.1)], [.int parent, .int T.2.2.2.2.1, .ref (t + 2)])) rfl ?_
    refine Ev7.iast rfl (by have := xT.2.2.2.2; omega) (pu_n (by omega) xT.2.2.1) v2 ?_
    refine Ev7.go 1 (s' := ((pu (pu h (t + 1) (eI 24 (upd T.1 T.2.2.2.2.1.toNatClampNeg number))) (t + 2) (eI 24 (upd T.2.1 T.2.2.2.2.1.toNatClampNeg parent))), 32, [(0, .ref t), (1, .int parent), (2, .int spot), (3, .int number), (4, .int T.2.2.2.2.1)], [.ref t])) rfl ?_
    refine Ev7.get rfl (by have := xT.2.2.2.2; omega) (pu_n (by omega) (pu_n (by omega) xT.1)) rfl ?_
    refine Ev7.go 2 (s' := ((pu (pu h (t + 1) (eI 24 (upd T.1 T.2.2.2.2.1.toNatClampNeg number))) (t + 2) (eI 24 (upd T.2.1 T.2.2.2.2.1.toNatClampNeg parent))), 38, [(0, .ref t), (1, .int parent), (2, .int spot), (3, .int number), (4, .int T.2.2.2.2.1)], [.int spot, .int T.2.2.2.2.1, .ref (t + 3)])) rfl ?_
    refine Ev7.iast rfl (by have := xT.2.2.2.2; omega) (pu_n (by omega) (pu_n (by omega) xT.2.2.2.1)) v2 ?_
    refine Ev7.go 2 (s' := ((pu (pu (pu h (t + 1) (eI 24 (upd T.1 T.2.2.2.2.1.toNatClampNeg number))) (t + 2) (eI 24 (upd T.2.1 T.2.2.2.2.1.toNatClampNeg parent))) (t + 3) (eI 24 (upd T.2.2.1 T.2.2.2.2.1.toNatClampNeg spot))), 41, [(0, .ref t), (1, .int parent), (2, .int spot), (3, .int number), (4, .int T.2.2.2.2.1)], [.ref t, .ref t])) rfl ?_
    refine Ev7.get rfl (by have := xT.2.2.2.2; omega) (pu_n (by omega) (pu_n (by omega) (pu_n (by omega) xT.1))) rfl ?_
    refine Ev7.go 4 (s' := ((pu (pu (pu h (t + 1) (eI 24 (upd T.1 T.2.2.2.2.1.toNatClampNeg number))) (t + 2) (eI 24 (upd T.2.1 T.2.2.2.2.1.toNatClampNeg parent))) (t + 3) (eI 24 (upd T.2.2.1 T.2.2.2.2.1.toNatClampNeg spot))), 49, [(0, .ref t), (1, .int parent), (2, .int spot), (3, .int number), (4, .int T.2.2.2.2.1)], [.int (T.2.2.2.1 ||| (1 <<< (T.2.2.2.2.1 &&& 31))), .ref t])) rfl ?_
    refine Ev7.put rfl rfl (by have := xT.2.2.2.2; omega) (pu_n (by omega) (pu_n (by omega) (pu_n (by omega) xT.1))) (Nat.le_of_ble_eq_true rfl) rfl rfl (fs' := [.ref (t + 1), .ref (t + 2), .ref (t + 3), .int (T.2.2.2.1 ||| (1 <<< (T.2.2.2.2.1 &&& 31))), .int T.2.2.2.2.1, .int T.2.2.2.2.2]) rfl ?_
    refine Ev7.go 2 (s' := ((pu (pu (pu (pu h (t + 1) (eI 24 (upd T.1 T.2.2.2.2.1.toNatClampNeg number))) (t + 2) (eI 24 (upd T.2.1 T.2.2.2.2.1.toNatClampNeg parent))) (t + 3) (eI 24 (upd T.2.2.1 T.2.2.2.2.1.toNatClampNeg spot))) t (eO 6 [.ref (t + 1), .ref (t + 2), .ref (t + 3), .int (T.2.2.2.1 ||| (1 <<< (T.2.2.2.2.1 &&& 31))), .int T.2.2.2.2.1, .int T.2.2.2.2.2])), 54, [(0, .ref t), (1, .int parent), (2, .int spot), (3, .int number), (4, .int T.2.2.2.2.1)], [.ref t, .ref t])) rfl ?_
    refine Ev7.get rfl (by have := xT.2.2.2.2; omega) pu_s rfl ?_
    refine Ev7.go 2 (s' := ((pu (pu (pu (pu h (t + 1) (eI 24 (upd T.1 T.2.2.2.2.1.toNatClampNeg number))) (t + 2) (eI 24 (upd T.2.1 T.2.2.2.2.1.toNatClampNeg parent))) (t + 3) (eI 24 (upd T.2.2.1 T.2.2.2.2.1.toNatClampNeg spot))) t (eO 6 [.ref (t + 1), .ref (t + 2), .ref (t + 3), .int (T.2.2.2.1 ||| (1 <<< (T.2.2.2.2.1 &&& 31))), .int T.2.2.2.2.1, .int T.2.2.2.2.2])), 59, [(0, .ref t), (1, .int parent), (2, .int spot), (3, .int number), (4, .int T.2.2.2.2.1)], [.int (T.2.2.2.2.1 + 1), .ref t])) rfl ?_
    refine Ev7.put rfl rfl (by have := xT.2.2.2.2; omega) pu_s (Nat.le_of_ble_eq_true rfl) rfl rfl (fs' := [.ref (t + 1), .ref (t + 2), .ref (t + 3), .int (T.2.2.2.1 ||| (1 <<< (T.2.2.2.2.1 &&& 31))), .int (T.2.2.2.2.1 + 1), .int T.2.2.2.2.2]) rfl ?_
    refine Ev7.go 1 (s' := ((pu (pu (pu (pu (pu h (t + 1) (eI 24 (upd T.1 T.2.2.2.2.1.toNatClampNeg number))) (t + 2) (eI 24 (upd T.2.1 T.2.2.2.2.1.toNatClampNeg parent))) (t + 3) (eI 24 (upd T.2.2.1 T.2.2.2.2.1.toNatClampNeg spot))) t (eO 6 [.ref (t + 1), .ref (t + 2), .ref (t + 3), .int (T.2.2.2.1 ||| (1 <<< (T.2.2.2.2.1 &&& 31))), .int T.2.2.2.2.1, .int T.2.2.2.2.2])) t (eO 6 [.ref (t + 1), .ref (t + 2), .ref (t + 3), .int (T.2.2.2.1 ||| (1 <<< (T.2.2.2.2.1 &&& 31))), .int (T.2.2.2.2.1 + 1), .int T.2.2.2.2.2])), 64, [(0, .ref t), (1, .int parent), (2, .int spot), (3, .int number), (4, .int T.2.2.2.2.1)], [.int T.2.2.2.2.1])) rfl ?_
    have H := Option.some.inj H
    subst H
    exact Ev7.ret rfl rfl (p_retZ rfl) ⟨rfl, ⟨pu_s, (pu_n (by omega) (pu_n (by omega) (pu_n (by omega) (pu_n (by omega) pu_s)))), (pu_n (by omega) (pu_n (by omega) (pu_n (by omega) pu_s))), (pu_n (by omega) (pu_n (by omega) pu_s)), (by have := xT.2.2.2.2; omega)⟩, (fun k hk => by rw [pu_x (show k ≠ t from fun e => by have := hk; simp at this; omega)]; rw [pu_x (show k ≠ t from fun e => by have := hk; simp at this; omega)]; rw [pu_x (show k ≠ t + 3 from fun e => by have := hk; simp at this; omega)]; rw [pu_x (show k ≠ t + 2 from fun e => by have := hk; simp at this; omega)]; rw [pu_x (show k ≠ t + 1 from fun e => by have := hk; simp at this; omega)])⟩
  · have c1 : ¬ ((fX7_isFull T) = 0) := c1
    rw [if_neg c1] at H
    refine Ev7.go 1 (s' := (h, 8, [(0, .ref t), (1, .int parent), (2, .int spot), (3, .int number)], [.int ((-1))])) rfl ?_
    have H := Option.some.inj H
    subst H
    exact Ev7.ret rfl rfl (p_retZ rfl) ⟨rfl, xT, (fun k _ => rfl)⟩
theorem spX0_pick7 {d : Nat} {h : pH}  (kd : Int32) (least : Int32) (greatest : Int32) : Ev7 (d + 1) mX0_pick (h, 0, [(0, .int kd), (1, .int least), (2, .int greatest)], []) (fun r h1 => r = some (.int (fX0_pick kd least greatest)) ∧ h1 = h) := by
  refine Ev7.go 1 (s' := (h, 1, [(0, .int kd), (1, .int least), (2, .int greatest)], [.int kd])) rfl ?_
  rcases Classical.em (kd = 1) with c1 | c1
  · skip
    refine Ev7.one (s' := (h, 28, [(0, .int kd), (1, .int least), (2, .int greatest)], [])) rfl rfl (by rw [c1]; rfl) ?_
    refine Ev7.go 1 (s' := (h, 29, [(0, .int kd), (1, .int least), (2, .int greatest)], [.int least])) rfl ?_
    exact Ev7.ret rfl rfl (p_retZ rfl) ⟨congrArg (fun z => some (Value.int z)) (by rw [fX0_pick, if_pos c1]), rfl⟩
  · skip
    rcases Classical.em (kd = 2) with c2 | c2
    · skip
      refine Ev7.one (s' := (h, 30, [(0, .int kd), (1, .int least), (2, .int greatest)], [])) rfl rfl (by rw [c2]; rfl) ?_
      refine Ev7.go 1 (s' := (h, 31, [(0, .int kd), (1, .int least), (2, .int greatest)], [.int greatest])) rfl ?_
      exact Ev7.ret rfl rfl (p_retZ rfl) ⟨congrArg (fun z => some (Value.int z)) (by rw [fX0_pick, if_neg c1, if_pos c2]), rfl⟩
    · skip
      rcases Classical.em (kd = 3) with c3 | c3
      · skip
        refine Ev7.one (s' := (h, 32, [(0, .int kd), (1, .int least), (2, .int greatest)], [])) rfl rfl (by rw [c3]; rfl) ?_
        refine Ev7.go 4 (s' := (h, 36, [(0, .int kd), (1, .int least), (2, .int greatest)], [.int greatest, .int (least + 1)])) rfl ?_
        refine Ev7.mmin rfl rfl (Nat.le_of_ble_eq_true rfl) ?_
        exact Ev7.ret rfl rfl (p_retZ rfl) ⟨congrArg (fun z => some (Value.int z)) (by rw [fX0_pick, if_neg c1, if_neg c2, if_pos c3]), rfl⟩
      · skip
        refine Ev7.one (s' := (h, 40, [(0, .int kd), (1, .int least), (2, .int greatest)], [])) rfl rfl (p_swt (p_sw_1_3 c1 c2 c3)) ?_
        refine Ev7.go 5 (s' := (h, 45, [(0, .int kd), (1, .int least), (2, .int greatest)], [.int 2, .int (greatest - least), .int least])) rfl ?_
        refine Ev7.idiv rfl (by decide) ?_
        refine Ev7.go 1 (s' := (h, 47, [(0, .int kd), (1, .int least), (2, .int greatest)], [.int (least + ((greatest - least) / 2))])) rfl ?_
        exact Ev7.ret rfl rfl (p_retZ rfl) ⟨congrArg (fun z => some (Value.int z)) (by rw [fX0_pick, if_neg c1, if_neg c2, if_neg c3]), rfl⟩
theorem llX0_choose_37 {d n : Nat} : ∀ (m : Nat) (h : pH) (x0 : Int32) (x1 : Int32) (x2 : Int32) (x3 : Int32) (res : Int32), lX0_choose_3 n m x0 x1 x2 x3 = some res → True → Ev7 (d + 2) mX0_choose (h, 3, [(0, .int x0), (1, .int x1), (2, .int x2), (3, .int x3)], []) (fun r h1 => r = some (.int res) ∧ h1 = h)
  | 0, h, x0, x1, x2, x3, res, H, _ => by cases H
  | m + 1, h, x0, x1, x2, x3, res, H, _ => by
    have H : (if x3 ≤ 0 then some 0 else (if x3 = 0 then none else (if x3 = 0 then none else (if ((x2 - 1) / x3) < ((x1 / x3) + 1) then lX0_choose_3 n m x0 x1 x2 (x3 / 10) else some ((fX0_pick x0 ((x1 / x3) + 1) ((x2 - 1) / x3)) * x3))))) = some res := H
    refine Ev7.go 1 (s' := (h, 4, [(0, .int x0), (1, .int x1), (2, .int x2), (3, .int x3)], [.int x3])) rfl ?_
    refine Ev7.if1 rfl (fun c1 => ?_) (fun c1 => ?_)
    · have c1 : x3 ≤ 0 := c1
      rw [if_pos c1] at H
      refine Ev7.go 1 (s' := (h, 48, [(0, .int x0), (1, .int x1), (2, .int x2), (3, .int x3)], [.int 0])) rfl ?_
      have H := Option.some.inj H
      subst H
      exact Ev7.ret rfl rfl (p_retZ rfl) ⟨rfl, rfl⟩
    · have c1 : ¬ (x3 ≤ 0) := c1
      rw [if_neg c1] at H
      refine Ev7.go 2 (s' := (h, 9, [(0, .int x0), (1, .int x1), (2, .int x2), (3, .int x3)], [.int x3, .int x1])) rfl ?_
      have v2 : ¬ (x3 = 0) := fun q => by rw [if_pos q] at H; cases H
      rw [if_neg v2] at H
      refine Ev7.idiv rfl v2 ?_
      refine Ev7.go 7 (s' := (h, 18, [(0, .int x0), (1, .int x1), (2, .int x2), (3, .int x3), (4, .int ((x1 / x3) + 1))], [.int x3, .int (x2 - 1)])) rfl ?_
      have v3 : ¬ (x3 = 0) := fun q => by rw [if_pos q] at H; cases H
      rw [if_neg v3] at H
      refine Ev7.idiv rfl v3 ?_
      refine Ev7.go 3 (s' := (h, 25, [(0, .int x0), (1, .int x1), (2, .int x2), (3, .int x3), (4, .int ((x1 / x3) + 1)), (5, .int ((x2 - 1) / x3))], [.int ((x2 - 1) / x3), .int ((x1 / x3) + 1)])) rfl ?_
      refine Ev7.if2 rfl (fun c4 => ?_) (fun c4 => ?_)
      · have c4 : ((x2 - 1) / x3) < ((x1 / x3) + 1) := c4
        rw [if_pos c4] at H
        refine Ev7.go 2 (s' := (h, 42, [(0, .int x0), (1, .int x1), (2, .int x2), (3, .int x3), (4, .int ((x1 / x3) + 1)), (5, .int ((x2 - 1) / x3))], [.int 10, .int x3])) rfl ?_
        refine Ev7.idiv rfl (by decide) ?_
        refine Ev7.go 2 (s' := (h, 3, [(0, .int x0), (1, .int x1), (2, .int x2), (3, .int (x3 / 10)), (4, .int ((x1 / x3) + 1)), (5, .int ((x2 - 1) / x3))], [])) rfl ?_
        refine Ev7.live rfl (lv' := [(0, .int x0), (1, .int x1), (2, .int x2), (3, .int (x3 / 10))]) rfl ?_
        exact llX0_choose_37 m h x0 x1 x2 (x3 / 10) _ H trivial
      · have c4 : ¬ (((x2 - 1) / x3) < ((x1 / x3) + 1)) := c4
        rw [if_neg c4] at H
        refine Ev7.go 3 (s' := (h, 33, [(0, .int x0), (1, .int x1), (2, .int x2), (3, .int x3), (4, .int ((x1 / x3) + 1)), (5, .int ((x2 - 1) / x3))], [.int ((x2 - 1) / x3), .int ((x1 / x3) + 1), .int x0])) rfl ?_
        refine Ev7.callE rfl rfl rfl rfl rfl (Nat.le_of_ble_eq_true rfl) (spX0_pick7  x0 ((x1 / x3) + 1) ((x2 - 1) / x3)) ?_
        refine Ev7.go 2 (s' := (h, 38, [(0, .int x0), (1, .int x1), (2, .int x2), (3, .int x3), (4, .int ((x1 / x3) + 1)), (5, .int ((x2 - 1) / x3))], [.int ((fX0_pick x0 ((x1 / x3) + 1) ((x2 - 1) / x3)) * x3)])) rfl ?_
        have H := Option.some.inj H
        subst H
        exact Ev7.ret rfl rfl (p_retZ rfl) ⟨rfl, rfl⟩
theorem spX0_choose7 {d n : Nat} {h : pH}  (kd : Int32) (low : Int32) (high : Int32) {res : Int32} (H : fX0_choose n kd low high = some res) : Ev7 (d + 2) mX0_choose (h, 0, [(0, .int kd), (1, .int low), (2, .int high)], []) (fun r h1 => r = some (.int res) ∧ h1 = h) := by
  unfold fX0_choose at H
  refine Ev7.go 2 (s' := (h, 3, [(0, .int kd), (1, .int low), (2, .int high), (3, .int 100000000)], [])) rfl ?_
  refine Ev7.live rfl (lv' := [(0, .int kd), (1, .int low), (2, .int high), (3, .int 100000000)]) rfl ?_
  exact llX0_choose_37 n h kd low high 100000000 _ H trivial
theorem spX7_spotFor7 {d n : Nat} {h : pH} {t : Nat} {T : tT} (xT : isT7 h t T) (p : Int32) (place : Int32) {res : Int32} (H : fX7_spotFor n T p place = some res) : Ev7 (d + 3) mX7_spotFor (h, 0, [(0, .ref t), (1, .int p), (2, .int place)], []) (fun r h1 => r = some (.int res) ∧ h1 = h) := by
  unfold fX7_spotFor at H
  refine Ev7.go 1 (s' := (h, 1, [(0, .ref t), (1, .int p), (2, .int place)], [.int place])) rfl ?_
  refine Ev7.if1 rfl (fun c1 => ?_) (fun c1 => ?_)
  · have c1 : place ≤ 0 := c1
    rw [if_pos c1] at H
    refine Ev7.go 5 (s' := (h, 24, [(0, .ref t), (1, .int p), (2, .int place), (3, .int 0)], [.int 0, .int p, .ref t])) rfl ?_
    obtain ⟨y3, e2, H⟩ := Option.bind_eq_some_iff.mp H
    refine Ev7.callE rfl rfl rfl (p_argsV7 (by have := xT.2.2.2.2; omega) xT.1 (Nat.le_of_ble_eq_true rfl)) rfl (Nat.le_of_ble_eq_true rfl) (spX7_nextKid7 xT p 0 e2) ?_
    refine Ev7.go 2 (s' := (h, 30, [(0, .ref t), (1, .int p), (2, .int place), (3, .int 0), (4, .int y3)], [.ref t])) rfl ?_
    refine Ev7.get rfl (by have := xT.2.2.2.2; omega) xT.1 rfl ?_
    refine Ev7.go 2 (s' := (h, 36, [(0, .ref t), (1, .int p), (2, .int place), (3, .int 0), (4, .int y3)], [.int y3, .int 0, .int T.2.2.2.2.2])) rfl ?_
    refine Ev7.if1 rfl (fun c4 => ?_) (fun c4 => ?_)
    · have c4 : 0 ≤ y3 := c4
      rw [if_pos c4] at H
      refine Ev7.go 2 (s' := (h, 47, [(0, .ref t), (1, .int p), (2, .int place), (3, .int 0), (4, .int y3)], [.int y3, .ref t, .int 0, .int T.2.2.2.2.2])) rfl ?_
      refine Ev7.callE rfl rfl rfl (p_argsV7 (by have := xT.2.2.2.2; omega) xT.1 (Nat.le_of_ble_eq_true rfl)) rfl (Nat.le_of_ble_eq_true rfl) (spX7_spotOf7 xT y3) ?_
      obtain ⟨y6, e5, H⟩ := Option.bind_eq_some_iff.mp H
      refine Ev7.callE rfl rfl rfl rfl rfl (Nat.le_of_ble_eq_true rfl) (spX0_choose7  T.2.2.2.2.2 0 (fX7_spotOf T y3) e5) ?_
      have H := Option.some.inj H
      subst H
      exact Ev7.ret rfl rfl (p_retZ rfl) ⟨rfl, rfl⟩
    · have c4 : ¬ (0 ≤ y3) := c4
      rw [if_neg c4] at H
      refine Ev7.go 2 (s' := (h, 50, [(0, .ref t), (1, .int p), (2, .int place), (3, .int 0), (4, .int y3)], [.int 1000000000, .int 0, .int T.2.2.2.2.2])) rfl ?_
      obtain ⟨y8, e7, H⟩ := Option.bind_eq_some_iff.mp H
      refine Ev7.callE rfl rfl rfl rfl rfl (Nat.le_of_ble_eq_true rfl) (spX0_choose7  T.2.2.2.2.2 0 1000000000 e7) ?_
      have H := Option.some.inj H
      subst H
      exact Ev7.ret rfl rfl (p_retZ rfl) ⟨rfl, rfl⟩
  · have c1 : ¬ (place ≤ 0) := c1
    rw [if_neg c1] at H
    refine Ev7.go 6 (s' := (h, 10, [(0, .ref t), (1, .int p), (2, .int place)], [.int (place - 1), .int p, .ref t, .ref t])) rfl ?_
    obtain ⟨y10, e9, H⟩ := Option.bind_eq_some_iff.mp H
    refine Ev7.callE rfl rfl rfl (p_argsV7 (by have := xT.2.2.2.2; omega) xT.1 (Nat.le_of_ble_eq_true rfl)) rfl (Nat.le_of_ble_eq_true rfl) (spX7_childAt7 xT p (place - 1) e9) ?_
    refine Ev7.callE rfl rfl rfl (p_argsV7 (by have := xT.2.2.2.2; omega) xT.1 (Nat.le_of_ble_eq_true rfl)) rfl (Nat.le_of_ble_eq_true rfl) (spX7_spotOf7 xT y10) ?_
    refine Ev7.go 5 (s' := (h, 24, [(0, .ref t), (1, .int p), (2, .int place), (3, .int (fX7_spotOf T y10))], [.int (fX7_spotOf T y10), .int p, .ref t])) rfl ?_
    obtain ⟨y12, e11, H⟩ := Option.bind_eq_some_iff.mp H
    refine Ev7.callE rfl rfl rfl (p_argsV7 (by have := xT.2.2.2.2; omega) xT.1 (Nat.le_of_ble_eq_true rfl)) rfl (Nat.le_of_ble_eq_true rfl) (spX7_nextKid7 xT p (fX7_spotOf T y10) e11) ?_
    refine Ev7.go 2 (s' := (h, 30, [(0, .ref t), (1, .int p), (2, .int place), (3, .int (fX7_spotOf T y10)), (4, .int y12)], [.ref t])) rfl ?_
    refine Ev7.get rfl (by have := xT.2.2.2.2; omega) xT.1 rfl ?_
    refine Ev7.go 2 (s' := (h, 36, [(0, .ref t), (1, .int p), (2, .int place), (3, .int (fX7_spotOf T y10)), (4, .int y12)], [.int y12, .int (fX7_spotOf T y10), .int T.2.2.2.2.2])) rfl ?_
    refine Ev7.if1 rfl (fun c13 => ?_) (fun c13 => ?_)
    · have c13 : 0 ≤ y12 := c13
      rw [if_pos c13] at H
      refine Ev7.go 2 (s' := (h, 47, [(0, .ref t), (1, .int p), (2, .int place), (3, .int (fX7_spotOf T y10)), (4, .int y12)], [.int y12, .ref t, .int (fX7_spotOf T y10), .int T.2.2.2.2.2])) rfl ?_
      refine Ev7.callE rfl rfl rfl (p_argsV7 (by have := xT.2.2.2.2; omega) xT.1 (Nat.le_of_ble_eq_true rfl)) rfl (Nat.le_of_ble_eq_true rfl) (spX7_spotOf7 xT y12) ?_
      obtain ⟨y15, e14, H⟩ := Option.bind_eq_some_iff.mp H
      refine Ev7.callE rfl rfl rfl rfl rfl (Nat.le_of_ble_eq_true rfl) (spX0_choose7  T.2.2.2.2.2 (fX7_spotOf T y10) (fX7_spotOf T y12) e14) ?_
      have H := Option.some.inj H
      subst H
      exact Ev7.ret rfl rfl (p_retZ rfl) ⟨rfl, rfl⟩
    · have c13 : ¬ (0 ≤ y12) := c13
      rw [if_neg c13] at H
      refine Ev7.go 2 (s' := (h, 50, [(0, .ref t), (1, .int p), (2, .int place), (3, .int (fX7_spotOf T y10)), (4, .int y12)], [.int 1000000000, .int (fX7_spotOf T y10), .int T.2.2.2.2.2])) rfl ?_
      obtain ⟨y17, e16, H⟩ := Option.bind_eq_some_iff.mp H
      refine Ev7.callE rfl rfl rfl rfl rfl (Nat.le_of_ble_eq_true rfl) (spX0_choose7  T.2.2.2.2.2 (fX7_spotOf T y10) 1000000000 e16) ?_
      have H := Option.some.inj H
      subst H
      exact Ev7.ret rfl rfl (p_retZ rfl) ⟨rfl, rfl⟩
theorem spX1_size7 {d : Nat} {h : pH} {L : tL} (xL : isL h L) : Ev7 d mX1_size (h, 0, [(0, .ref 1)], []) (fun r h1 => r = some (.int (fX1_size L)) ∧ h1 = h) := by
  refine Ev7.go 1 (s' := (h, 1, [(0, .ref 1)], [.ref 1])) rfl ?_
  refine Ev7.get rfl (by decide) xL.1 rfl ?_
  exact Ev7.ret rfl rfl (p_retZ rfl) ⟨congrArg (fun z => some (Value.int z)) (by rw [fX1_size]), rfl⟩
theorem spX1_add7 {d : Nat} {h : pH} {L : tL} (xL : isL h L) (letter : Int32) {res : tL} (H : fX1_add L letter = some res) : Ev7 d mX1_add (h, 0, [(0, .ref 1), (1, .int letter)], []) (fun r h1 => r = none ∧ isL h1 res ∧ fr [(1, 3)] h h1) := by
  unfold fX1_add at H
  refine Ev7.go 1 (s' := (h, 1, [(0, .ref 1), (1, .int letter)], [.ref 1])) rfl ?_
  refine Ev7.get rfl (by decide) xL.1 rfl ?_
  refine Ev7.go 1 (s' := (h, 7, [(0, .ref 1), (1, .int letter)], [.int 200, .int L.2])) rfl ?_
  refine Ev7.if2 rfl (fun c1 => ?_) (fun c1 => ?_)
  · have c1 : 200 ≤ L.2 := c1
    rw [if_pos c1] at H
    have H := Option.some.inj H
    subst H
    exact Ev7.ret rfl rfl rfl ⟨rfl, xL, (fun k _ => rfl)⟩
  · have c1 : ¬ (200 ≤ L.2) := c1
    rw [if_neg c1] at H
    refine Ev7.go 1 (s' := (h, 11, [(0, .ref 1), (1, .int letter)], [.ref 1])) rfl ?_
    refine Ev7.get rfl (by decide) xL.1 rfl ?_
    refine Ev7.go 1 (s' := (h, 15, [(0, .ref 1), (1, .int letter)], [.ref 1, .ref 2])) rfl ?_
    refine Ev7.get rfl (by decide) xL.1 rfl ?_
    refine Ev7.go 1 (s' := (h, 19, [(0, .ref 1), (1, .int letter)], [.int letter, .int L.2, .ref 2])) rfl ?_
    have v2 : vp_in L.2 200 := fun q => by rw [if_pos q] at H; cases H
    rw [if_neg v2] at H
    refine Ev7.iast rfl (by decide) xL.2 v2 ?_
    refine Ev7.go 2 (s' := ((pu h 2 (eI 200 (upd L.1 L.2.toNatClampNeg letter))), 22, [(0, .ref 1), (1, .int letter)], [.ref 1, .ref 1])) rfl ?_
    refine Ev7.get rfl (by decide) (pu_n (by decide) xL.1) rfl ?_
    refine Ev7.go 2 (s' := ((pu h 2 (eI 200 (upd L.1 L.2.toNatClampNeg letter))), 27, [(0, .ref 1), (1, .int letter)], [.int (L.2 + 1), .ref 1])) rfl ?_
    refine Ev7.put rfl rfl (by decide) (pu_n (by decide) xL.1) (Nat.le_of_ble_eq_true rfl) rfl rfl (fs' := [.ref 2, .int (L.2 + 1)]) rfl ?_
    have H := Option.some.inj H
    subst H
    exact Ev7.ret rfl rfl rfl ⟨rfl, ⟨pu_s, (pu_n (by decide) pu_s)⟩, (fun k hk => by rw [pu_x (show k ≠ 1 from fun e => by have := hk; simp at this; omega)]; rw [pu_x (show k ≠ 2 from fun e => by have := hk; simp at this; omega)])⟩
theorem spX1_clear7 {d : Nat} {h : pH} {L : tL} (xL : isL h L) {res : tL} (H : fX1_clear L = some res) : Ev7 d mX1_clear (h, 0, [(0, .ref 1)], []) (fun r h1 => r = none ∧ isL h1 res ∧ fr [(1, 3)] h h1) := by
  unfold fX1_clear at H
  refine Ev7.go 2 (s' := (h, 2, [(0, .ref 1)], [.int 0, .ref 1])) rfl ?_
  refine Ev7.put rfl rfl (by decide) xL.1 (Nat.le_of_ble_eq_true rfl) rfl rfl (fs' := [.ref 2, .int 0]) rfl ?_
  have H := Option.some.inj H
  subst H
  exact Ev7.ret rfl rfl rfl ⟨rfl, ⟨pu_s, (pu_n (by decide) xL.2)⟩, (fun k hk => by rw [pu_x (show k ≠ 1 from fun e => by have := hk; simp at this; omega)])⟩
theorem spX1_letterAt7 {d : Nat} {h : pH} {L : tL} (xL : isL h L) (place : Int32) {res : Int32} (H : fX1_letterAt L place = some res) : Ev7 d mX1_letterAt (h, 0, [(0, .ref 1), (1, .int place)], []) (fun r h1 => r = some (.int res) ∧ h1 = h) := by
  unfold fX1_letterAt at H
  refine Ev7.go 1 (s' := (h, 1, [(0, .ref 1), (1, .int place)], [.int place])) rfl ?_
  refine Ev7.if1 rfl (fun c1 => ?_) (fun c1 => ?_)
  · have c1 : place < 0 := c1
    rw [if_pos c1] at H
    refine Ev7.go 1 (s' := (h, 22, [(0, .ref 1), (1, .int place)], [.int ((-1))])) rfl ?_
    have H := Option.some.inj H
    subst H
    exact Ev7.ret rfl rfl (p_retZ rfl) ⟨rfl, rfl⟩
  · have c1 : ¬ (place < 0) := c1
    rw [if_neg c1] at H
    refine Ev7.go 2 (s' := (h, 6, [(0, .ref 1), (1, .int place)], [.ref 1, .int place])) rfl ?_
    refine Ev7.get rfl (by decide) xL.1 rfl ?_
    refine Ev7.if2 rfl (fun c2 => ?_) (fun c2 => ?_)
    · have c2 : L.2 ≤ place := c2
      rw [if_pos c2] at H
      refine Ev7.go 1 (s' := (h, 22, [(0, .ref 1), (1, .int place)], [.int ((-1))])) rfl ?_
      have H := Option.some.inj H
      subst H
      exact Ev7.ret rfl rfl (p_retZ rfl) ⟨rfl, rfl⟩
    · have c2 : ¬ (L.2 ≤ place) := c2
      rw [if_neg c2] at H
      refine Ev7.go 1 (s' := (h, 13, [(0, .ref 1), (1, .int place)], [.ref 1])) rfl ?_
      refine Ev7.get rfl (by decide) xL.1 rfl ?_
      refine Ev7.go 1 (s' := (h, 17, [(0, .ref 1), (1, .int place)], [.int place, .ref 2])) rfl ?_
      have v3 : vp_in place 200 := fun q => by rw [if_pos q] at H; cases H
      rw [if_neg v3] at H
      refine Ev7.iald rfl (by decide) xL.2 v3 ?_
      refine Ev7.go 1 (s' := (h, 22, [(0, .ref 1), (1, .int place)], [.int (L.1 place.toNatClampNeg)])) rfl ?_
      have H := Option.some.inj H
      subst H
      exact Ev7.ret rfl rfl (p_retZ rfl) ⟨rfl, rfl⟩
theorem spX3_isRank7 {d : Nat} {h : pH} {O : tO} (xO : isO h O) (k : Int32) : Ev7 d mX3_isRank (h, 0, [(0, .ref 15), (1, .int k)], []) (fun r h1 => r = some (.int (fX3_isRank O k)) ∧ h1 = h) := by
  refine Ev7.go 1 (s' := (h, 1, [(0, .ref 15), (1, .int k)], [.int k])) rfl ?_
  refine Ev7.if1 rfl (fun c1 => ?_) (fun c1 => ?_)
  · have c1 : k < 0 := c1
    refine Ev7.go 1 (s' := (h, 17, [(0, .ref 15), (1, .int k)], [.int 0])) rfl ?_
    exact Ev7.ret rfl rfl (p_retZ rfl) ⟨congrArg (fun z => some (Value.int z)) (by rw [fX3_isRank, if_pos c1]), rfl⟩
  · have c1 : ¬ (k < 0) := c1
    refine Ev7.go 2 (s' := (h, 6, [(0, .ref 15), (1, .int k)], [.ref 15, .int k])) rfl ?_
    refine Ev7.get rfl (by decide) xO.1 rfl ?_
    refine Ev7.if2 rfl (fun c2 => ?_) (fun c2 => ?_)
    · have c2 : O.2.2.2.2.2.2.2 ≤ k := c2
      refine Ev7.go 1 (s' := (h, 17, [(0, .ref 15), (1, .int k)], [.int 0])) rfl ?_
      exact Ev7.ret rfl rfl (p_retZ rfl) ⟨congrArg (fun z => some (Value.int z)) (by rw [fX3_isRank, if_neg c1, if_pos c2]), rfl⟩
    · have c2 : ¬ (O.2.2.2.2.2.2.2 ≤ k) := c2
      refine Ev7.go 2 (s' := (h, 17, [(0, .ref 15), (1, .int k)], [.int 1])) rfl ?_
      exact Ev7.ret rfl rfl (p_retZ rfl) ⟨congrArg (fun z => some (Value.int z)) (by rw [fX3_isRank, if_neg c1, if_neg c2]), rfl⟩
theorem spX3_nodeAt7 {d : Nat} {h : pH} {O : tO} (xO : isO h O) (k : Int32) {res : Int32} (H : fX3_nodeAt O k = some res) : Ev7 (d + 1) mX3_nodeAt (h, 0, [(0, .ref 15), (1, .int k)], []) (fun r h1 => r = some (.int res) ∧ h1 = h) := by
  unfold fX3_nodeAt at H
  refine Ev7.go 2 (s' := (h, 2, [(0, .ref 15), (1, .int k)], [.int k, .ref 15])) rfl ?_
  refine Ev7.callE rfl rfl rfl (p_argsV7 (by decide) xO.1 (Nat.le_of_ble_eq_true rfl)) rfl (Nat.le_of_ble_eq_true rfl) (spX3_isRank7 xO k) ?_
  refine Ev7.if1 rfl (fun c1 => ?_) (fun c1 => ?_)
  · have c1 : (fX3_isRank O k) = 0 := c1
    rw [if_pos c1] at H
    refine Ev7.go 1 (s' := (h, 18, [(0, .ref 15), (1, .int k)], [.int ((-1))])) rfl ?_
    have H := Option.some.inj H
    subst H
    exact Ev7.ret rfl rfl (p_retZ rfl) ⟨rfl, rfl⟩
  · have c1 : ¬ ((fX3_isRank O k) = 0) := c1
    rw [if_neg c1] at H
    refine Ev7.go 1 (s' := (h, 9, [(0, .ref 15), (1, .int k)], [.ref 15])) rfl ?_
    refine Ev7.get rfl (by decide) xO.1 rfl ?_
    refine Ev7.go 1 (s' := (h, 13, [(0, .ref 15), (1, .int k)], [.int k, .ref 17])) rfl ?_
    have v2 : vp_in k 24 := fun q => by rw [if_pos q] at H; cases H
    rw [if_neg v2] at H
    refine Ev7.iald rfl (by decide) xO.2.2.1 v2 ?_
    refine Ev7.go 1 (s' := (h, 18, [(0, .ref 15), (1, .int k)], [.int (O.2.1 k.toNatClampNeg)])) rfl ?_
    have H := Option.some.inj H
    subst H
    exact Ev7.ret rfl rfl (p_retZ rfl) ⟨rfl, rfl⟩
theorem spX3_parentAt7 {d : Nat} {h : pH} {O : tO} (xO : isO h O) (k : Int32) {res : Int32} (H : fX3_parentAt O k = some res) : Ev7 (d + 1) mX3_parentAt (h, 0, [(0, .ref 15), (1, .int k)], []) (fun r h1 => r = some (.int res) ∧ h1 = h) := by
  unfold fX3_parentAt at H
  refine Ev7.go 2 (s' := (h, 2, [(0, .ref 15), (1, .int k)], [.int k, .ref 15])) rfl ?_
  refine Ev7.callE rfl rfl rfl (p_argsV7 (by decide) xO.1 (Nat.le_of_ble_eq_true rfl)) rfl (Nat.le_of_ble_eq_true rfl) (spX3_isRank7 xO k) ?_
  refine Ev7.if1 rfl (fun c1 => ?_) (fun c1 => ?_)
  · have c1 : (fX3_isRank O k) = 0 := c1
    rw [if_pos c1] at H
    refine Ev7.go 1 (s' := (h, 18, [(0, .ref 15), (1, .int k)], [.int ((-1))])) rfl ?_
    have H := Option.some.inj H
    subst H
    exact Ev7.ret rfl rfl (p_retZ rfl) ⟨rfl, rfl⟩
  · have c1 : ¬ ((fX3_isRank O k) = 0) := c1
    rw [if_neg c1] at H
    refine Ev7.go 1 (s' := (h, 9, [(0, .ref 15), (1, .int k)], [.ref 15])) rfl ?_
    refine Ev7.get rfl (by decide) xO.1 rfl ?_
    refine Ev7.go 1 (s' := (h, 13, [(0, .ref 15), (1, .int k)], [.int k, .ref 18])) rfl ?_
    have v2 : vp_in k 24 := fun q => by rw [if_pos q] at H; cases H
    rw [if_neg v2] at H
    refine Ev7.iald rfl (by decide) xO.2.2.2.1 v2 ?_
    refine Ev7.go 1 (s' := (h, 18, [(0, .ref 15), (1, .int k)], [.int (O.2.2.1 k.toNatClampNeg)])) rfl ?_
    have H := Option.some.inj H
    subst H
    exact Ev7.ret rfl rfl (p_retZ rfl) ⟨rfl, rfl⟩
theorem spX3_levelAt7 {d : Nat} {h : pH} {O : tO} (xO : isO h O) (k : Int32) {res : Int32} (H : fX3_levelAt O k = some res) : Ev7 (d + 1) mX3_levelAt (h, 0, [(0, .ref 15), (1, .int k)], []) (fun r h1 => r = some (.int res) ∧ h1 = h) := by
  unfold fX3_levelAt at H
  refine Ev7.go 2 (s' := (h, 2, [(0, .ref 15), (1, .int k)], [.int k, .ref 15])) rfl ?_
  refine Ev7.callE rfl rfl rfl (p_argsV7 (by decide) xO.1 (Nat.le_of_ble_eq_true rfl)) rfl (Nat.le_of_ble_eq_true rfl) (spX3_isRank7 xO k) ?_
  refine Ev7.if1 rfl (fun c1 => ?_) (fun c1 => ?_)
  · have c1 : (fX3_isRank O k) = 0 := c1
    rw [if_pos c1] at H
    refine Ev7.go 1 (s' := (h, 18, [(0, .ref 15), (1, .int k)], [.int 0])) rfl ?_
    have H := Option.some.inj H
    subst H
    exact Ev7.ret rfl rfl (p_retZ rfl) ⟨rfl, rfl⟩
  · have c1 : ¬ ((fX3_isRank O k) = 0) := c1
    rw [if_neg c1] at H
    refine Ev7.go 1 (s' := (h, 9, [(0, .ref 15), (1, .int k)], [.ref 15])) rfl ?_
    refine Ev7.get rfl (by decide) xO.1 rfl ?_
    refine Ev7.go 1 (s' := (h, 13, [(0, .ref 15), (1, .int k)], [.int k, .ref 20])) rfl ?_
    have v2 : vp_in k 24 := fun q => by rw [if_pos q] at H; cases H
    rw [if_neg v2] at H
    refine Ev7.iald rfl (by decide) xO.2.2.2.2.2.1 v2 ?_
    refine Ev7.go 1 (s' := (h, 18, [(0, .ref 15), (1, .int k)], [.int (O.2.2.2.2.1 k.toNatClampNeg)])) rfl ?_
    have H := Option.some.inj H
    subst H
    exact Ev7.ret rfl rfl (p_retZ rfl) ⟨rfl, rfl⟩
theorem spX3_take7 {d : Nat} {h : pH} {O : tO} (xO : isO h O) (v : Int32) (parent : Int32) (elder : Int32) {res : tO} (H : fX3_take O v parent elder = some res) : Ev7 (d + 2) mX3_take (h, 0, [(0, .ref 15), (1, .int v), (2, .int parent), (3, .int elder)], []) (fun r h1 => r = none ∧ isO h1 res ∧ fr [(15, 23)] h h1) := by
  unfold fX3_take at H
  refine Ev7.go 1 (s' := (h, 1, [(0, .ref 15), (1, .int v), (2, .int parent), (3, .int elder)], [.ref 15])) rfl ?_
  refine Ev7.get rfl (by decide) xO.1 rfl ?_
  refine Ev7.go 1 (s' := (h, 6, [(0, .ref 15), (1, .int v), (2, .int parent), (3, .int elder)], [.int 24, .int O.2.2.2.2.2.2.2])) rfl ?_
  refine Ev7.if2 rfl (fun c1 => ?_) (fun c1 => ?_)
  · have c1 : 24 ≤ O.2.2.2.2.2.2.2 := c1
    rw [if_pos c1] at H
    have H := Option.some.inj H
    subst H
    exact Ev7.ret rfl rfl rfl ⟨rfl, xO, (fun k _ => rfl)⟩
  · have c1 : ¬ (24 ≤ O.2.2.2.2.2.2.2) := c1
    rw [if_neg c1] at H
    refine Ev7.go 1 (s' := (h, 10, [(0, .ref 15), (1, .int v), (2, .int parent), (3, .int elder)], [.int v])) rfl ?_
    refine Ev7.if1 rfl (fun c2 => ?_) (fun c2 => ?_)
    · have c2 : v < 0 := c2
      rw [if_pos c2] at H
      have H := Option.some.inj H
      subst H
      exact Ev7.ret rfl rfl rfl ⟨rfl, xO, (fun k _ => rfl)⟩
    · have c2 : ¬ (v < 0) := c2
      rw [if_neg c2] at H
      refine Ev7.go 2 (s' := (h, 16, [(0, .ref 15), (1, .int v), (2, .int parent), (3, .int elder)], [.int 24, .int v])) rfl ?_
      refine Ev7.if2 rfl (fun c3 => ?_) (fun c3 => ?_)
      · have c3 : v < 24 := c3
        rw [if_pos c3] at H
        refine Ev7.go 1 (s' := (h, 21, [(0, .ref 15), (1, .int v), (2, .int parent), (3, .int elder)], [.ref 15])) rfl ?_
        refine Ev7.get rfl (by decide) xO.1 rfl ?_
        refine Ev7.go 2 (s' := (h, 26, [(0, .ref 15), (1, .int v), (2, .int parent), (3, .int elder)], [.ref 15, .int v, .ref 16])) rfl ?_
        refine Ev7.get rfl (by decide) xO.1 rfl ?_
        have v4 : vp_in v 24 := fun q => by rw [if_pos q] at H; cases H
        rw [if_neg v4] at H
        refine Ev7.iast rfl (by decide) xO.2.1 v4 ?_
        refine Ev7.go 1 (s' := ((pu h 16 (eI 24 (upd O.1 v.toNatClampNeg O.2.2.2.2.2.2.2))), 31, [(0, .ref 15), (1, .int v), (2, .int parent), (3, .int elder)], [.ref 15])) rfl ?_
        refine Ev7.get rfl (by decide) (pu_n (by decide) xO.1) rfl ?_
        refine Ev7.go 1 (s' := ((pu h 16 (eI 24 (upd O.1 v.toNatClampNeg O.2.2.2.2.2.2.2))), 35, [(0, .ref 15), (1, .int v), (2, .int parent), (3, .int elder)], [.ref 15, .ref 17])) rfl ?_
        refine Ev7.get rfl (by decide) (pu_n (by decide) xO.1) rfl ?_
        refine Ev7.go 1 (s' := ((pu h 16 (eI 24 (upd O.1 v.toNatClampNeg O.2.2.2.2.2.2.2))), 39, [(0, .ref 15), (1, .int v), (2, .int parent), (3, .int elder)], [.int v, .int O.2.2.2.2.2.2.2, .ref 17])) rfl ?_
        have v5 : vp_in O.2.2.2.2.2.2.2 24 := fun q => by rw [if_pos q] at H; cases H
        rw [if_neg v5] at H
        refine Ev7.iast rfl (by decide) (pu_n (by decide) xO.2.2.1) v5 ?_
        refine Ev7.go 1 (s' := ((pu (pu h 16 (eI 24 (upd O.1 v.toNatClampNeg O.2.2.2.2.2.2.2))) 17 (eI 24 (upd O.2.1 O.2.2.2.2.2.2.2.toNatClampNeg v))), 41, [(0, .ref 15), (1, .int v), (2, .int parent), (3, .int elder)], [.ref 15])) rfl ?_
        refine Ev7.get rfl (by decide) (pu_n (by decide) (pu_n (by decide) xO.1)) rfl ?_
        refine Ev7.go 1 (s' := ((pu (pu h 16 (eI 24 (upd O.1 v.toNatClampNeg O.2.2.2.2.2.2.2))) 17 (eI 24 (upd O.2.1 O.2.2.2.2.2.2.2.toNatClampNeg v))), 45, [(0, .ref 15), (1, .int v), (2, .int parent), (3, .int elder)], [.ref 15, .ref 18])) rfl ?_
        refine Ev7.get rfl (by decide) (pu_n (by decide) (pu_n (by decide) xO.1)) rfl ?_
        refine Ev7.go 1 (s' := ((pu (pu h 16 (eI 24 (upd O.1 v.toNatClampNeg O.2.2.2.2.2.2.2))) 17 (eI 24 (upd O.2.1 O.2.2.2.2.2.2.2.toNatClampNeg v))), 49, [(0, .ref 15), (1, .int v), (2, .int parent), (3, .int elder)], [.int parent, .int O.2.2.2.2.2.2.2, .ref 18])) rfl ?_
        refine Ev7.iast rfl (by decide) (pu_n (by decide) (pu_n (by decide) xO.2.2.2.1)) v5 ?_
        refine Ev7.go 1 (s' := ((pu (pu (pu h 16 (eI 24 (upd O.1 v.toNatClampNeg O.2.2.2.2.2.2.2))) 17 (eI 24 (upd O.2.1 O.2.2.2.2.2.2.2.toNatClampNeg v))) 18 (eI 24 (upd O.2.2.1 O.2.2.2.2.2.2.2.toNatClampNeg parent))), 51, [(0, .ref 15), (1, .int v), (2, .int parent), (3, .int elder)], [.ref 15])) rfl ?_
        refine Ev7.get rfl (by decide) (pu_n (by decide) (pu_n (by decide) (pu_n (by decide) xO.1))) rfl ?_
        refine Ev7.go 1 (s' := ((pu (pu (pu h 16 (eI 24 (upd O.1 v.toNatClampNeg O.2.2.2.2.2.2.2))) 17 (eI 24 (upd O.2.1 O.2.2.2.2.2.2.2.toNatClampNeg v))) 18 (eI 24 (upd O.2.2.1 O.2.2.2.2.2.2.2.toNatClampNeg parent))), 55, [(0, .ref 15), (1, .int v), (2, .int parent), (3, .int elder)], [.ref 15, .ref 19])) rfl ?_
        refine Ev7.get rfl (by decide) (pu_n (by decide) (pu_n (by decide) (pu_n (by decide) xO.1))) rfl ?_
        refine Ev7.go 1 (s' := ((pu (pu (pu h 16 (eI 24 (upd O.1 v.toNatClampNeg O.2.2.2.2.2.2.2))) 17 (eI 24 (upd O.2.1 O.2.2.2.2.2.2.2.toNatClampNeg v))) 18 (eI 24 (upd O.2.2.1 O.2.2.2.2.2.2.2.toNatClampNeg parent))), 59, [(0, .ref 15), (1, .int v), (2, .int parent), (3, .int elder)], [.int elder, .int O.2.2.2.2.2.2.2, .ref 19])) rfl ?_
        refine Ev7.iast rfl (by decide) (pu_n (by decide) (pu_n (by decide) (pu_n (by decide) xO.2.2.2.2.1))) v5 ?_
        refine Ev7.go 1 (s' := ((pu (pu (pu (pu h 16 (eI 24 (upd O.1 v.toNatClampNeg O.2.2.2.2.2.2.2))) 17 (eI 24 (upd O.2.1 O.2.2.2.2.2.2.2.toNatClampNeg v))) 18 (eI 24 (upd O.2.2.1 O.2.2.2.2.2.2.2.toNatClampNeg parent))) 19 (eI 24 (upd O.2.2.2.1 O.2.2.2.2.2.2.2.toNatClampNeg elder))), 61, [(0, .ref 15), (1, .int v), (2, .int parent), (3, .int elder)], [.ref 15])) rfl ?_
        refine Ev7.get rfl (by decide) (pu_n (by decide) (pu_n (by decide) (pu_n (by decide) (pu_n (by decide) xO.1)))) rfl ?_
        refine Ev7.go 1 (s' := ((pu (pu (pu (pu h 16 (eI 24 (upd O.1 v.toNatClampNeg O.2.2.2.2.2.2.2))) 17 (eI 24 (upd O.2.1 O.2.2.2.2.2.2.2.toNatClampNeg v))) 18 (eI 24 (upd O.2.2.1 O.2.2.2.2.2.2.2.toNatClampNeg parent))) 19 (eI 24 (upd O.2.2.2.1 O.2.2.2.2.2.2.2.toNatClampNeg elder))), 65, [(0, .ref 15), (1, .int v), (2, .int parent), (3, .int elder)], [.ref 15, .ref 20])) rfl ?_
        refine Ev7.get rfl (by decide) (pu_n (by decide) (pu_n (by decide) (pu_n (by decide) (pu_n (by decide) xO.1)))) rfl ?_
        refine Ev7.go 1 (s' := ((pu (pu (pu (pu h 16 (eI 24 (upd O.1 v.toNatClampNeg O.2.2.2.2.2.2.2))) 17 (eI 24 (upd O.2.1 O.2.2.2.2.2.2.2.toNatClampNeg v))) 18 (eI 24 (upd O.2.2.1 O.2.2.2.2.2.2.2.toNatClampNeg parent))) 19 (eI 24 (upd O.2.2.2.1 O.2.2.2.2.2.2.2.toNatClampNeg elder))), 69, [(0, .ref 15), (1, .int v), (2, .int parent), (3, .int elder)], [.int parent, .int O.2.2.2.2.2.2.2, .ref 20])) rfl ?_
        refine Ev7.if1 rfl (fun c6 => ?_) (fun c6 => ?_)
        · have c6 : 0 ≤ parent := c6
          rw [if_pos c6] at H
          refine Ev7.go 2 (s' := ((pu (pu (pu (pu h 16 (eI 24 (upd O.1 v.toNatClampNeg O.2.2.2.2.2.2.2))) 17 (eI 24 (upd O.2.1 O.2.2.2.2.2.2.2.toNatClampNeg v))) 18 (eI 24 (upd O.2.2.1 O.2.2.2.2.2.2.2.toNatClampNeg parent))) 19 (eI 24 (upd O.2.2.2.1 O.2.2.2.2.2.2.2.toNatClampNeg elder))), 78, [(0, .ref 15), (1, .int v), (2, .int parent), (3, .int elder)], [.int parent, .ref 15, .int O.2.2.2.2.2.2.2, .ref 20])) rfl ?_
          obtain ⟨y8, e7, H⟩ := Option.bind_eq_some_iff.mp H
          refine Ev7.callE rfl rfl rfl (p_argsV7 (by decide) (pu_n (by decide) (pu_n (by decide) (pu_n (by decide) (pu_n (by decide) xO.1)))) (Nat.le_of_ble_eq_true rfl)) rfl (Nat.le_of_ble_eq_true rfl) (spX3_levelAt7 (h := (pu (pu (pu (pu h 16 (eI 24 (upd O.1 v.toNatClampNeg O.2.2.2.2.2.2.2))) 17 (eI 24 (upd O.2.1 O.2.2.2.2.2.2.2.toNatClampNeg v))) 18 (eI 24 (upd O.2.2.1 O.2.2.2.2.2.2.2.toNatClampNeg parent))) 19 (eI 24 (upd O.2.2.2.1 O.2.2.2.2.2.2.2.toNatClampNeg elder)))) (O := (upd O.1 v.toNatClampNeg O.2.2.2.2.2.2.2, upd O.2.1 O.2.2.2.2.2.2.2.toNatClampNeg v, upd O.2.2.1 O.2.2.2.2.2.2.2.toNatClampNeg parent, upd O.2.2.2.1 O.2.2.2.2.2.2.2.toNatClampNeg elder, O.2.2.2.2.1, O.2.2.2.2.2.1, O.2.2.2.2.2.2.1, O.2.2.2.2.2.2.2)) ⟨(pu_n (by decide) (pu_n (by decide) (pu_n (by decide) (pu_n (by decide) xO.1)))), (pu_n (by decide) (pu_n (by decide) (pu_n (by decide) pu_s))), (pu_n (by decide) (pu_n (by decide) pu_s)), (pu_n (by decide) pu_s), pu_s, (pu_n (by decide) (pu_n (by decide) (pu_n (by decide) (pu_n (by decide) xO.2.2.2.2.2.1)))), (pu_n (by decide) (pu_n (by decide) (pu_n (by decide) (pu_n (by decide) xO.2.2.2.2.2.2.1)))), (pu_n (by decide) (pu_n (by decide) (pu_n (by decide) (pu_n (by decide) xO.2.2.2.2.2.2.2))))⟩ parent e7) ?_
          refine Ev7.go 2 (s' := ((pu (pu (pu (pu h 16 (eI 24 (upd O.1 v.toNatClampNeg O.2.2.2.2.2.2.2))) 17 (eI 24 (upd O.2.1 O.2.2.2.2.2.2.2.toNatClampNeg v))) 18 (eI 24 (upd O.2.2.1 O.2.2.2.2.2.2.2.toNatClampNeg parent))) 19 (eI 24 (upd O.2.2.2.1 O.2.2.2.2.2.2.2.toNatClampNeg elder))), 83, [(0, .ref 15), (1, .int v), (2, .int parent), (3, .int elder)], [.int (y8 + 1), .int O.2.2.2.2.2.2.2, .ref 20])) rfl ?_
          refine Ev7.iast rfl (by decide) (pu_n (by decide) (pu_n (by decide) (pu_n (by decide) (pu_n (by decide) xO.2.2.2.2.2.1)))) v5 ?_
          refine Ev7.go 1 (s' := ((pu (pu (pu (pu (pu h 16 (eI 24 (upd O.1 v.toNatClampNeg O.2.2.2.2.2.2.2))) 17 (eI 24 (upd O.2.1 O.2.2.2.2.2.2.2.toNatClampNeg v))) 18 (eI 24 (upd O.2.2.1 O.2.2.2.2.2.2.2.toNatClampNeg parent))) 19 (eI 24 (upd O.2.2.2.1 O.2.2.2.2.2.2.2.toNatClampNeg elder))) 20 (eI 24 (upd O.2.2.2.2.1 O.2.2.2.2.2.2.2.toNatClampNeg (y8 + 1)))), 85, [(0, .ref 15), (1, .int v), (2, .int parent), (3, .int elder)], [.ref 15])) rfl ?_
          refine Ev7.get rfl (by decide) (pu_n (by decide) (pu_n (by decide) (pu_n (by decide) (pu_n (by decide) (pu_n (by decide) xO.1))))) rfl ?_
          refine Ev7.go 1 (s' := ((pu (pu (pu (pu (pu h 16 (eI 24 (upd O.1 v.toNatClampNeg O.2.2.2.2.2.2.2))) 17 (eI 24 (upd O.2.1 O.2.2.2.2.2.2.2.toNatClampNeg v))) 18 (eI 24 (upd O.2.2.1 O.2.2.2.2.2.2.2.toNatClampNeg parent))) 19 (eI 24 (upd O.2.2.2.1 O.2.2.2.2.2.2.2.toNatClampNeg elder))) 20 (eI 24 (upd O.2.2.2.2.1 O.2.2.2.2.2.2.2.toNatClampNeg (y8 + 1)))), 89, [(0, .ref 15), (1, .int v), (2, .int parent), (3, .int elder)], [.ref 15, .ref 21])) rfl ?_
          refine Ev7.get rfl (by decide) (pu_n (by decide) (pu_n (by decide) (pu_n (by decide) (pu_n (by decide) (pu_n (by decide) xO.1))))) rfl ?_
          refine Ev7.go 1 (s' := ((pu (pu (pu (pu (pu h 16 (eI 24 (upd O.1 v.toNatClampNeg O.2.2.2.2.2.2.2))) 17 (eI 24 (upd O.2.1 O.2.2.2.2.2.2.2.toNatClampNeg v))) 18 (eI 24 (upd O.2.2.1 O.2.2.2.2.2.2.2.toNatClampNeg parent))) 19 (eI 24 (upd O.2.2.2.1 O.2.2.2.2.2.2.2.toNatClampNeg elder))) 20 (eI 24 (upd O.2.2.2.2.1 O.2.2.2.2.2.2.2.toNatClampNeg (y8 + 1)))), 93, [(0, .ref 15), (1, .int v), (2, .int parent), (3, .int elder)], [.int 0, .int O.2.2.2.2.2.2.2, .ref 21])) rfl ?_
          refine Ev7.iast rfl (by decide) (pu_n (by decide) (pu_n (by decide) (pu_n (by decide) (pu_n (by decide) (pu_n (by decide) xO.2.2.2.2.2.2.1))))) v5 ?_
          refine Ev7.go 1 (s' := ((pu (pu (pu (pu (pu (pu h 16 (eI 24 (upd O.1 v.toNatClampNeg O.2.2.2.2.2.2.2))) 17 (eI 24 (upd O.2.1 O.2.2.2.2.2.2.2.toNatClampNeg v))) 18 (eI 24 (upd O.2.2.1 O.2.2.2.2.2.2.2.toNatClampNeg parent))) 19 (eI 24 (upd O.2.2.2.1 O.2.2.2.2.2.2.2.toNatClampNeg elder))) 20 (eI 24 (upd O.2.2.2.2.1 O.2.2.2.2.2.2.2.toNatClampNeg (y8 + 1)))) 21 (eI 24 (upd O.2.2.2.2.2.1 O.2.2.2.2.2.2.2.toNatClampNeg 0))), 95, [(0, .ref 15), (1, .int v), (2, .int parent), (3, .int elder)], [.ref 15])) rfl ?_
          refine Ev7.get rfl (by decide) (pu_n (by decide) (pu_n (by decide) (pu_n (by decide) (pu_n (by decide) (pu_n (by decide) (pu_n (by decide) xO.1)))))) rfl ?_
          refine Ev7.go 1 (s' := ((pu (pu (pu (pu (pu (pu h 16 (eI 24 (upd O.1 v.toNatClampNeg O.2.2.2.2.2.2.2))) 17 (eI 24 (upd O.2.1 O.2.2.2.2.2.2.2.toNatClampNeg v))) 18 (eI 24 (upd O.2.2.1 O.2.2.2.2.2.2.2.toNatClampNeg parent))) 19 (eI 24 (upd O.2.2.2.1 O.2.2.2.2.2.2.2.toNatClampNeg elder))) 20 (eI 24 (upd O.2.2.2.2.1 O.2.2.2.2.2.2.2.toNatClampNeg (y8 + 1)))) 21 (eI 24 (upd O.2.2.2.2.2.1 O.2.2.2.2.2.2.2.toNatClampNeg 0))), 99, [(0, .ref 15), (1, .int v), (2, .int parent), (3, .int elder)], [.ref 15, .ref 22])) rfl ?_
          refine Ev7.get rfl (by decide) (pu_n (by decide) (pu_n (by decide) (pu_n (by decide) (pu_n (by decide) (pu_n (by decide) (pu_n (by decide) xO.1)))))) rfl ?_
          refine Ev7.go 1 (s' := ((pu (pu (pu (pu (pu (pu h 16 (eI 24 (upd O.1 v.toNatClampNeg O.2.2.2.2.2.2.2))) 17 (eI 24 (upd O.2.1 O.2.2.2.2.2.2.2.toNatClampNeg v))) 18 (eI 24 (upd O.2.2.1 O.2.2.2.2.2.2.2.toNatClampNeg parent))) 19 (eI 24 (upd O.2.2.2.1 O.2.2.2.2.2.2.2.toNatClampNeg elder))) 20 (eI 24 (upd O.2.2.2.2.1 O.2.2.2.2.2.2.2.toNatClampNeg (y8 + 1)))) 21 (eI 24 (upd O.2.2.2.2.2.1 O.2.2.2.2.2.2.2.toNatClampNeg 0))), 103, [(0, .ref 15), (1, .int v), (2, .int parent), (3, .int elder)], [.int 0, .int O.2.2.2.2.2.2.2, .ref 22])) rfl ?_
          refine Ev7.iast rfl (by decide) (pu_n (by decide) (pu_n (by decide) (pu_n (by decide) (pu_n (by decide) (pu_n (by decide) (pu_n (by decide) xO.2.2.2.2.2.2.2)))))) v5 ?_
          refine Ev7.go 2 (s' := ((pu (pu (pu (pu (pu (pu (pu h 16 (eI 24 (upd O.1 v.toNatClampNeg O.2.2.2.2.2.2.2))) 17 (eI 24 (upd O.2.1 O.2.2.2.2.2.2.2.toNatClampNeg v))) 18 (eI 24 (upd O.2.2.1 O.2.2.2.2.2.2.2.toNatClampNeg parent))) 19 (eI 24 (upd O.2.2.2.1 O.2.2.2.2.2.2.2.toNatClampNeg elder))) 20 (eI 24 (upd O.2.2.2.2.1 O.2.2.2.2.2.2.2.toNatClampNeg (y8 + 1)))) 21 (eI 24 (upd O.2.2.2.2.2.1 O.2.2.2.2.2.2.2.toNatClampNeg 0))) 22 (eI 24 (upd O.2.2.2.2.2.2.1 O.2.2.2.2.2.2.2.toNatClampNeg 0))), 106, [(0, .ref 15), (1, .int v), (2, .int parent), (3, .int elder)], [.ref 15, .ref 15])) rfl ?_
          refine Ev7.get rfl (by decide) (pu_n (by decide) (pu_n (by decide) (pu_n (by decide) (pu_n (by decide) (pu_n (by decide) (pu_n (by decide) (pu_n (by decide) xO.1))))))) rfl ?_
          refine Ev7.go 2 (s' := ((pu (pu (pu (pu (pu (pu (pu h 16 (eI 24 (upd O.1 v.toNatClampNeg O.2.2.2.2.2.2.2))) 17 (eI 24 (upd O.2.1 O.2.2.2.2.2.2.2.toNatClampNeg v))) 18 (eI 24 (upd O.2.2.1 O.2.2.2.2.2.2.2.toNatClampNeg parent))) 19 (eI 24 (upd O.2.2.2.1 O.2.2.2.2.2.2.2.toNatClampNeg elder))) 20 (eI 24 (upd O.2.2.2.2.1 O.2.2.2.2.2.2.2.toNatClampNeg (y8 + 1)))) 21 (eI 24 (upd O.2.2.2.2.2.1 O.2.2.2.2.2.2.2.toNatClampNeg 0))) 22 (eI 24 (upd O.2.2.2.2.2.2.1 O.2.2.2.2.2.2.2.toNatClampNeg 0))), 111, [(0, .ref 15), (1, .int v), (2, .int parent), (3, .int elder)], [.int (O.2.2.2.2.2.2.2 + 1), .ref 15])) rfl ?_
          refine Ev7.put rfl rfl (by decide) (pu_n (by decide) (pu_n (by decide) (pu_n (by decide) (pu_n (by decide) (pu_n (by decide) (pu_n (by decide) (pu_n (by decide) xO.1))))))) (Nat.le_of_ble_eq_true rfl) rfl rfl (fs' := [.ref 16, .ref 17, .ref 18, .ref 19, .ref 20, .ref 21, .ref 22, .int (O.2.2.2.2.2.2.2 + 1)]) rfl ?_
          have H := Option.some.inj H
          subst H
          exact Ev7.ret rfl rfl rfl ⟨rfl, ⟨pu_s, (pu_n (by decide) (pu_n (by decide) (pu_n (by decide) (pu_n (by decide) (pu_n (by decide) (pu_n (by decide) (pu_n (by decide) pu_s))))))), (pu_n (by decide) (pu_n (by decide) (pu_n (by decide) (pu_n (by decide) (pu_n (by decide) (pu_n (by decide) pu_s)))))), (pu_n (by decide) (pu_n (by decide) (pu_n (by decide) (pu_n (by decide) (pu_n (by decide) pu_s))))), (pu_n (by decide) (pu_n (by decide) (pu_n (by decide) (pu_n (by decide) pu_s)))), (pu_n (by decide) (pu_n (by decide) (pu_n (by decide) pu_s))), (pu_n (by decide) (pu_n (by decide) pu_s)), (pu_n (by decide) pu_s)⟩, (fun k hk => by rw [pu_x (show k ≠ 15 from fun e => by have := hk; simp at this; omega)]; rw [pu_x (show k ≠ 22 from fun e => by have := hk; simp at this; omega)]; rw [pu_x (show k ≠ 21 from fun e => by have := hk; simp at this; omega)]; rw [pu_x (show k ≠ 20 from fun e => by have := hk; simp at this; omega)]; rw [pu_x (show k ≠ 19 from fun e => by have := hk; simp at this; omega)]; rw [pu_x (show k ≠ 18 from fun e => by have := hk; simp at this; omega)]; rw [pu_x (show k ≠ 17 from fun e => by have := hk; simp at this; omega)]; rw [pu_x (show k ≠ 16 from fun e => by have := hk; simp at this; omega)])⟩
        · have c6 : ¬ (0 ≤ parent) := c6
          rw [if_neg c6] at H
          refine Ev7.go 2 (s' := ((pu (pu (pu (pu h 16 (eI 24 (upd O.1 v.toNatClampNeg O.2.2.2.2.2.2.2))) 17 (eI 24 (upd O.2.1 O.2.2.2.2.2.2.2.toNatClampNeg v))) 18 (eI 24 (upd O.2.2.1 O.2.2.2.2.2.2.2.toNatClampNeg parent))) 19 (eI 24 (upd O.2.2.2.1 O.2.2.2.2.2.2.2.toNatClampNeg elder))), 83, [(0, .ref 15), (1, .int v), (2, .int parent), (3, .int elder)], [.int 0, .int O.2.2.2.2.2.2.2, .ref 20])) rfl ?_
          refine Ev7.iast rfl (by decide) (pu_n (by decide) (pu_n (by decide) (pu_n (by decide) (pu_n (by decide) xO.2.2.2.2.2.1)))) v5 ?_
          refine Ev7.go 1 (s' := ((pu (pu (pu (pu (pu h 16 (eI 24 (upd O.1 v.toNatClampNeg O.2.2.2.2.2.2.2))) 17 (eI 24 (upd O.2.1 O.2.2.2.2.2.2.2.toNatClampNeg v))) 18 (eI 24 (upd O.2.2.1 O.2.2.2.2.2.2.2.toNatClampNeg parent))) 19 (eI 24 (upd O.2.2.2.1 O.2.2.2.2.2.2.2.toNatClampNeg elder))) 20 (eI 24 (upd O.2.2.2.2.1 O.2.2.2.2.2.2.2.toNatClampNeg 0))), 85, [(0, .ref 15), (1, .int v), (2, .int parent), (3, .int elder)], [.ref 15])) rfl ?_
          refine Ev7.get rfl (by decide) (pu_n (by decide) (pu_n (by decide) (pu_n (by decide) (pu_n (by decide) (pu_n (by decide) xO.1))))) rfl ?_
          refine Ev7.go 1 (s' := ((pu (pu (pu (pu (pu h 16 (eI 24 (upd O.1 v.toNatClampNeg O.2.2.2.2.2.2.2))) 17 (eI 24 (upd O.2.1 O.2.2.2.2.2.2.2.toNatClampNeg v))) 18 (eI 24 (upd O.2.2.1 O.2.2.2.2.2.2.2.toNatClampNeg parent))) 19 (eI 24 (upd O.2.2.2.1 O.2.2.2.2.2.2.2.toNatClampNeg elder))) 20 (eI 24 (upd O.2.2.2.2.1 O.2.2.2.2.2.2.2.toNatClampNeg 0))), 89, [(0, .ref 15), (1, .int v), (2, .int parent), (3, .int elder)], [.ref 15, .ref 21])) rfl ?_
          refine Ev7.get rfl (by decide) (pu_n (by decide) (pu_n (by decide) (pu_n (by decide) (pu_n (by decide) (pu_n (by decide) xO.1))))) rfl ?_
          refine Ev7.go 1 (s' := ((pu (pu (pu (pu (pu h 16 (eI 24 (upd O.1 v.toNatClampNeg O.2.2.2.2.2.2.2))) 17 (eI 24 (upd O.2.1 O.2.2.2.2.2.2.2.toNatClampNeg v))) 18 (eI 24 (upd O.2.2.1 O.2.2.2.2.2.2.2.toNatClampNeg parent))) 19 (eI 24 (upd O.2.2.2.1 O.2.2.2.2.2.2.2.toNatClampNeg elder))) 20 (eI 24 (upd O.2.2.2.2.1 O.2.2.2.2.2.2.2.toNatClampNeg 0))), 93, [(0, .ref 15), (1, .int v), (2, .int parent), (3, .int elder)], [.int 0, .int O.2.2.2.2.2.2.2, .ref 21])) rfl ?_
          refine Ev7.iast rfl (by decide) (pu_n (by decide) (pu_n (by decide) (pu_n (by decide) (pu_n (by decide) (pu_n (by decide) xO.2.2.2.2.2.2.1))))) v5 ?_
          refine Ev7.go 1 (s' := ((pu (pu (pu (pu (pu (pu h 16 (eI 24 (upd O.1 v.toNatClampNeg O.2.2.2.2.2.2.2))) 17 (eI 24 (upd O.2.1 O.2.2.2.2.2.2.2.toNatClampNeg v))) 18 (eI 24 (upd O.2.2.1 O.2.2.2.2.2.2.2.toNatClampNeg parent))) 19 (eI 24 (upd O.2.2.2.1 O.2.2.2.2.2.2.2.toNatClampNeg elder))) 20 (eI 24 (upd O.2.2.2.2.1 O.2.2.2.2.2.2.2.toNatClampNeg 0))) 21 (eI 24 (upd O.2.2.2.2.2.1 O.2.2.2.2.2.2.2.toNatClampNeg 0))), 95, [(0, .ref 15), (1, .int v), (2, .int parent), (3, .int elder)], [.ref 15])) rfl ?_
          refine Ev7.get rfl (by decide) (pu_n (by decide) (pu_n (by decide) (pu_n (by decide) (pu_n (by decide) (pu_n (by decide) (pu_n (by decide) xO.1)))))) rfl ?_
          refine Ev7.go 1 (s' := ((pu (pu (pu (pu (pu (pu h 16 (eI 24 (upd O.1 v.toNatClampNeg O.2.2.2.2.2.2.2))) 17 (eI 24 (upd O.2.1 O.2.2.2.2.2.2.2.toNatClampNeg v))) 18 (eI 24 (upd O.2.2.1 O.2.2.2.2.2.2.2.toNatClampNeg parent))) 19 (eI 24 (upd O.2.2.2.1 O.2.2.2.2.2.2.2.toNatClampNeg elder))) 20 (eI 24 (upd O.2.2.2.2.1 O.2.2.2.2.2.2.2.toNatClampNeg 0))) 21 (eI 24 (upd O.2.2.2.2.2.1 O.2.2.2.2.2.2.2.toNatClampNeg 0))), 99, [(0, .ref 15), (1, .int v), (2, .int parent), (3, .int elder)], [.ref 15, .ref 22])) rfl ?_
          refine Ev7.get rfl (by decide) (pu_n (by decide) (pu_n (by decide) (pu_n (by decide) (pu_n (by decide) (pu_n (by decide) (pu_n (by decide) xO.1)))))) rfl ?_
          refine Ev7.go 1 (s' := ((pu (pu (pu (pu (pu (pu h 16 (eI 24 (upd O.1 v.toNatClampNeg O.2.2.2.2.2.2.2))) 17 (eI 24 (upd O.2.1 O.2.2.2.2.2.2.2.toNatClampNeg v))) 18 (eI 24 (upd O.2.2.1 O.2.2.2.2.2.2.2.toNatClampNeg parent))) 19 (eI 24 (upd O.2.2.2.1 O.2.2.2.2.2.2.2.toNatClampNeg elder))) 20 (eI 24 (upd O.2.2.2.2.1 O.2.2.2.2.2.2.2.toNatClampNeg 0))) 21 (eI 24 (upd O.2.2.2.2.2.1 O.2.2.2.2.2.2.2.toNatClampNeg 0))), 103, [(0, .ref 15), (1, .int v), (2, .int parent), (3, .int elder)], [.int 0, .int O.2.2.2.2.2.2.2, .ref 22])) rfl ?_
          refine Ev7.iast rfl (by decide) (pu_n (by decide) (pu_n (by decide) (pu_n (by decide) (pu_n (by decide) (pu_n (by decide) (pu_n (by decide) xO.2.2.2.2.2.2.2)))))) v5 ?_
          refine Ev7.go 2 (s' := ((pu (pu (pu (pu (pu (pu (pu h 16 (eI 24 (upd O.1 v.toNatClampNeg O.2.2.2.2.2.2.2))) 17 (eI 24 (upd O.2.1 O.2.2.2.2.2.2.2.toNatClampNeg v))) 18 (eI 24 (upd O.2.2.1 O.2.2.2.2.2.2.2.toNatClampNeg parent))) 19 (eI 24 (upd O.2.2.2.1 O.2.2.2.2.2.2.2.toNatClampNeg elder))) 20 (eI 24 (upd O.2.2.2.2.1 O.2.2.2.2.2.2.2.toNatClampNeg 0))) 21 (eI 24 (upd O.2.2.2.2.2.1 O.2.2.2.2.2.2.2.toNatClampNeg 0))) 22 (eI 24 (upd O.2.2.2.2.2.2.1 O.2.2.2.2.2.2.2.toNatClampNeg 0))), 106, [(0, .ref 15), (1, .int v), (2, .int parent), (3, .int elder)], [.ref 15, .ref 15])) rfl ?_
          refine Ev7.get rfl (by decide) (pu_n (by decide) (pu_n (by decide) (pu_n (by decide) (pu_n (by decide) (pu_n (by decide) (pu_n (by decide) (pu_n (by decide) xO.1))))))) rfl ?_
          refine Ev7.go 2 (s' := ((pu (pu (pu (pu (pu (pu (pu h 16 (eI 24 (upd O.1 v.toNatClampNeg O.2.2.2.2.2.2.2))) 17 (eI 24 (upd O.2.1 O.2.2.2.2.2.2.2.toNatClampNeg v))) 18 (eI 24 (upd O.2.2.1 O.2.2.2.2.2.2.2.toNatClampNeg parent))) 19 (eI 24 (upd O.2.2.2.1 O.2.2.2.2.2.2.2.toNatClampNeg elder))) 20 (eI 24 (upd O.2.2.2.2.1 O.2.2.2.2.2.2.2.toNatClampNeg 0))) 21 (eI 24 (upd O.2.2.2.2.2.1 O.2.2.2.2.2.2.2.toNatClampNeg 0))) 22 (eI 24 (upd O.2.2.2.2.2.2.1 O.2.2.2.2.2.2.2.toNatClampNeg 0))), 111, [(0, .ref 15), (1, .int v), (2, .int parent), (3, .int elder)], [.int (O.2.2.2.2.2.2.2 + 1), .ref 15])) rfl ?_
          refine Ev7.put rfl rfl (by decide) (pu_n (by decide) (pu_n (by decide) (pu_n (by decide) (pu_n (by decide) (pu_n (by decide) (pu_n (by decide) (pu_n (by decide) xO.1))))))) (Nat.le_of_ble_eq_true rfl) rfl rfl (fs' := [.ref 16, .ref 17, .ref 18, .ref 19, .ref 20, .ref 21, .ref 22, .int (O.2.2.2.2.2.2.2 + 1)]) rfl ?_
          have H := Option.some.inj H
          subst H
          exact Ev7.ret rfl rfl rfl ⟨rfl, ⟨pu_s, (pu_n (by decide) (pu_n (by decide) (pu_n (by decide) (pu_n (by decide) (pu_n (by decide) (pu_n (by decide) (pu_n (by decide) pu_s))))))), (pu_n (by decide) (pu_n (by decide) (pu_n (by decide) (pu_n (by decide) (pu_n (by decide) (pu_n (by decide) pu_s)))))), (pu_n (by decide) (pu_n (by decide) (pu_n (by decide) (pu_n (by decide) (pu_n (by decide) pu_s))))), (pu_n (by decide) (pu_n (by decide) (pu_n (by decide) (pu_n (by decide) pu_s)))), (pu_n (by decide) (pu_n (by decide) (pu_n (by decide) pu_s))), (pu_n (by decide) (pu_n (by decide) pu_s)), (pu_n (by decide) pu_s)⟩, (fun k hk => by rw [pu_x (show k ≠ 15 from fun e => by have := hk; simp at this; omega)]; rw [pu_x (show k ≠ 22 from fun e => by have := hk; simp at this; omega)]; rw [pu_x (show k ≠ 21 from fun e => by have := hk; simp at this; omega)]; rw [pu_x (show k ≠ 20 from fun e => by have := hk; simp at this; omega)]; rw [pu_x (show k ≠ 19 from fun e => by have := hk; simp at this; omega)]; rw [pu_x (show k ≠ 18 from fun e => by have := hk; simp at this; omega)]; rw [pu_x (show k ≠ 17 from fun e => by have := hk; simp at this; omega)]; rw [pu_x (show k ≠ 16 from fun e => by have := hk; simp at this; omega)])⟩
      · have c3 : ¬ (v < 24) := c3
        rw [if_neg c3] at H
        have H := Option.some.inj H
        subst H
        exact Ev7.ret rfl rfl rfl ⟨rfl, xO, (fun k _ => rfl)⟩
theorem llX3_takeFollower_297 {d n : Nat} {T : tT} : ∀ (m : Nat) (h : pH) (x4 : Int32) (x5 : Int32) (O : tO) (res : tO), lX3_takeFollower_29 n T m x4 x5 O = some res → isT7 h 7 T → isO h O → Ev7 (d + 3) mX3_takeFollower (h, 29, [(0, .ref 15), (1, .ref 7), (4, .int x4), (5, .int x5)], []) (fun r h1 => r = none ∧ isO h1 res ∧ fr [(15, 23)] h h1)
  | 0, h, x4, x5, O, res, H, _, _ => by cases H
  | m + 1, h, x4, x5, O, res, H, xT, xO => by
    have H : (if 24 ≤ x5 then some O else (if x4 ≤ 0 then some O else ((fX3_parentAt O x4).bind fun y14 => ((fX3_nodeAt O y14).bind fun y16 => ((fX3_nodeAt O x4).bind fun y18 => ((fX7_nextKid n T y16 (fX7_spotOf T y18)).bind fun y20 => (if y20 < 0 then lX3_takeFollower_29 n T m y14 (x5 + 1) O else ((fX3_take O y20 y14 x4).bind fun y23 => some y23)))))))) = some res := H
    refine Ev7.go 2 (s' := (h, 33, [(0, .ref 15), (1, .ref 7), (4, .int x4), (5, .int x5)], [.int 24, .int x5])) rfl ?_
    refine Ev7.if2 rfl (fun c11 => ?_) (fun c11 => ?_)
    · have c11 : 24 ≤ x5 := c11
      rw [if_pos c11] at H
      have H := Option.some.inj H
      subst H
      exact Ev7.ret rfl rfl rfl ⟨rfl, xO, (fun k _ => rfl)⟩
    · have c11 : ¬ (24 ≤ x5) := c11
      rw [if_neg c11] at H
      refine Ev7.go 1 (s' := (h, 38, [(0, .ref 15), (1, .ref 7), (4, .int x4), (5, .int x5)], [.int x4])) rfl ?_
      refine Ev7.if1 rfl (fun c12 => ?_) (fun c12 => ?_)
      · have c12 : x4 ≤ 0 := c12
        rw [if_pos c12] at H
        have H := Option.some.inj H
        subst H
        exact Ev7.ret rfl rfl rfl ⟨rfl, xO, (fun k _ => rfl)⟩
      · have c12 : ¬ (x4 ≤ 0) := c12
        rw [if_neg c12] at H
        refine Ev7.go 2 (s' := (h, 44, [(0, .ref 15), (1, .ref 7), (4, .int x4), (5, .int x5)], [.int x4, .ref 15])) rfl ?_
        obtain ⟨y14, e13, H⟩ := Option.bind_eq_some_iff.mp H
        refine Ev7.callE rfl rfl rfl (p_argsV7 (by decide) xO.1 (Nat.le_of_ble_eq_true rfl)) rfl (Nat.le_of_ble_eq_true rfl) (spX3_parentAt7 xO x4 e13) ?_
        refine Ev7.go 4 (s' := (h, 53, [(0, .ref 15), (1, .ref 7), (4, .int x4), (5, .int x5), (6, .int y14)], [.int y14, .ref 15, .ref 7])) rfl ?_
        obtain ⟨y16, e15, H⟩ := Option.bind_eq_some_iff.mp H
        refine Ev7.callE rfl rfl rfl (p_argsV7 (by decide) xO.1 (Nat.le_of_ble_eq_true rfl)) rfl (Nat.le_of_ble_eq_true rfl) (spX3_nodeAt7 xO y14 e15) ?_
        refine Ev7.go 3 (s' := (h, 60, [(0, .ref 15), (1, .ref 7), (4, .int x4), (5, .int x5), (6, .int y14)], [.int x4, .ref 15, .ref 7, .int y16, .ref 7])) rfl ?_
        obtain ⟨y18, e17, H⟩ := Option.bind_eq_some_iff.mp H
        refine Ev7.callE rfl rfl rfl (p_argsV7 (by decide) xO.1 (Nat.le_of_ble_eq_true rfl)) rfl (Nat.le_of_ble_eq_true rfl) (spX3_nodeAt7 xO x4 e17) ?_
        refine Ev7.callE rfl rfl rfl (p_argsV7 (by decide) xT.1 (Nat.le_of_ble_eq_true rfl)) rfl (Nat.le_of_ble_eq_true rfl) (spX7_spotOf7 xT y18) ?_
        obtain ⟨y20, e19, H⟩ := Option.bind_eq_some_iff.mp H
        refine Ev7.callE rfl rfl rfl (p_argsV7 (by decide) xT.1 (Nat.le_of_ble_eq_true rfl)) rfl (Nat.le_of_ble_eq_true rfl) (spX7_nextKid7 xT y16 (fX7_spotOf T y18) e19) ?_
        refine Ev7.go 2 (s' := (h, 73, [(0, .ref 15), (1, .ref 7), (4, .int x4), (5, .int x5), (6, .int y14), (7, .int y20)], [.int y20])) rfl ?_
        refine Ev7.if1 rfl (fun c21 => ?_) (fun c21 => ?_)
        · have c21 : y20 < 0 := c21
          rw [if_pos c21] at H
          refine Ev7.go 4 (s' := (h, 29, [(0, .ref 15), (1, .ref 7), (4, .int y14), (5, .int (x5 + 1)), (6, .int y14), (7, .int y20)], [])) rfl ?_
          refine Ev7.live rfl (lv' := [(0, .ref 15), (1, .ref 7), (4, .int y14), (5, .int (x5 + 1))]) rfl ?_
          exact llX3_takeFollower_297 m h y14 (x5 + 1) O _ H xT xO
        · have c21 : ¬ (y20 < 0) := c21
          rw [if_neg c21] at H
          refine Ev7.go 4 (s' := (h, 83, [(0, .ref 15), (1, .ref 7), (4, .int x4), (5, .int x5), (6, .int y14), (7, .int y20)], [.int x4, .int y14, .int y20, .ref 15])) rfl ?_
          obtain ⟨y23, e22, H⟩ := Option.bind_eq_some_iff.mp H
          refine Ev7.call rfl rfl rfl (p_argsV7 (by decide) xO.1 (Nat.le_of_ble_eq_true rfl)) rfl (Nat.le_of_ble_eq_true rfl) ((spX3_take7 xO y20 y14 x4 e22).mono (fun r h24 q25 => ?_))
          obtain ⟨rfl, q25_O, q25_f⟩ := q25
          have i26 : isT7 h24 7 T := isT7.fr q25_f (fr1 (by omega)) xT
          have H := Option.some.inj H
          subst H
          exact Ev7.ret rfl rfl rfl ⟨rfl, q25_O, (fun k hk => by rw [q25_f k (by have := hk; simp at this ⊢; omega)])⟩
theorem spX3_takeFollower7 {d n : Nat} {h : pH} {O : tO} {T : tT} (xO : isO h O) (xT : isT7 h 7 T) (rank : Int32) {res : tO} (H : fX3_takeFollower n O T rank = some res) : Ev7 (d + 3) mX3_takeFollower (h, 0, [(0, .ref 15), (1, .ref 7), (2, .int rank)], []) (fun r h1 => r = none ∧ isO h1 res ∧ fr [(15, 23)] h h1) := by
  unfold fX3_takeFollower at H
  refine Ev7.go 3 (s' := (h, 3, [(0, .ref 15), (1, .ref 7), (2, .int rank)], [.int rank, .ref 15, .ref 7])) rfl ?_
  obtain ⟨y2, e1, H⟩ := Option.bind_eq_some_iff.mp H
  refine Ev7.callE rfl rfl rfl (p_argsV7 (by decide) xO.1 (Nat.le_of_ble_eq_true rfl)) rfl (Nat.le_of_ble_eq_true rfl) (spX3_nodeAt7 xO rank e1) ?_
  refine Ev7.go 1 (s' := (h, 7, [(0, .ref 15), (1, .ref 7), (2, .int rank)], [.int 0, .int y2, .ref 7])) rfl ?_
  obtain ⟨y4, e3, H⟩ := Option.bind_eq_some_iff.mp H
  refine Ev7.callE rfl rfl rfl (p_argsV7 (by decide) xT.1 (Nat.le_of_ble_eq_true rfl)) rfl (Nat.le_of_ble_eq_true rfl) (spX7_nextKid7 xT y2 0 e3) ?_
  refine Ev7.go 2 (s' := (h, 12, [(0, .ref 15), (1, .ref 7), (2, .int rank), (3, .int y4)], [.int y4])) rfl ?_
  refine Ev7.if1 rfl (fun c5 => ?_) (fun c5 => ?_)
  · have c5 : y4 < 0 := c5
    rw [if_pos c5] at H
    refine Ev7.go 4 (s' := (h, 29, [(0, .ref 15), (1, .ref 7), (2, .int rank), (3, .int y4), (4, .int rank), (5, .int 0)], [])) rfl ?_
    refine Ev7.live rfl (lv' := [(0, .ref 15), (1, .ref 7), (4, .int rank), (5, .int 0)]) rfl ?_
    exact llX3_takeFollower_297 n h rank 0 O _ H xT xO
  · have c5 : ¬ (y4 < 0) := c5
    rw [if_neg c5] at H
    refine Ev7.go 4 (s' := (h, 19, [(0, .ref 15), (1, .ref 7), (2, .int rank), (3, .int y4)], [.int ((-1)), .int rank, .int y4, .ref 15])) rfl ?_
    obtain ⟨y7, e6, H⟩ := Option.bind_eq_some_iff.mp H
    refine Ev7.call rfl rfl rfl (p_argsV7 (by decide) xO.1 (Nat.le_of_ble_eq_true rfl)) rfl (Nat.le_of_ble_eq_true rfl) ((spX3_take7 xO y4 rank (-1) e6).mono (fun r h8 q9 => ?_))
    obtain ⟨rfl, q9_O, q9_f⟩ := q9
    have i10 : isT7 h8 7 T := isT7.fr q9_f (fr1 (by omega)) xT
    have H := Option.some.inj H
    subst H
    exact Ev7.ret rfl rfl rfl ⟨rfl, q9_O, (fun k hk => by rw [q9_f k (by have := hk; simp at this ⊢; omega)])⟩
theorem llX3_read_557 {d n : Nat} {T : tT} : ∀ (m : Nat) (h : pH) (x2 : Int32) (O : tO) (res : tO), lX3_read_55 n T m x2 O = some res → isT7 h 7 T → isO h O → Ev7 (d + 4) mX3_read (h, 55, [(0, .ref 15), (2, .int x2)], []) (fun r h1 => r = none ∧ isO h1 res ∧ fr [(15, 23)] h h1)
  | 0, h, x2, O, res, H, _, _ => by cases H
  | m + 1, h, x2, O, res, H, xT, xO => by
    have H : (if x2 ≤ 0 then some O else (if x2 < 0 ∨ 24 ≤ x2.toNatClampNeg then none else (if (fX3_isRank O (O.2.2.1 x2.toNatClampNeg)) = 0 then lX3_read_55 n T m (x2 + (-1)) O else (if (O.2.2.1 x2.toNatClampNeg) < 0 ∨ 24 ≤ (O.2.2.1 x2.toNatClampNeg).toNatClampNeg then none else lX3_read_55 n T m (x2 + (-1)) (O.1, O.2.1, O.2.2.1, O.2.2.2.1, O.2.2.2.2.1, upd O.2.2.2.2.2.1 (O.2.2.1 x2.toNatClampNeg).toNatClampNeg ((O.2.2.2.2.2.1 (O.2.2.1 x2.toNatClampNeg).toNatClampNeg) + 1), upd O.2.2.2.2.2.2.1 (O.2.2.1 x2.toNatClampNeg).toNatClampNeg ((O.2.2.2.2.2.2.1 (O.2.2.1 x2.toNatClampNeg).toNatClampNeg) + ((O.2.2.2.2.2.2.1 x2.toNatClampNeg) + 1)), O.2.2.2.2.2.2.2))))) = some res := H
    refine Ev7.go 1 (s' := (h, 56, [(0, .ref 15), (2, .int x2)], [.int x2])) rfl ?_
    refine Ev7.if1 rfl (fun c14 => ?_) (fun c14 => ?_)
    · have c14 : x2 ≤ 0 := c14
      rw [if_pos c14] at H
      have H := Option.some.inj H
      subst H
      exact Ev7.ret rfl rfl rfl ⟨rfl, xO, (fun k _ => rfl)⟩
    · have c14 : ¬ (x2 ≤ 0) := c14
      rw [if_neg c14] at H
      refine Ev7.go 1 (s' := (h, 60, [(0, .ref 15), (2, .int x2)], [.ref 15])) rfl ?_
      refine Ev7.get rfl (by decide) xO.1 rfl ?_
      refine Ev7.go 1 (s' := (h, 64, [(0, .ref 15), (2, .int x2)], [.int x2, .ref 18])) rfl ?_
      have v15 : vp_in x2 24 := fun q => by rw [if_pos q] at H; cases H
      rw [if_neg v15] at H
      refine Ev7.iald rfl (by decide) xO.2.2.2.1 v15 ?_
      refine Ev7.go 3 (s' := (h, 68, [(0, .ref 15), (2, .int x2), (3, .int (O.2.2.1 x2.toNatClampNeg))], [.int (O.2.2.1 x2.toNatClampNeg), .ref 15])) rfl ?_
      refine Ev7.callE rfl rfl rfl (p_argsV7 (by decide) xO.1 (Nat.le_of_ble_eq_true rfl)) rfl (Nat.le_of_ble_eq_true rfl) (spX3_isRank7 xO (O.2.2.1 x2.toNatClampNeg)) ?_
      refine Ev7.if1 rfl (fun c16 => ?_) (fun c16 => ?_)
      · have c16 : (fX3_isRank O (O.2.2.1 x2.toNatClampNeg)) = 0 := c16
        rw [if_pos c16] at H
        refine Ev7.go 2 (s' := (h, 55, [(0, .ref 15), (2, .int (x2 + (-1))), (3, .int (O.2.2.1 x2.toNatClampNeg))], [])) rfl ?_
        refine Ev7.live rfl (lv' := [(0, .ref 15), (2, .int (x2 + (-1)))]) rfl ?_
        exact llX3_read_557 m h (x2 + (-1)) O _ H xT xO
      · have c16 : ¬ ((fX3_isRank O (O.2.2.1 x2.toNatClampNeg)) = 0) := c16
        rw [if_neg c16] at H
        refine Ev7.go 1 (s' := (h, 75, [(0, .ref 15), (2, .int x2), (3, .int (O.2.2.1 x2.toNatClampNeg))], [.ref 15])) rfl ?_
        refine Ev7.get rfl (by decide) xO.1 rfl ?_
        refine Ev7.go 2 (s' := (h, 80, [(0, .ref 15), (2, .int x2), (3, .int (O.2.2.1 x2.toNatClampNeg))], [.int (O.2.2.1 x2.toNatClampNeg), .ref 21, .int (O.2.2.1 x2.toNatClampNeg), .ref 21])) rfl ?_
        have v17 : vp_in (O.2.2.1 x2.toNatClampNeg) 24 := fun q => by rw [if_pos q] at H; cases H
        rw [if_neg v17] at H
        refine Ev7.iald rfl (by decide) xO.2.2.2.2.2.2.1 v17 ?_
        refine Ev7.go 2 (s' := (h, 83, [(0, .ref 15), (2, .int x2), (3, .int (O.2.2.1 x2.toNatClampNeg))], [.int ((O.2.2.2.2.2.1 (O.2.2.1 x2.toNatClampNeg).toNatClampNeg) + 1), .int (O.2.2.1 x2.toNatClampNeg), .ref 21])) rfl ?_
        refine Ev7.iast rfl (by decide) xO.2.2.2.2.2.2.1 v17 ?_
        refine Ev7.go 1 (s' := ((pu h 21 (eI 24 (upd O.2.2.2.2.2.1 (O.2.2.1 x2.toNatClampNeg).toNatClampNeg ((O.2.2.2.2.2.1 (O.2.2.1 x2.toNatClampNeg).toNatClampNeg) + 1)))), 85, [(0, .ref 15), (2, .int x2), (3, .int (O.2.2.1 x2.toNatClampNeg))], [.ref 15])) rfl ?_
        refine Ev7.get rfl (by decide) (pu_n (by decide) xO.1) rfl ?_
        refine Ev7.go 2 (s' := ((pu h 21 (eI 24 (upd O.2.2.2.2.2.1 (O.2.2.1 x2.toNatClampNeg).toNatClampNeg ((O.2.2.2.2.2.1 (O.2.2.1 x2.toNatClampNeg).toNatClampNeg) + 1)))), 90, [(0, .ref 15), (2, .int x2), (3, .int (O.2.2.1 x2.toNatClampNeg))], [.int (O.2.2.1 x2.toNatClampNeg), .ref 22, .int (O.2.2.1 x2.toNatClampNeg), .ref 22])) rfl ?_
        refine Ev7.iald rfl (by decide) (pu_n (by decide) xO.2.2.2.2.2.2.2) v17 ?_
        refine Ev7.go 1 (s' := ((pu h 21 (eI 24 (upd O.2.2.2.2.2.1 (O.2.2.1 x2.toNatClampNeg).toNatClampNeg ((O.2.2.2.2.2.1 (O.2.2.1 x2.toNatClampNeg).toNatClampNeg) + 1)))), 92, [(0, .ref 15), (2, .int x2), (3, .int (O.2.2.1 x2.toNatClampNeg))], [.ref 15, .int (O.2.2.2.2.2.2.1 (O.2.2.1 x2.toNatClampNeg).toNatClampNeg), .int (O.2.2.1 x2.toNatClampNeg), .ref 22])) rfl ?_
        refine Ev7.get rfl (by decide) (pu_n (by decide) xO.1) rfl ?_
        refine Ev7.go 1 (s' := ((pu h 21 (eI 24 (upd O.2.2.2.2.2.1 (O.2.2.1 x2.toNatClampNeg).toNatClampNeg ((O.2.2.2.2.2.1 (O.2.2.1 x2.toNatClampNeg).toNatClampNeg) + 1)))), 96, [(0, .ref 15), (2, .int x2), (3, .int (O.2.2.1 x2.toNatClampNeg))], [.int x2, .ref 22, .int (O.2.2.2.2.2.2.1 (O.2.2.1 x2.toNatClampNeg).toNatClampNeg), .int (O.2.2.1 x2.toNatClampNeg), .ref 22])) rfl ?_
        refine Ev7.iald rfl (by decide) (pu_n (by decide) xO.2.2.2.2.2.2.2) v15 ?_
        refine Ev7.go 3 (s' := ((pu h 21 (eI 24 (upd O.2.2.2.2.2.1 (O.2.2.1 x2.toNatClampNeg).toNatClampNeg ((O.2.2.2.2.2.1 (O.2.2.1 x2.toNatClampNeg).toNatClampNeg) + 1)))), 100, [(0, .ref 15), (2, .int x2), (3, .int (O.2.2.1 x2.toNatClampNeg))], [.int ((O.2.2.2.2.2.2.1 (O.2.2.1 x2.toNatClampNeg).toNatClampNeg) + ((O.2.2.2.2.2.2.1 x2.toNatClampNeg) + 1)), .int (O.2.2.1 x2.toNatClampNeg), .ref 22])) rfl ?_
        refine Ev7.iast rfl (by decide) (pu_n (by decide) xO.2.2.2.2.2.2.2) v17 ?_
        refine Ev7.go 2 (s' := ((pu (pu h 21 (eI 24 (upd O.2.2.2.2.2.1 (O.2.2.1 x2.toNatClampNeg).toNatClampNeg ((O.2.2.2.2.2.1 (O.2.2.1 x2.toNatClampNeg).toNatClampNeg) + 1)))) 22 (eI 24 (upd O.2.2.2.2.2.2.1 (O.2.2.1 x2.toNatClampNeg).toNatClampNeg ((O.2.2.2.2.2.2.1 (O.2.2.1 x2.toNatClampNeg).toNatClampNeg) + ((O.2.2.2.2.2.2.1 x2.toNatClampNeg) + 1))))), 55, [(0, .ref 15), (2, .int (x2 + (-1))), (3, .int (O.2.2.1 x2.toNatClampNeg))], [])) rfl ?_
        refine Ev7.live rfl (lv' := [(0, .ref 15), (2, .int (x2 + (-1)))]) rfl ?_
        refine (llX3_read_557 m (pu (pu h 21 (eI 24 (upd O.2.2.2.2.2.1 (O.2.2.1 x2.toNatClampNeg).toNatClampNeg ((O.2.2.2.2.2.1 (O.2.2.1 x2.toNatClampNeg).toNatClampNeg) + 1)))) 22 (eI 24 (upd O.2.2.2.2.2.2.1 (O.2.2.1 x2.toNatClampNeg).toNatClampNeg ((O.2.2.2.2.2.2.1 (O.2.2.1 x2.toNatClampNeg).toNatClampNeg) + ((O.2.2.2.2.2.2.1 x2.toNatClampNeg) + 1))))) (x2 + (-1)) (O.1, O.2.1, O.2.2.1, O.2.2.2.1, O.2.2.2.2.1, upd O.2.2.2.2.2.1 (O.2.2.1 x2.toNatClampNeg).toNatClampNeg ((O.2.2.2.2.2.1 (O.2.2.1 x2.toNatClampNeg).toNatClampNeg) + 1), upd O.2.2.2.2.2.2.1 (O.2.2.1 x2.toNatClampNeg).toNatClampNeg ((O.2.2.2.2.2.2.1 (O.2.2.1 x2.toNatClampNeg).toNatClampNeg) + ((O.2.2.2.2.2.2.1 x2.toNatClampNeg) + 1)), O.2.2.2.2.2.2.2) _ H ⟨(pu_n (by decide) (pu_n (by decide) xT.1)), (pu_n (by decide) (pu_n (by decide) xT.2.1)), (pu_n (by decide) (pu_n (by decide) xT.2.2.1)), (pu_n (by decide) (pu_n (by decide) xT.2.2.2.1)), (by decide)⟩ ⟨(pu_n (by decide) (pu_n (by decide) xO.1)), (pu_n (by decide) (pu_n (by decide) xO.2.1)), (pu_n (by decide) (pu_n (by decide) xO.2.2.1)), (pu_n (by decide) (pu_n (by decide) xO.2.2.2.1)), (pu_n (by decide) (pu_n (by decide) xO.2.2.2.2.1)), (pu_n (by decide) (pu_n (by decide) xO.2.2.2.2.2.1)), (pu_n (by decide) pu_s), pu_s⟩).mono (fun r h9 q9 => ?_)
        obtain ⟨q9r, q9_0, q9f⟩ := q9
        exact ⟨q9r, q9_0, fun k hk => (q9f k hk).trans (by rw [pu_x (show k ≠ 22 from fun e => by have := hk; simp at this; omega)]; rw [pu_x (show k ≠ 21 from fun e => by have := hk; simp at this; omega)])⟩
theorem llX3_read_227 {d n : Nat} {T : tT} : ∀ (m : Nat) (h : pH) (x2 : Int32) (O : tO) (res : tO), lX3_read_22 n T m x2 O = some res → isT7 h 7 T → isO h O → Ev7 (d + 4) mX3_read (h, 22, [(0, .ref 15), (1, .ref 7), (2, .int x2)], []) (fun r h1 => r = none ∧ isO h1 res ∧ fr [(15, 23)] h h1)
  | 0, h, x2, O, res, H, _, _ => by cases H
  | m + 1, h, x2, O, res, H, xT, xO => by
    have H : (if O.2.2.2.2.2.2.2 ≤ x2 then lX3_read_55 n T n (O.2.2.2.2.2.2.2 - 1) O else (if 24 ≤ x2 then lX3_read_55 n T n (O.2.2.2.2.2.2.2 - 1) O else ((fX3_takeFollower n O T x2).bind fun y10 => lX3_read_22 n T m (x2 + 1) y10))) = some res := H
    refine Ev7.go 2 (s' := (h, 24, [(0, .ref 15), (1, .ref 7), (2, .int x2)], [.ref 15, .int x2])) rfl ?_
    refine Ev7.get rfl (by decide) xO.1 rfl ?_
    refine Ev7.if2 rfl (fun c7 => ?_) (fun c7 => ?_)
    · have c7 : O.2.2.2.2.2.2.2 ≤ x2 := c7
      rw [if_pos c7] at H
      refine Ev7.go 1 (s' := (h, 49, [(0, .ref 15), (1, .ref 7), (2, .int x2)], [.ref 15])) rfl ?_
      refine Ev7.get rfl (by decide) xO.1 rfl ?_
      refine Ev7.go 3 (s' := (h, 55, [(0, .ref 15), (1, .ref 7), (2, .int (O.2.2.2.2.2.2.2 - 1))], [])) rfl ?_
      refine Ev7.live rfl (lv' := [(0, .ref 15), (2, .int (O.2.2.2.2.2.2.2 - 1))]) rfl ?_
      exact llX3_read_557 n h (O.2.2.2.2.2.2.2 - 1) O _ H xT xO
    · have c7 : ¬ (O.2.2.2.2.2.2.2 ≤ x2) := c7
      rw [if_neg c7] at H
      refine Ev7.go 2 (s' := (h, 33, [(0, .ref 15), (1, .ref 7), (2, .int x2)], [.int 24, .int x2])) rfl ?_
      refine Ev7.if2 rfl (fun c8 => ?_) (fun c8 => ?_)
      · have c8 : 24 ≤ x2 := c8
        rw [if_pos c8] at H
        refine Ev7.go 1 (s' := (h, 49, [(0, .ref 15), (1, .ref 7), (2, .int x2)], [.ref 15])) rfl ?_
        refine Ev7.get rfl (by decide) xO.1 rfl ?_
        refine Ev7.go 3 (s' := (h, 55, [(0, .ref 15), (1, .ref 7), (2, .int (O.2.2.2.2.2.2.2 - 1))], [])) rfl ?_
        refine Ev7.live rfl (lv' := [(0, .ref 15), (2, .int (O.2.2.2.2.2.2.2 - 1))]) rfl ?_
        exact llX3_read_557 n h (O.2.2.2.2.2.2.2 - 1) O _ H xT xO
      · have c8 : ¬ (24 ≤ x2) := c8
        rw [if_neg c8] at H
        refine Ev7.go 3 (s' := (h, 39, [(0, .ref 15), (1, .ref 7), (2, .int x2)], [.int x2, .ref 7, .ref 15])) rfl ?_
        obtain ⟨y10, e9, H⟩ := Option.bind_eq_some_iff.mp H
        refine Ev7.call rfl rfl rfl (p_argsV7 (by decide) xO.1 (Nat.le_of_ble_eq_true rfl)) rfl (Nat.le_of_ble_eq_true rfl) ((spX3_takeFollower7 xO xT x2 e9).mono (fun r h11 q12 => ?_))
        obtain ⟨rfl, q12_O, q12_f⟩ := q12
        have i13 : isT7 h11 7 T := isT7.fr q12_f (fr1 (by omega)) xT
        refine Ev7.go 2 (s' := (h11, 22, [(0, .ref 15), (1, .ref 7), (2, .int (x2 + 1))], [])) rfl ?_
        refine Ev7.live rfl (lv' := [(0, .ref 15), (1, .ref 7), (2, .int (x2 + 1))]) rfl ?_
        refine (llX3_read_227 m h11 (x2 + 1) y10 _ H i13 q12_O).mono (fun r h9 q9 => ?_)
        obtain ⟨q9r, q9_0, q9f⟩ := q9
        exact ⟨q9r, q9_0, fun k hk => (q9f k hk).trans (by rw [q12_f k (by have := hk; simp at this ⊢; omega)])⟩
theorem spX3_read7 {d n : Nat} {h : pH} {O : tO} {T : tT} (xO : isO h O) (xT : isT7 h 7 T) {res : tO} (H : fX3_read n O T = some res) : Ev7 (d + 4) mX3_read (h, 0, [(0, .ref 15), (1, .ref 7)], []) (fun r h1 => r = none ∧ isO h1 res ∧ fr [(15, 23)] h h1) := by
  unfold fX3_read at H
  refine Ev7.go 2 (s' := (h, 2, [(0, .ref 15), (1, .ref 7)], [.int 0, .ref 15])) rfl ?_
  refine Ev7.put rfl rfl (by decide) xO.1 (Nat.le_of_ble_eq_true rfl) rfl rfl (fs' := [.ref 16, .ref 17, .ref 18, .ref 19, .ref 20, .ref 21, .ref 22, .int 0]) rfl ?_
  refine Ev7.go 2 (s' := ((pu h 15 (eO 2 [.ref 16, .ref 17, .ref 18, .ref 19, .ref 20, .ref 21, .ref 22, .int 0])), 7, [(0, .ref 15), (1, .ref 7)], [.int 0, .ref 7])) rfl ?_
  refine Ev7.callE rfl rfl rfl (p_argsV7 (by decide) (pu_n (by decide) xT.1) (Nat.le_of_ble_eq_true rfl)) rfl (Nat.le_of_ble_eq_true rfl) (spX7_isThere7 (h := (pu h 15 (eO 2 [.ref 16, .ref 17, .ref 18, .ref 19, .ref 20, .ref 21, .ref 22, .int 0]))) (T := T) ⟨(pu_n (by decide) xT.1), (pu_n (by decide) xT.2.1), (pu_n (by decide) xT.2.2.1), (pu_n (by decide) xT.2.2.2.1), (by decide)⟩ 0) ?_
  refine Ev7.if1 rfl (fun c1 => ?_) (fun c1 => ?_)
  · have c1 : (fX7_isThere T 0) = 0 := c1
    rw [if_pos c1] at H
    refine Ev7.go 2 (s' := ((pu h 15 (eO 2 [.ref 16, .ref 17, .ref 18, .ref 19, .ref 20, .ref 21, .ref 22, .int 0])), 22, [(0, .ref 15), (1, .ref 7), (2, .int 0)], [])) rfl ?_
    refine Ev7.live rfl (lv' := [(0, .ref 15), (1, .ref 7), (2, .int 0)]) rfl ?_
    refine (llX3_read_227 n (pu h 15 (eO 2 [.ref 16, .ref 17, .ref 18, .ref 19, .ref 20, .ref 21, .ref 22, .int 0])) 0 (O.1, O.2.1, O.2.2.1, O.2.2.2.1, O.2.2.2.2.1, O.2.2.2.2.2.1, O.2.2.2.2.2.2.1, 0) _ H ⟨(pu_n (by decide) xT.1), (pu_n (by decide) xT.2.1), (pu_n (by decide) xT.2.2.1), (pu_n (by decide) xT.2.2.2.1), (by decide)⟩ ⟨pu_s, (pu_n (by decide) xO.2.1), (pu_n (by decide) xO.2.2.1), (pu_n (by decide) xO.2.2.2.1), (pu_n (by decide) xO.2.2.2.2.1), (pu_n (by decide) xO.2.2.2.2.2.1), (pu_n (by decide) xO.2.2.2.2.2.2.1), (pu_n (by decide) xO.2.2.2.2.2.2.2)⟩).mono (fun r h9 q9 => ?_)
    obtain ⟨q9r, q9_0, q9f⟩ := q9
    exact ⟨q9r, q9_0, fun k hk => (q9f k hk).trans (by rw [pu_x (show k ≠ 15 from fun e => by have := hk; simp at this; omega)])⟩
  · have c1 : ¬ ((fX7_isThere T 0) = 0) := c1
    rw [if_neg c1] at H
    refine Ev7.go 4 (s' := ((pu h 15 (eO 2 [.ref 16, .ref 17, .ref 18, .ref 19, .ref 20, .ref 21, .ref 22, .int 0])), 17, [(0, .ref 15), (1, .ref 7)], [.int ((-1)), .int ((-1)), .int 0, .ref 15])) rfl ?_
    obtain ⟨y3, e2, H⟩ := Option.bind_eq_some_iff.mp H
    refine Ev7.call rfl rfl rfl (p_argsV7 (by decide) pu_s (Nat.le_of_ble_eq_true rfl)) rfl (Nat.le_of_ble_eq_true rfl) ((spX3_take7 (h := (pu h 15 (eO 2 [.ref 16, .ref 17, .ref 18, .ref 19, .ref 20, .ref 21, .ref 22, .int 0]))) (O := (O.1, O.2.1, O.2.2.1, O.2.2.2.1, O.2.2.2.2.1, O.2.2.2.2.2.1, O.2.2.2.2.2.2.1, 0)) ⟨pu_s, (pu_n (by decide) xO.2.1), (pu_n (by decide) xO.2.2.1), (pu_n (by decide) xO.2.2.2.1), (pu_n (by decide) xO.2.2.2.2.1), (pu_n (by decide) xO.2.2.2.2.2.1), (pu_n (by decide) xO.2.2.2.2.2.2.1), (pu_n (by decide) xO.2.2.2.2.2.2.2)⟩ 0 (-1) (-1) e2).mono (fun r h4 q5 => ?_))
    obtain ⟨rfl, q5_O, q5_f⟩ := q5
    have i6 : isT7 h4 7 T := isT7.fr q5_f (fr1 (by omega)) ⟨(pu_n (by decide) xT.1), (pu_n (by decide) xT.2.1), (pu_n (by decide) xT.2.2.1), (pu_n (by decide) xT.2.2.2.1), (by decide)⟩
    refine Ev7.go 2 (s' := (h4, 22, [(0, .ref 15), (1, .ref 7), (2, .int 0)], [])) rfl ?_
    refine Ev7.live rfl (lv' := [(0, .ref 15), (1, .ref 7), (2, .int 0)]) rfl ?_
    refine (llX3_read_227 n h4 0 y3 _ H i6 q5_O).mono (fun r h9 q9 => ?_)
    obtain ⟨q9r, q9_0, q9f⟩ := q9
    exact ⟨q9r, q9_0, fun k hk => (q9f k hk).trans (by rw [q5_f k (by have := hk; simp at this ⊢; omega)]; rw [pu_x (show k ≠ 15 from fun e => by have := hk; simp at this; omega)])⟩
theorem spX9_isTag7 {d : Nat} {h : pH}  (number : Int32) : Ev7 d mX9_isTag (h, 0, [(0, .int number)], []) (fun r h1 => r = some (.int (fX9_isTag number)) ∧ h1 = h) := by
  refine Ev7.go 1 (s' := (h, 1, [(0, .int number)], [.int number])) rfl ?_
  refine Ev7.if1 rfl (fun c1 => ?_) (fun c1 => ?_)
  · have c1 : number < 0 := c1
    refine Ev7.go 1 (s' := (h, 15, [(0, .int number)], [.int 0])) rfl ?_
    exact Ev7.ret rfl rfl (p_retZ rfl) ⟨congrArg (fun z => some (Value.int z)) (by rw [fX9_isTag, if_pos c1]), rfl⟩
  · have c1 : ¬ (number < 0) := c1
    refine Ev7.go 2 (s' := (h, 7, [(0, .int number)], [.int 6, .int number])) rfl ?_
    refine Ev7.if2 rfl (fun c2 => ?_) (fun c2 => ?_)
    · have c2 : 6 ≤ number := c2
      refine Ev7.go 1 (s' := (h, 15, [(0, .int number)], [.int 0])) rfl ?_
      exact Ev7.ret rfl rfl (p_retZ rfl) ⟨congrArg (fun z => some (Value.int z)) (by rw [fX9_isTag, if_neg c1, if_pos c2]), rfl⟩
    · have c2 : ¬ (6 ≤ number) := c2
      refine Ev7.go 2 (s' := (h, 15, [(0, .int number)], [.int 1])) rfl ?_
      exact Ev7.ret rfl rfl (p_retZ rfl) ⟨congrArg (fun z => some (Value.int z)) (by rw [fX9_isTag, if_neg c1, if_neg c2]), rfl⟩
theorem spX8_numbersBehind7 {d : Nat} {h : pH}  (letter : Int32) : Ev7 d mX8_numbersBehind (h, 0, [(0, .int letter)], []) (fun r h1 => r = some (.int (fX8_numbersBehind letter)) ∧ h1 = h) := by
  refine Ev7.go 2 (s' := (h, 3, [(0, .int letter)], [.int 107, .int letter])) rfl ?_
  refine Ev7.if2 rfl (fun c1 => ?_) (fun c1 => ?_)
  · have c1 : letter = 107 := c1
    refine Ev7.go 1 (s' := (h, 13, [(0, .int letter)], [.int 1])) rfl ?_
    exact Ev7.ret rfl rfl (p_retZ rfl) ⟨congrArg (fun z => some (Value.int z)) (by rw [fX8_numbersBehind, if_pos c1]), rfl⟩
  · have c1 : ¬ (letter = 107) := c1
    refine Ev7.go 2 (s' := (h, 9, [(0, .int letter)], [.int 114, .int letter])) rfl ?_
    refine Ev7.if2 rfl (fun c2 => ?_) (fun c2 => ?_)
    · have c2 : ¬ letter = 114 := c2
      refine Ev7.go 2 (s' := (h, 17, [(0, .int letter)], [.int 103, .int letter])) rfl ?_
      refine Ev7.if2 rfl (fun c3 => ?_) (fun c3 => ?_)
      · have c3 : ¬ letter = 103 := c3
        refine Ev7.go 1 (s' := (h, 25, [(0, .int letter)], [.int 0])) rfl ?_
        exact Ev7.ret rfl rfl (p_retZ rfl) ⟨congrArg (fun z => some (Value.int z)) (by rw [fX8_numbersBehind, if_neg c1, if_pos c2, if_pos c3]), rfl⟩
      · have c3 : ¬ (¬ letter = 103) := c3
        refine Ev7.go 2 (s' := (h, 25, [(0, .int letter)], [.int 3])) rfl ?_
        exact Ev7.ret rfl rfl (p_retZ rfl) ⟨congrArg (fun z => some (Value.int z)) (by rw [fX8_numbersBehind, if_neg c1, if_pos c2, if_neg c3]), rfl⟩
    · have c2 : ¬ (¬ letter = 114) := c2
      refine Ev7.go 1 (s' := (h, 13, [(0, .int letter)], [.int 1])) rfl ?_
      exact Ev7.ret rfl rfl (p_retZ rfl) ⟨congrArg (fun z => some (Value.int z)) (by rw [fX8_numbersBehind, if_neg c1, if_neg c2]), rfl⟩
theorem spX8_figureAt7 {d : Nat} {h : pH} {L : tL} (xL : isL h L) (place : Int32) {res : Int32} (H : fX8_figureAt L place = some res) : Ev7 (d + 1) mX8_figureAt (h, 0, [(0, .ref 1), (1, .int place)], []) (fun r h1 => r = some (.int res) ∧ h1 = h) := by
  unfold fX8_figureAt at H
  refine Ev7.go 2 (s' := (h, 2, [(0, .ref 1), (1, .int place)], [.int place, .ref 1])) rfl ?_
  obtain ⟨y2, e1, H⟩ := Option.bind_eq_some_iff.mp H
  refine Ev7.callE rfl rfl rfl (p_argsV7 (by decide) xL.1 (Nat.le_of_ble_eq_true rfl)) rfl (Nat.le_of_ble_eq_true rfl) (spX1_letterAt7 xL place e1) ?_
  refine Ev7.go 3 (s' := (h, 9, [(0, .ref 1), (1, .int place), (2, .int y2)], [.int 48, .int y2])) rfl ?_
  refine Ev7.if2 rfl (fun c3 => ?_) (fun c3 => ?_)
  · have c3 : y2 < 48 := c3
    rw [if_pos c3] at H
    refine Ev7.go 1 (s' := (h, 26, [(0, .ref 1), (1, .int place), (2, .int y2)], [.int ((-1))])) rfl ?_
    have H := Option.some.inj H
    subst H
    exact Ev7.ret rfl rfl (p_retZ rfl) ⟨rfl, rfl⟩
  · have c3 : ¬ (y2 < 48) := c3
    rw [if_neg c3] at H
    refine Ev7.go 2 (s' := (h, 15, [(0, .ref 1), (1, .int place), (2, .int y2)], [.int 57, .int y2])) rfl ?_
    refine Ev7.if2 rfl (fun c4 => ?_) (fun c4 => ?_)
    · have c4 : 57 < y2 := c4
      rw [if_pos c4] at H
      refine Ev7.go 1 (s' := (h, 26, [(0, .ref 1), (1, .int place), (2, .int y2)], [.int ((-1))])) rfl ?_
      have H := Option.some.inj H
      subst H
      exact Ev7.ret rfl rfl (p_retZ rfl) ⟨rfl, rfl⟩
    · have c4 : ¬ (57 < y2) := c4
      rw [if_neg c4] at H
      refine Ev7.go 4 (s' := (h, 26, [(0, .ref 1), (1, .int place), (2, .int y2)], [.int (y2 - 48)])) rfl ?_
      have H := Option.some.inj H
      subst H
      exact Ev7.ret rfl rfl (p_retZ rfl) ⟨rfl, rfl⟩
theorem spX8_readNumber7 {d : Nat} {h : pH} {K : tK} {L : tL} (xK : isK h K) (xL : isL h L) {res : Int32 × tK} (H : fX8_readNumber K L = some res) : Ev7 (d + 2) mX8_readNumber (h, 0, [(0, .ref 3), (1, .ref 1)], []) (fun r h1 => r = some (.int res.1) ∧ isK h1 res.2 ∧ fr [(3, 5)] h h1) := by
  unfold fX8_readNumber at H
  refine Ev7.go 2 (s' := (h, 2, [(0, .ref 3), (1, .ref 1)], [.ref 3, .ref 1])) rfl ?_
  refine Ev7.get rfl (by decide) xK.1 rfl ?_
  obtain ⟨y2, e1, H⟩ := Option.bind_eq_some_iff.mp H
  refine Ev7.callE rfl rfl rfl rfl rfl (Nat.le_of_ble_eq_true rfl) (spX8_figureAt7 xL K.2.1 e1) ?_
  refine Ev7.go 2 (s' := (h, 10, [(0, .ref 3), (1, .ref 1), (2, .int y2)], [.int y2])) rfl ?_
  refine Ev7.if1 rfl (fun c3 => ?_) (fun c3 => ?_)
  · have c3 : 0 ≤ y2 := c3
    rw [if_pos c3] at H
    refine Ev7.go 2 (s' := (h, 17, [(0, .ref 3), (1, .ref 1), (2, .int y2)], [.ref 3, .ref 3])) rfl ?_
    refine Ev7.get rfl (by decide) xK.1 rfl ?_
    refine Ev7.go 2 (s' := (h, 22, [(0, .ref 3), (1, .ref 1), (2, .int y2)], [.int (K.2.1 + 1), .ref 3])) rfl ?_
    refine Ev7.put rfl rfl (by decide) xK.1 (Nat.le_of_ble_eq_true rfl) rfl rfl (fs' := [.ref 4, .int (K.2.1 + 1), .int K.2.2]) rfl ?_
    refine Ev7.go 2 (s' := ((pu h 3 (eO 7 [.ref 4, .int (K.2.1 + 1), .int K.2.2])), 27, [(0, .ref 3), (1, .ref 1), (2, .int y2)], [.ref 3, .ref 1])) rfl ?_
    refine Ev7.get rfl (by decide) pu_s rfl ?_
    obtain ⟨y5, e4, H⟩ := Option.bind_eq_some_iff.mp H
    refine Ev7.callE rfl rfl rfl rfl rfl (Nat.le_of_ble_eq_true rfl) (spX8_figureAt7 (h := (pu h 3 (eO 7 [.ref 4, .int (K.2.1 + 1), .int K.2.2]))) (L := L) ⟨(pu_n (by decide) xL.1), (pu_n (by decide) xL.2)⟩ (K.2.1 + 1) e4) ?_
    refine Ev7.go 2 (s' := ((pu h 3 (eO 7 [.ref 4, .int (K.2.1 + 1), .int K.2.2])), 35, [(0, .ref 3), (1, .ref 1), (2, .int y2), (3, .int y5)], [.int y5])) rfl ?_
    refine Ev7.if1 rfl (fun c6 => ?_) (fun c6 => ?_)
    · have c6 : 0 ≤ y5 := c6
      rw [if_pos c6] at H
      refine Ev7.go 2 (s' := ((pu h 3 (eO 7 [.ref 4, .int (K.2.1 + 1), .int K.2.2])), 42, [(0, .ref 3), (1, .ref 1), (2, .int y2), (3, .int y5)], [.ref 3, .ref 3])) rfl ?_
      refine Ev7.get rfl (by decide) pu_s rfl ?_
      refine Ev7.go 2 (s' := ((pu h 3 (eO 7 [.ref 4, .int (K.2.1 + 1), .int K.2.2])), 47, [(0, .ref 3), (1, .ref 1), (2, .int y2), (3, .int y5)], [.int ((K.2.1 + 1) + 1), .ref 3])) rfl ?_
      refine Ev7.put rfl rfl (by decide) pu_s (Nat.le_of_ble_eq_true rfl) rfl rfl (fs' := [.ref 4, .int ((K.2.1 + 1) + 1), .int K.2.2]) rfl ?_
      refine Ev7.go 5 (s' := ((pu (pu h 3 (eO 7 [.ref 4, .int (K.2.1 + 1), .int K.2.2])) 3 (eO 7 [.ref 4, .int ((K.2.1 + 1) + 1), .int K.2.2])), 56, [(0, .ref 3), (1, .ref 1), (2, .int y2), (3, .int y5)], [.int ((y2 * 10) + y5)])) rfl ?_
      have H := Option.some.inj H
      subst H
      exact Ev7.ret rfl rfl (p_retZ rfl) ⟨rfl, ⟨pu_s, (pu_n (by decide) (pu_n (by decide) xK.2))⟩, (fun k hk => by rw [pu_x (show k ≠ 3 from fun e => by have := hk; simp at this; omega)]; rw [pu_x (show k ≠ 3 from fun e => by have := hk; simp at this; omega)])⟩
    · have c6 : ¬ (0 ≤ y5) := c6
      rw [if_neg c6] at H
      refine Ev7.go 1 (s' := ((pu h 3 (eO 7 [.ref 4, .int (K.2.1 + 1), .int K.2.2])), 39, [(0, .ref 3), (1, .ref 1), (2, .int y2), (3, .int y5)], [.int y2])) rfl ?_
      have H := Option.some.inj H
      subst H
      exact Ev7.ret rfl rfl (p_retZ rfl) ⟨rfl, ⟨pu_s, (pu_n (by decide) xK.2)⟩, (fun k hk => by rw [pu_x (show k ≠ 3 from fun e => by have := hk; simp at this; omega)])⟩
  · have c3 : ¬ (0 ≤ y2) := c3
    rw [if_neg c3] at H
    refine Ev7.go 1 (s' := (h, 14, [(0, .ref 3), (1, .ref 1), (2, .int y2)], [.int ((-1))])) rfl ?_
    have H := Option.some.inj H
    subst H
    exact Ev7.ret rfl rfl (p_retZ rfl) ⟨rfl, xK, (fun k _ => rfl)⟩
theorem llX8_readNumbers_27 {d n : Nat} {L : tL} : ∀ (m : Nat) (h : pH) (x2 : Int32) (x3 : Int32) (K : tK) (res : Int32 × tK), lX8_readNumbers_2 n L m x2 x3 K = some res → isL h L → isK h K → Ev7 (d + 3) mX8_readNumbers (h, 2, [(0, .ref 3), (1, .ref 1), (2, .int x2), (3, .int x3)], []) (fun r h1 => r = some (.int res.1) ∧ isK h1 res.2 ∧ fr [(3, 5)] h h1)
  | 0, h, x2, x3, K, res, H, _, _ => by cases H
  | m + 1, h, x2, x3, K, res, H, xL, xK => by
    have H : (if x2 ≤ x3 then (if x2 ≤ 0 then some (0, K) else some (1, K)) else (if 3 ≤ x3 then (if x2 ≤ 0 then some (0, K) else some (1, K)) else ((fX8_readNumber K L).bind fun y6 => (if x3 < 0 ∨ 3 ≤ x3.toNatClampNeg then none else (if ¬ x3 = (x2 - 1) then (if ((upd y6.2.1 x3.toNatClampNeg y6.1) x3.toNatClampNeg) < 0 then some (0, (upd y6.2.1 x3.toNatClampNeg y6.1, y6.2.2.1, y6.2.2.2)) else ((fX1_letterAt L y6.2.2.1).bind fun y14 => (if y14 = 44 then lX8_readNumbers_2 n L m x2 (x3 + 1) (upd y6.2.1 x3.toNatClampNeg y6.1, y6.2.2.1 + 1, y6.2.2.2) else some (0, (upd y6.2.1 x3.toNatClampNeg y6.1, y6.2.2.1, y6.2.2.2))))) else (if ((upd y6.2.1 x3.toNatClampNeg y6.1) x3.toNatClampNeg) < 0 then some (0, (upd y6.2.1 x3.toNatClampNeg y6.1, y6.2.2.1, y6.2.2.2)) else ((fX1_letterAt L y6.2.2.1).bind fun y18 => (if y18 = 59 then lX8_readNumbers_2 n L m x2 (x3 + 1) (upd y6.2.1 x3.toNatClampNeg y6.1, y6.2.2.1 + 1, y6.2.2.2) else some (0, (upd y6.2.1 x3.toNatClampNeg y6.1, y6.2.2.1, y6.2.2.2)))))))))) = some res := H
    refine Ev7.go 2 (s' := (h, 4, [(0, .ref 3), (1, .ref 1), (2, .int x2), (3, .int x3)], [.int x2, .int x3])) rfl ?_
    refine Ev7.if2 rfl (fun c1 => ?_) (fun c1 => ?_)
    · have c1 : x2 ≤ x3 := c1
      rw [if_pos c1] at H
      refine Ev7.go 1 (s' := (h, 84, [(0, .ref 3), (1, .ref 1), (2, .int x2), (3, .int x3)], [.int x2])) rfl ?_
      refine Ev7.if1 rfl (fun c2 => ?_) (fun c2 => ?_)
      · have c2 : x2 ≤ 0 := c2
        rw [if_pos c2] at H
        refine Ev7.go 1 (s' := (h, 92, [(0, .ref 3), (1, .ref 1), (2, .int x2), (3, .int x3)], [.int 0])) rfl ?_
        have H := Option.some.inj H
        subst H
        exact Ev7.ret rfl rfl (p_retZ rfl) ⟨rfl, xK, (fun k _ => rfl)⟩
      · have c2 : ¬ (x2 ≤ 0) := c2
        rw [if_neg c2] at H
        refine Ev7.go 2 (s' := (h, 92, [(0, .ref 3), (1, .ref 1), (2, .int x2), (3, .int x3)], [.int 1])) rfl ?_
        have H := Option.some.inj H
        subst H
        exact Ev7.ret rfl rfl (p_retZ rfl) ⟨rfl, xK, (fun k _ => rfl)⟩
    · have c1 : ¬ (x2 ≤ x3) := c1
      rw [if_neg c1] at H
      refine Ev7.go 2 (s' := (h, 9, [(0, .ref 3), (1, .ref 1), (2, .int x2), (3, .int x3)], [.ref 3, .int x3])) rfl ?_
      refine Ev7.get rfl (by decide) xK.1 rfl ?_
      refine Ev7.alen rfl (by decide) (congrArg p_len xK.2) ?_
      refine Ev7.if2 rfl (fun c3 => ?_) (fun c3 => ?_)
      · have c3 : 3 ≤ x3 := c3
        rw [if_pos c3] at H
        refine Ev7.go 1 (s' := (h, 84, [(0, .ref 3), (1, .ref 1), (2, .int x2), (3, .int x3)], [.int x2])) rfl ?_
        refine Ev7.if1 rfl (fun c4 => ?_) (fun c4 => ?_)
        · have c4 : x2 ≤ 0 := c4
          rw [if_pos c4] at H
          refine Ev7.go 1 (s' := (h, 92, [(0, .ref 3), (1, .ref 1), (2, .int x2), (3, .int x3)], [.int 0])) rfl ?_
          have H := Option.some.inj H
          subst H
          exact Ev7.ret rfl rfl (p_retZ rfl) ⟨rfl, xK, (fun k _ => rfl)⟩
        · have c4 : ¬ (x2 ≤ 0) := c4
          rw [if_neg c4] at H
          refine Ev7.go 2 (s' := (h, 92, [(0, .ref 3), (1, .ref 1), (2, .int x2), (3, .int x3)], [.int 1])) rfl ?_
          have H := Option.some.inj H
          subst H
          exact Ev7.ret rfl rfl (p_retZ rfl) ⟨rfl, xK, (fun k _ => rfl)⟩
      · have c3 : ¬ (3 ≤ x3) := c3
        rw [if_neg c3] at H
        refine Ev7.go 1 (s' := (h, 17, [(0, .ref 3), (1, .ref 1), (2, .int x2), (3, .int x3)], [.ref 3])) rfl ?_
        refine Ev7.get rfl (by decide) xK.1 rfl ?_
        refine Ev7.go 3 (s' := (h, 23, [(0, .ref 3), (1, .ref 1), (2, .int x2), (3, .int x3)], [.ref 1, .ref 3, .int x3, .ref 4])) rfl ?_
        obtain ⟨y6, e5, H⟩ := Option.bind_eq_some_iff.mp H
        refine Ev7.call rfl rfl rfl (p_argsV7 (by decide) xK.1 (Nat.le_of_ble_eq_true rfl)) rfl (Nat.le_of_ble_eq_true rfl) ((spX8_readNumber7 xK xL  e5).mono (fun r h7 q8 => ?_))
        obtain ⟨rfl, q8_K, q8_f⟩ := q8
        have i9 : isL h7 L := isL.fr q8_f (fr1 (by omega)) xL
        have v10 : vp_in x3 3 := fun q => by rw [if_pos q] at H; cases H
        rw [if_neg v10] at H
        refine Ev7.iast rfl (by decide) q8_K.2 v10 ?_
        refine Ev7.go 4 (s' := ((pu h7 4 (eI 3 (upd y6.2.1 x3.toNatClampNeg y6.1))), 31, [(0, .ref 3), (1, .ref 1), (2, .int x2), (3, .int x3)], [.int (x2 - 1), .int x3])) rfl ?_
        refine Ev7.if2 rfl (fun c11 => ?_) (fun c11 => ?_)
        · have c11 : ¬ x3 = (x2 - 1) := c11
          rw [if_pos c11] at H
          refine Ev7.go 3 (s' := ((pu h7 4 (eI 3 (upd y6.2.1 x3.toNatClampNeg y6.1))), 44, [(0, .ref 3), (1, .ref 1), (2, .int x2), (3, .int x3), (4, .int 44)], [.ref 3])) rfl ?_
          refine Ev7.get rfl (by decide) (pu_n (by decide) q8_K.1) rfl ?_
          refine Ev7.go 1 (s' := ((pu h7 4 (eI 3 (upd y6.2.1 x3.toNatClampNeg y6.1))), 48, [(0, .ref 3), (1, .ref 1), (2, .int x2), (3, .int x3), (4, .int 44)], [.int x3, .ref 4])) rfl ?_
          refine Ev7.iald rfl (by decide) pu_s v10 ?_
          refine Ev7.if1 rfl (fun c12 => ?_) (fun c12 => ?_)
          · have c12 : ((upd y6.2.1 x3.toNatClampNeg y6.1) x3.toNatClampNeg) < 0 := c12
            rw [if_pos c12] at H
            refine Ev7.go 1 (s' := ((pu h7 4 (eI 3 (upd y6.2.1 x3.toNatClampNeg y6.1))), 66, [(0, .ref 3), (1, .ref 1), (2, .int x2), (3, .int x3), (4, .int 44)], [.int 0])) rfl ?_
            have H := Option.some.inj H
            subst H
            exact Ev7.ret rfl rfl (p_retZ rfl) ⟨rfl, ⟨(pu_n (by decide) q8_K.1), pu_s⟩, (fun k hk => by rw [pu_x (show k ≠ 4 from fun e => by have := hk; simp at this; omega)]; rw [q8_f k (by have := hk; simp at this ⊢; omega)])⟩
          · have c12 : ¬ (((upd y6.2.1 x3.toNatClampNeg y6.1) x3.toNatClampNeg) < 0) := c12
            rw [if_neg c12] at H
            refine Ev7.go 2 (s' := ((pu h7 4 (eI 3 (upd y6.2.1 x3.toNatClampNeg y6.1))), 54, [(0, .ref 3), (1, .ref 1), (2, .int x2), (3, .int x3), (4, .int 44)], [.ref 3, .ref 1])) rfl ?_
            refine Ev7.get rfl (by decide) (pu_n (by decide) q8_K.1) rfl ?_
            obtain ⟨y14, e13, H⟩ := Option.bind_eq_some_iff.mp H
            refine Ev7.callE rfl rfl rfl (p_argsV7 (by decide) (pu_n (by decide) i9.1) (Nat.le_of_ble_eq_true rfl)) rfl (Nat.le_of_ble_eq_true rfl) (spX1_letterAt7 (h := (pu h7 4 (eI 3 (upd y6.2.1 x3.toNatClampNeg y6.1)))) (L := L) ⟨(pu_n (by decide) i9.1), (pu_n (by decide) i9.2)⟩ y6.2.2.1 e13) ?_
            refine Ev7.go 1 (s' := ((pu h7 4 (eI 3 (upd y6.2.1 x3.toNatClampNeg y6.1))), 62, [(0, .ref 3), (1, .ref 1), (2, .int x2), (3, .int x3), (4, .int 44)], [.int 44, .int y14])) rfl ?_
            refine Ev7.if2 rfl (fun c15 => ?_) (fun c15 => ?_)
            · have c15 : y14 = 44 := c15
              rw [if_pos c15] at H
              refine Ev7.go 2 (s' := ((pu h7 4 (eI 3 (upd y6.2.1 x3.toNatClampNeg y6.1))), 69, [(0, .ref 3), (1, .ref 1), (2, .int x2), (3, .int x3), (4, .int 44)], [.ref 3, .ref 3])) rfl ?_
              refine Ev7.get rfl (by decide) (pu_n (by decide) q8_K.1) rfl ?_
              refine Ev7.go 2 (s' := ((pu h7 4 (eI 3 (upd y6.2.1 x3.toNatClampNeg y6.1))), 74, [(0, .ref 3), (1, .ref 1), (2, .int x2), (3, .int x3), (4, .int 44)], [.int (y6.2.2.1 + 1), .ref 3])) rfl ?_
              refine Ev7.put rfl rfl (by decide) (pu_n (by decide) q8_K.1) (Nat.le_of_ble_eq_true rfl) rfl rfl (fs' := [.ref 4, .int (y6.2.2.1 + 1), .int y6.2.2.2]) rfl ?_
              refine Ev7.go 2 (s' := ((pu (pu h7 4 (eI 3 (upd y6.2.1 x3.toNatClampNeg y6.1))) 3 (eO 7 [.ref 4, .int (y6.2.2.1 + 1), .int y6.2.2.2])), 2, [(0, .ref 3), (1, .ref 1), (2, .int x2), (3, .int (x3 + 1)), (4, .int 44)], [])) rfl ?_
              refine Ev7.live rfl (lv' := [(0, .ref 3), (1, .ref 1), (2, .int x2), (3, .int (x3 + 1))]) rfl ?_
              refine (llX8_readNumbers_27 m (pu (pu h7 4 (eI 3 (upd y6.2.1 x3.toNatClampNeg y6.1))) 3 (eO 7 [.ref 4, .int (y6.2.2.1 + 1), .int y6.2.2.2])) x2 (x3 + 1) (upd y6.2.1 x3.toNatClampNeg y6.1, y6.2.2.1 + 1, y6.2.2.2) _ H ⟨(pu_n (by decide) (pu_n (by decide) i9.1)), (pu_n (by decide) (pu_n (by decide) i9.2))⟩ ⟨pu_s, (pu_n (by decide) pu_s)⟩).mono (fun r h9 q9 => ?_)
              obtain ⟨q9r, q9_0, q9f⟩ := q9
              exact ⟨q9r, q9_0, fun k hk => (q9f k hk).trans (by rw [pu_x (show k ≠ 3 from fun e => by have := hk; simp at this; omega)]; rw [pu_x (show k ≠ 4 from fun e => by have := hk; simp at this; omega)]; rw [q8_f k (by have := hk; simp at this ⊢; omega)])⟩
            · have c15 : ¬ (y14 = 44) := c15
              rw [if_neg c15] at H
              refine Ev7.go 1 (s' := ((pu h7 4 (eI 3 (upd y6.2.1 x3.toNatClampNeg y6.1))), 66, [(0, .ref 3), (1, .ref 1), (2, .int x2), (3, .int x3), (4, .int 44)], [.int 0])) rfl ?_
              have H := Option.some.inj H
              subst H
              exact Ev7.ret rfl rfl (p_retZ rfl) ⟨rfl, ⟨(pu_n (by decide) q8_K.1), pu_s⟩, (fun k hk => by rw [pu_x (show k ≠ 4 from fun e => by have := hk; simp at this; omega)]; rw [q8_f k (by have := hk; simp at this ⊢; omega)])⟩
        · have c11 : ¬ (¬ x3 = (x2 - 1)) := c11
          rw [if_neg c11] at H
          refine Ev7.go 4 (s' := ((pu h7 4 (eI 3 (upd y6.2.1 x3.toNatClampNeg y6.1))), 44, [(0, .ref 3), (1, .ref 1), (2, .int x2), (3, .int x3), (4, .int 59)], [.ref 3])) rfl ?_
          refine Ev7.get rfl (by decide) (pu_n (by decide) q8_K.1) rfl ?_
          refine Ev7.go 1 (s' := ((pu h7 4 (eI 3 (upd y6.2.1 x3.toNatClampNeg y6.1))), 48, [(0, .ref 3), (1, .ref 1), (2, .int x2), (3, .int x3), (4, .int 59)], [.int x3, .ref 4])) rfl ?_
          refine Ev7.iald rfl (by decide) pu_s v10 ?_
          refine Ev7.if1 rfl (fun c16 => ?_) (fun c16 => ?_)
          · have c16 : ((upd y6.2.1 x3.toNatClampNeg y6.1) x3.toNatClampNeg) < 0 := c16
            rw [if_pos c16] at H
            refine Ev7.go 1 (s' := ((pu h7 4 (eI 3 (upd y6.2.1 x3.toNatClampNeg y6.1))), 66, [(0, .ref 3), (1, .ref 1), (2, .int x2), (3, .int x3), (4, .int 59)], [.int 0])) rfl ?_
            have H := Option.some.inj H
            subst H
            exact Ev7.ret rfl rfl (p_retZ rfl) ⟨rfl, ⟨(pu_n (by decide) q8_K.1), pu_s⟩, (fun k hk => by rw [pu_x (show k ≠ 4 from fun e => by have := hk; simp at this; omega)]; rw [q8_f k (by have := hk; simp at this ⊢; omega)])⟩
          · have c16 : ¬ (((upd y6.2.1 x3.toNatClampNeg y6.1) x3.toNatClampNeg) < 0) := c16
            rw [if_neg c16] at H
            refine Ev7.go 2 (s' := ((pu h7 4 (eI 3 (upd y6.2.1 x3.toNatClampNeg y6.1))), 54, [(0, .ref 3), (1, .ref 1), (2, .int x2), (3, .int x3), (4, .int 59)], [.ref 3, .ref 1])) rfl ?_
            refine Ev7.get rfl (by decide) (pu_n (by decide) q8_K.1) rfl ?_
            obtain ⟨y18, e17, H⟩ := Option.bind_eq_some_iff.mp H
            refine Ev7.callE rfl rfl rfl (p_argsV7 (by decide) (pu_n (by decide) i9.1) (Nat.le_of_ble_eq_true rfl)) rfl (Nat.le_of_ble_eq_true rfl) (spX1_letterAt7 (h := (pu h7 4 (eI 3 (upd y6.2.1 x3.toNatClampNeg y6.1)))) (L := L) ⟨(pu_n (by decide) i9.1), (pu_n (by decide) i9.2)⟩ y6.2.2.1 e17) ?_
            refine Ev7.go 1 (s' := ((pu h7 4 (eI 3 (upd y6.2.1 x3.toNatClampNeg y6.1))), 62, [(0, .ref 3), (1, .ref 1), (2, .int x2), (3, .int x3), (4, .int 59)], [.int 59, .int y18])) rfl ?_
            refine Ev7.if2 rfl (fun c19 => ?_) (fun c19 => ?_)
            · have c19 : y18 = 59 := c19
              rw [if_pos c19] at H
              refine Ev7.go 2 (s' := ((pu h7 4 (eI 3 (upd y6.2.1 x3.toNatClampNeg y6.1))), 69, [(0, .ref 3), (1, .ref 1), (2, .int x2), (3, .int x3), (4, .int 59)], [.ref 3, .ref 3])) rfl ?_
              refine Ev7.get rfl (by decide) (pu_n (by decide) q8_K.1) rfl ?_
              refine Ev7.go 2 (s' := ((pu h7 4 (eI 3 (upd y6.2.1 x3.toNatClampNeg y6.1))), 74, [(0, .ref 3), (1, .ref 1), (2, .int x2), (3, .int x3), (4, .int 59)], [.int (y6.2.2.1 + 1), .ref 3])) rfl ?_
              refine Ev7.put rfl rfl (by decide) (pu_n (by decide) q8_K.1) (Nat.le_of_ble_eq_true rfl) rfl rfl (fs' := [.ref 4, .int (y6.2.2.1 + 1), .int y6.2.2.2]) rfl ?_
              refine Ev7.go 2 (s' := ((pu (pu h7 4 (eI 3 (upd y6.2.1 x3.toNatClampNeg y6.1))) 3 (eO 7 [.ref 4, .int (y6.2.2.1 + 1), .int y6.2.2.2])), 2, [(0, .ref 3), (1, .ref 1), (2, .int x2), (3, .int (x3 + 1)), (4, .int 59)], [])) rfl ?_
              refine Ev7.live rfl (lv' := [(0, .ref 3), (1, .ref 1), (2, .int x2), (3, .int (x3 + 1))]) rfl ?_
              refine (llX8_readNumbers_27 m (pu (pu h7 4 (eI 3 (upd y6.2.1 x3.toNatClampNeg y6.1))) 3 (eO 7 [.ref 4, .int (y6.2.2.1 + 1), .int y6.2.2.2])) x2 (x3 + 1) (upd y6.2.1 x3.toNatClampNeg y6.1, y6.2.2.1 + 1, y6.2.2.2) _ H ⟨(pu_n (by decide) (pu_n (by decide) i9.1)), (pu_n (by decide) (pu_n (by decide) i9.2))⟩ ⟨pu_s, (pu_n (by decide) pu_s)⟩).mono (fun r h9 q9 => ?_)
              obtain ⟨q9r, q9_0, q9f⟩ := q9
              exact ⟨q9r, q9_0, fun k hk => (q9f k hk).trans (by rw [pu_x (show k ≠ 3 from fun e => by have := hk; simp at this; omega)]; rw [pu_x (show k ≠ 4 from fun e => by have := hk; simp at this; omega)]; rw [q8_f k (by have := hk; simp at this ⊢; omega)])⟩
            · have c19 : ¬ (y18 = 59) := c19
              rw [if_neg c19] at H
              refine Ev7.go 1 (s' := ((pu h7 4 (eI 3 (upd y6.2.1 x3.toNatClampNeg y6.1))), 66, [(0, .ref 3), (1, .ref 1), (2, .int x2), (3, .int x3), (4, .int 59)], [.int 0])) rfl ?_
              have H := Option.some.inj H
              subst H
              exact Ev7.ret rfl rfl (p_retZ rfl) ⟨rfl, ⟨(pu_n (by decide) q8_K.1), pu_s⟩, (fun k hk => by rw [pu_x (show k ≠ 4 from fun e => by have := hk; simp at this; omega)]; rw [q8_f k (by have := hk; simp at this ⊢; omega)])⟩
theorem spX8_readNumbers7 {d n : Nat} {h : pH} {K : tK} {L : tL} (xK : isK h K) (xL : isL h L) (due : Int32) {res : Int32 × tK} (H : fX8_readNumbers n K L due = some res) : Ev7 (d + 3) mX8_readNumbers (h, 0, [(0, .ref 3), (1, .ref 1), (2, .int due)], []) (fun r h1 => r = some (.int res.1) ∧ isK h1 res.2 ∧ fr [(3, 5)] h h1) := by
  unfold fX8_readNumbers at H
  refine Ev7.go 2 (s' := (h, 2, [(0, .ref 3), (1, .ref 1), (2, .int due), (3, .int 0)], [])) rfl ?_
  refine Ev7.live rfl (lv' := [(0, .ref 3), (1, .ref 1), (2, .int due), (3, .int 0)]) rfl ?_
  exact llX8_readNumbers_27 n h due 0 K _ H xL xK
theorem spX8_applyKind7 {d : Nat} {h : pH} {t : Nat} {K : tK} {T : tT} (xK : isK h K) (xT : isT7 h t T) (ht : 7 ≤ t) {res : Int32 × tK × tT} (H : fX8_applyKind K T = some res) : Ev7 (d + 1) mX8_applyKind (h, 0, [(0, .ref 3), (1, .ref t)], []) (fun r h1 => r = some (.int res.1) ∧ isK h1 res.2.1 ∧ isT7 h1 t res.2.2 ∧ fr [(3, 5), (t, t + 4)] h h1) := by
  unfold fX8_applyKind at H
  refine Ev7.go 1 (s' := (h, 1, [(0, .ref 3), (1, .ref t)], [.ref 3])) rfl ?_
  refine Ev7.get rfl (by decide) xK.1 rfl ?_
  refine Ev7.if1 rfl (fun c1 => ?_) (fun c1 => ?_)
  · have c1 : ¬ K.2.2 = 0 := c1
    rw [if_pos c1] at H
    refine Ev7.go 1 (s' := (h, 25, [(0, .ref 3), (1, .ref t)], [.int 0])) rfl ?_
    have H := Option.some.inj H
    subst H
    exact Ev7.ret rfl rfl (p_retZ rfl) ⟨rfl, xK, xT, (fun k _ => rfl)⟩
  · have c1 : ¬ (¬ K.2.2 = 0) := c1
    rw [if_neg c1] at H
    refine Ev7.go 1 (s' := (h, 8, [(0, .ref 3), (1, .ref t)], [.ref t])) rfl ?_
    refine Ev7.callE rfl rfl rfl (p_argsV7 (by have := xT.2.2.2.2; omega) xT.1 (Nat.le_of_ble_eq_true rfl)) rfl (Nat.le_of_ble_eq_true rfl) (spX7_came7 xT ) ?_
    refine Ev7.if1 rfl (fun c2 => ?_) (fun c2 => ?_)
    · have c2 : 0 < (fX7_came T) := c2
      rw [if_pos c2] at H
      refine Ev7.go 1 (s' := (h, 25, [(0, .ref 3), (1, .ref t)], [.int 0])) rfl ?_
      have H := Option.some.inj H
      subst H
      exact Ev7.ret rfl rfl (p_retZ rfl) ⟨rfl, xK, xT, (fun k _ => rfl)⟩
    · have c2 : ¬ (0 < (fX7_came T)) := c2
      rw [if_neg c2] at H
      refine Ev7.go 1 (s' := (h, 15, [(0, .ref 3), (1, .ref t)], [.ref 3])) rfl ?_
      refine Ev7.get rfl (by decide) xK.1 rfl ?_
      refine Ev7.go 1 (s' := (h, 19, [(0, .ref 3), (1, .ref t)], [.int 0, .ref 4])) rfl ?_
      refine Ev7.iald rfl (by decide) xK.2 (by unfold vp_in; decide) ?_
      refine Ev7.go 1 (s' := (h, 21, [(0, .ref 3), (1, .ref t)], [.int 4, .int (K.1 0)])) rfl ?_
      refine Ev7.if2 rfl (fun c3 => ?_) (fun c3 => ?_)
      · have c3 : (K.1 0) < 4 := c3
        rw [if_pos c3] at H
        refine Ev7.go 2 (s' := (h, 28, [(0, .ref 3), (1, .ref t)], [.int 1, .ref 3])) rfl ?_
        refine Ev7.put rfl rfl (by decide) xK.1 (Nat.le_of_ble_eq_true rfl) rfl rfl (fs' := [.ref 4, .int K.2.1, .int 1]) rfl ?_
        refine Ev7.go 2 (s' := ((pu h 3 (eO 7 [.ref 4, .int K.2.1, .int 1])), 33, [(0, .ref 3), (1, .ref t)], [.ref 3, .ref t])) rfl ?_
        refine Ev7.get rfl (by decide) pu_s rfl ?_
        refine Ev7.go 1 (s' := ((pu h 3 (eO 7 [.ref 4, .int K.2.1, .int 1])), 37, [(0, .ref 3), (1, .ref t)], [.int 0, .ref 4, .ref t])) rfl ?_
        refine Ev7.iald rfl (by decide) (pu_n (by decide) xK.2) (by unfold vp_in; decide) ?_
        obtain ⟨y5, e4, H⟩ := Option.bind_eq_some_iff.mp H
        refine Ev7.call rfl rfl rfl (p_argsV7 (by have := xT.2.2.2.2; omega) (pu_n (by omega) xT.1) (Nat.le_of_ble_eq_true rfl)) rfl (Nat.le_of_ble_eq_true rfl) ((spX7_setKind7 (h := (pu h 3 (eO 7 [.ref 4, .int K.2.1, .int 1]))) (T := T) ⟨(pu_n (by omega) xT.1), (pu_n (by omega) xT.2.1), (pu_n (by omega) xT.2.2.1), (pu_n (by omega) xT.2.2.2.1), (by have := xT.2.2.2.2; omega)⟩ (K.1 0) e4).mono (fun r h6 q7 => ?_))
        obtain ⟨rfl, q7_T, q7_f⟩ := q7
        have i8 : isK h6 (K.1, K.2.1, 1) := isK.fr q7_f (fr1 (by omega)) ⟨pu_s, (pu_n (by decide) xK.2)⟩
        refine Ev7.go 1 (s' := (h6, 42, [(0, .ref 3), (1, .ref t)], [.int 1])) rfl ?_
        have H := Option.some.inj H
        subst H
        exact Ev7.ret rfl rfl (p_retZ rfl) ⟨rfl, i8, q7_T, (fun k hk => by rw [q7_f k (by have := hk; simp at this ⊢; omega)]; rw [pu_x (show k ≠ 3 from fun e => by have := hk; simp at this; omega)])⟩
      · have c3 : ¬ ((K.1 0) < 4) := c3
        rw [if_neg c3] at H
        refine Ev7.go 1 (s' := (h, 25, [(0, .ref 3), (1, .ref t)], [.int 0])) rfl ?_
        have H := Option.some.inj H
        subst H
        exact Ev7.ret rfl rfl (p_retZ rfl) ⟨rfl, xK, xT, (fun k _ => rfl)⟩
theorem spX8_applyRoot7 {d : Nat} {h : pH} {t : Nat} {K : tK} {T : tT} (xK : isK h K) (xT : isT7 h t T) (ht : 7 ≤ t) {res : Int32 × tT} (H : fX8_applyRoot K T = some res) : Ev7 (d + 2) mX8_applyRoot (h, 0, [(0, .ref 3), (1, .ref t)], []) (fun r h1 => r = some (.int res.1) ∧ isT7 h1 t res.2 ∧ fr [(t, t + 4)] h h1) := by
  unfold fX8_applyRoot at H
  refine Ev7.go 1 (s' := (h, 1, [(0, .ref 3), (1, .ref t)], [.ref t])) rfl ?_
  refine Ev7.callE rfl rfl rfl (p_argsV7 (by have := xT.2.2.2.2; omega) xT.1 (Nat.le_of_ble_eq_true rfl)) rfl (Nat.le_of_ble_eq_true rfl) (spX7_came7 xT ) ?_
  refine Ev7.if1 rfl (fun c1 => ?_) (fun c1 => ?_)
  · have c1 : 0 < (fX7_came T) := c1
    rw [if_pos c1] at H
    refine Ev7.go 1 (s' := (h, 20, [(0, .ref 3), (1, .ref t)], [.int 0])) rfl ?_
    have H := Option.some.inj H
    subst H
    exact Ev7.ret rfl rfl (p_retZ rfl) ⟨rfl, xT, (fun k _ => rfl)⟩
  · have c1 : ¬ (0 < (fX7_came T)) := c1
    rw [if_neg c1] at H
    refine Ev7.go 1 (s' := (h, 8, [(0, .ref 3), (1, .ref t)], [.ref 3])) rfl ?_
    refine Ev7.get rfl (by decide) xK.1 rfl ?_
    refine Ev7.go 1 (s' := (h, 12, [(0, .ref 3), (1, .ref t)], [.int 0, .ref 4])) rfl ?_
    refine Ev7.iald rfl (by decide) xK.2 (by unfold vp_in; decide) ?_
    refine Ev7.callE rfl rfl rfl rfl rfl (Nat.le_of_ble_eq_true rfl) (spX9_isTag7  (K.1 0)) ?_
    refine Ev7.if1 rfl (fun c2 => ?_) (fun c2 => ?_)
    · have c2 : ¬ (fX9_isTag (K.1 0)) = 0 := c2
      rw [if_pos c2] at H
      refine Ev7.go 4 (s' := (h, 25, [(0, .ref 3), (1, .ref t)], [.ref 3, .int 0, .int ((-1)), .ref t])) rfl ?_
      refine Ev7.get rfl (by decide) xK.1 rfl ?_
      refine Ev7.go 1 (s' := (h, 29, [(0, .ref 3), (1, .ref t)], [.int 0, .ref 4, .int 0, .int ((-1)), .ref t])) rfl ?_
      refine Ev7.iald rfl (by decide) xK.2 (by unfold vp_in; decide) ?_
      obtain ⟨y4, e3, H⟩ := Option.bind_eq_some_iff.mp H
      refine Ev7.call rfl rfl rfl (p_argsV7 (by have := xT.2.2.2.2; omega) xT.1 (Nat.le_of_ble_eq_true rfl)) rfl (Nat.le_of_ble_eq_true rfl) ((spX7_add7 xT (-1) 0 (K.1 0) e3).mono (fun r h5 q6 => ?_))
      obtain ⟨rfl, q6_T, q6_f⟩ := q6
      have i7 : isK h5 K := isK.fr q6_f (fr1 (by omega)) xK
      refine Ev7.go 2 (s' := (h5, 35, [(0, .ref 3), (1, .ref t)], [.int 1])) rfl ?_
      have H := Option.some.inj H
      subst H
      exact Ev7.ret rfl rfl (p_retZ rfl) ⟨rfl, q6_T, (fun k hk => by rw [q6_f k (by have := hk; simp at this ⊢; omega)])⟩
    · have c2 : ¬ (¬ (fX9_isTag (K.1 0)) = 0) := c2
      rw [if_neg c2] at H
      refine Ev7.go 1 (s' := (h, 20, [(0, .ref 3), (1, .ref t)], [.int 0])) rfl ?_
      have H := Option.some.inj H
      subst H
      exact Ev7.ret rfl rfl (p_retZ rfl) ⟨rfl, xT, (fun k _ => rfl)⟩
theorem spX8_applyNode7 {d n : Nat} {h : pH} {t : Nat} {K : tK} {T : tT} (xK : isK h K) (xT : isT7 h t T) (ht : 7 ≤ t) {res : Int32 × tT} (H : fX8_applyNode n K T = some res) : Ev7 (d + 4) mX8_applyNode (h, 0, [(0, .ref 3), (1, .ref t)], []) (fun r h1 => r = some (.int res.1) ∧ isT7 h1 t res.2 ∧ fr [(t, t + 4)] h h1) := by
  unfold fX8_applyNode at H
  refine Ev7.go 1 (s' := (h, 1, [(0, .ref 3), (1, .ref t)], [.ref 3])) rfl ?_
  refine Ev7.get rfl (by decide) xK.1 rfl ?_
  refine Ev7.go 1 (s' := (h, 5, [(0, .ref 3), (1, .ref t)], [.int 0, .ref 4])) rfl ?_
  refine Ev7.iald rfl (by decide) xK.2 (by unfold vp_in; decide) ?_
  refine Ev7.go 2 (s' := (h, 8, [(0, .ref 3), (1, .ref t), (2, .int (K.1 0))], [.ref t])) rfl ?_
  refine Ev7.callE rfl rfl rfl (p_argsV7 (by have := xT.2.2.2.2; omega) xT.1 (Nat.le_of_ble_eq_true rfl)) rfl (Nat.le_of_ble_eq_true rfl) (spX7_isFull7 xT ) ?_
  refine Ev7.if1 rfl (fun c1 => ?_) (fun c1 => ?_)
  · have c1 : ¬ (fX7_isFull T) = 0 := c1
    rw [if_pos c1] at H
    refine Ev7.go 1 (s' := (h, 49, [(0, .ref 3), (1, .ref t), (2, .int (K.1 0))], [.int 0])) rfl ?_
    have H := Option.some.inj H
    subst H
    exact Ev7.ret rfl rfl (p_retZ rfl) ⟨rfl, xT, (fun k _ => rfl)⟩
  · have c1 : ¬ (¬ (fX7_isFull T) = 0) := c1
    rw [if_neg c1] at H
    refine Ev7.go 2 (s' := (h, 16, [(0, .ref 3), (1, .ref t), (2, .int (K.1 0))], [.int (K.1 0), .ref t])) rfl ?_
    refine Ev7.callE rfl rfl rfl (p_argsV7 (by have := xT.2.2.2.2; omega) xT.1 (Nat.le_of_ble_eq_true rfl)) rfl (Nat.le_of_ble_eq_true rfl) (spX7_isThere7 xT (K.1 0)) ?_
    refine Ev7.if1 rfl (fun c2 => ?_) (fun c2 => ?_)
    · have c2 : (fX7_isThere T (K.1 0)) = 0 := c2
      rw [if_pos c2] at H
      refine Ev7.go 1 (s' := (h, 49, [(0, .ref 3), (1, .ref t), (2, .int (K.1 0))], [.int 0])) rfl ?_
      have H := Option.some.inj H
      subst H
      exact Ev7.ret rfl rfl (p_retZ rfl) ⟨rfl, xT, (fun k _ => rfl)⟩
    · have c2 : ¬ ((fX7_isThere T (K.1 0)) = 0) := c2
      rw [if_neg c2] at H
      refine Ev7.go 1 (s' := (h, 23, [(0, .ref 3), (1, .ref t), (2, .int (K.1 0))], [.ref 3])) rfl ?_
      refine Ev7.get rfl (by decide) xK.1 rfl ?_
      refine Ev7.go 1 (s' := (h, 27, [(0, .ref 3), (1, .ref t), (2, .int (K.1 0))], [.int 1, .ref 4])) rfl ?_
      refine Ev7.iald rfl (by decide) xK.2 (by unfold vp_in; decide) ?_
      refine Ev7.go 2 (s' := (h, 30, [(0, .ref 3), (1, .ref t), (2, .int (K.1 0))], [.int (K.1 0), .ref t, .int (K.1 1)])) rfl ?_
      obtain ⟨y4, e3, H⟩ := Option.bind_eq_some_iff.mp H
      refine Ev7.callE rfl rfl rfl (p_argsV7 (by have := xT.2.2.2.2; omega) xT.1 (Nat.le_of_ble_eq_true rfl)) rfl (Nat.le_of_ble_eq_true rfl) (spX7_kidsOf7 xT (K.1 0) e3) ?_
      refine Ev7.if2 rfl (fun c5 => ?_) (fun c5 => ?_)
      · have c5 : y4 < (K.1 1) := c5
        rw [if_pos c5] at H
        refine Ev7.go 1 (s' := (h, 49, [(0, .ref 3), (1, .ref t), (2, .int (K.1 0))], [.int 0])) rfl ?_
        have H := Option.some.inj H
        subst H
        exact Ev7.ret rfl rfl (p_retZ rfl) ⟨rfl, xT, (fun k _ => rfl)⟩
      · have c5 : ¬ (y4 < (K.1 1)) := c5
        rw [if_neg c5] at H
        refine Ev7.go 1 (s' := (h, 37, [(0, .ref 3), (1, .ref t), (2, .int (K.1 0))], [.ref 3])) rfl ?_
        refine Ev7.get rfl (by decide) xK.1 rfl ?_
        refine Ev7.go 1 (s' := (h, 41, [(0, .ref 3), (1, .ref t), (2, .int (K.1 0))], [.int 2, .ref 4])) rfl ?_
        refine Ev7.iald rfl (by decide) xK.2 (by unfold vp_in; decide) ?_
        refine Ev7.callE rfl rfl rfl rfl rfl (Nat.le_of_ble_eq_true rfl) (spX9_isTag7  (K.1 2)) ?_
        refine Ev7.if1 rfl (fun c6 => ?_) (fun c6 => ?_)
        · have c6 : ¬ (fX9_isTag (K.1 2)) = 0 := c6
          rw [if_pos c6] at H
          refine Ev7.go 3 (s' := (h, 53, [(0, .ref 3), (1, .ref t), (2, .int (K.1 0))], [.ref 3, .int (K.1 0), .ref t])) rfl ?_
          refine Ev7.get rfl (by decide) xK.1 rfl ?_
          refine Ev7.go 1 (s' := (h, 57, [(0, .ref 3), (1, .ref t), (2, .int (K.1 0))], [.int 1, .ref 4, .int (K.1 0), .ref t])) rfl ?_
          refine Ev7.iald rfl (by decide) xK.2 (by unfold vp_in; decide) ?_
          obtain ⟨y8, e7, H⟩ := Option.bind_eq_some_iff.mp H
          refine Ev7.callE rfl rfl rfl (p_argsV7 (by have := xT.2.2.2.2; omega) xT.1 (Nat.le_of_ble_eq_true rfl)) rfl (Nat.le_of_ble_eq_true rfl) (spX7_spotFor7 xT (K.1 0) (K.1 1) e7) ?_
          refine Ev7.go 2 (s' := (h, 63, [(0, .ref 3), (1, .ref t), (2, .int (K.1 0)), (3, .int y8)], [.int y8])) rfl ?_
          refine Ev7.if1 rfl (fun c9 => ?_) (fun c9 => ?_)
          · have c9 : ¬ y8 = 0 := c9
            rw [if_pos c9] at H
            refine Ev7.go 4 (s' := (h, 72, [(0, .ref 3), (1, .ref t), (2, .int (K.1 0)), (3, .int y8)], [.ref 3, .int y8, .int (K.1 0), .ref t])) rfl ?_
            refine Ev7.get rfl (by decide) xK.1 rfl ?_
            refine Ev7.go 1 (s' := (h, 76, [(0, .ref 3), (1, .ref t), (2, .int (K.1 0)), (3, .int y8)], [.int 2, .ref 4, .int y8, .int (K.1 0), .ref t])) rfl ?_
            refine Ev7.iald rfl (by decide) xK.2 (by unfold vp_in; decide) ?_
            obtain ⟨y11, e10, H⟩ := Option.bind_eq_some_iff.mp H
            refine Ev7.call rfl rfl rfl (p_argsV7 (by have := xT.2.2.2.2; omega) xT.1 (Nat.le_of_ble_eq_true rfl)) rfl (Nat.le_of_ble_eq_true rfl) ((spX7_add7 xT (K.1 0) y8 (K.1 2) e10).mono (fun r h12 q13 => ?_))
            obtain ⟨rfl, q13_T, q13_f⟩ := q13
            have i14 : isK h12 K := isK.fr q13_f (fr1 (by omega)) xK
            refine Ev7.go 2 (s' := (h12, 82, [(0, .ref 3), (1, .ref t), (2, .int (K.1 0)), (3, .int y8)], [.int 1])) rfl ?_
            have H := Option.some.inj H
            subst H
            exact Ev7.ret rfl rfl (p_retZ rfl) ⟨rfl, q13_T, (fun k hk => by rw [q13_f k (by have := hk; simp at this ⊢; omega)])⟩
          · have c9 : ¬ (¬ y8 = 0) := c9
            rw [if_neg c9] at H
            refine Ev7.go 1 (s' := (h, 67, [(0, .ref 3), (1, .ref t), (2, .int (K.1 0)), (3, .int y8)], [.int 0])) rfl ?_
            have H := Option.some.inj H
            subst H
            exact Ev7.ret rfl rfl (p_retZ rfl) ⟨rfl, xT, (fun k _ => rfl)⟩
        · have c6 : ¬ (¬ (fX9_isTag (K.1 2)) = 0) := c6
          rw [if_neg c6] at H
          refine Ev7.go 1 (s' := (h, 49, [(0, .ref 3), (1, .ref t), (2, .int (K.1 0))], [.int 0])) rfl ?_
          have H := Option.some.inj H
          subst H
          exact Ev7.ret rfl rfl (p_retZ rfl) ⟨rfl, xT, (fun k _ => rfl)⟩
theorem spX8_apply7 {d n : Nat} {h : pH} {t : Nat} {K : tK} {T : tT} (xK : isK h K) (xT : isT7 h t T) (ht : 7 ≤ t) (letter : Int32) {res : Int32 × tK × tT} (H : fX8_apply n K letter T = some res) : Ev7 (d + 5) mX8_apply (h, 0, [(0, .ref 3), (1, .int letter), (2, .ref t)], []) (fun r h1 => r = some (.int res.1) ∧ isK h1 res.2.1 ∧ isT7 h1 t res.2.2 ∧ fr [(3, 5), (t, t + 4)] h h1) := by
  unfold fX8_apply at H
  refine Ev7.go 2 (s' := (h, 3, [(0, .ref 3), (1, .int letter), (2, .ref t)], [.int 107, .int letter])) rfl ?_
  refine Ev7.if2 rfl (fun c1 => ?_) (fun c1 => ?_)
  · have c1 : ¬ letter = 107 := c1
    rw [if_pos c1] at H
    refine Ev7.go 2 (s' := (h, 15, [(0, .ref 3), (1, .int letter), (2, .ref t)], [.int 114, .int letter])) rfl ?_
    refine Ev7.if2 rfl (fun c2 => ?_) (fun c2 => ?_)
    · have c2 : ¬ letter = 114 := c2
      rw [if_pos c2] at H
      refine Ev7.go 2 (s' := (h, 28, [(0, .ref 3), (1, .int letter), (2, .ref t)], [.ref t, .ref 3])) rfl ?_
      obtain ⟨y4, e3, H⟩ := Option.bind_eq_some_iff.mp H
      refine Ev7.call rfl rfl rfl (p_argsV7 (by decide) xK.1 (Nat.le_of_ble_eq_true rfl)) rfl (Nat.le_of_ble_eq_true rfl) ((spX8_applyNode7 xK xT (by omega)  e3).mono (fun r h5 q6 => ?_))
      obtain ⟨rfl, q6_T, q6_f⟩ := q6
      have i7 : isK h5 K := isK.fr q6_f (fr1 (by omega)) xK
      have v8 : y4.1 &&& 1 = y4.1 := Classical.byContradiction fun q => by rw [if_neg q] at H; cases H
      rw [if_pos v8] at H
      have H := Option.some.inj H
      subst H
      exact Ev7.ret rfl rfl (p_retZ (t := .boolean) (congrArg Value.int v8)) ⟨rfl, i7, q6_T, (fun k hk => by rw [q6_f k (by have := hk; simp at this ⊢; omega)])⟩
    · have c2 : ¬ (¬ letter = 114) := c2
      rw [if_neg c2] at H
      refine Ev7.go 2 (s' := (h, 20, [(0, .ref 3), (1, .int letter), (2, .ref t)], [.ref t, .ref 3])) rfl ?_
      obtain ⟨y10, e9, H⟩ := Option.bind_eq_some_iff.mp H
      refine Ev7.call rfl rfl rfl (p_argsV7 (by decide) xK.1 (Nat.le_of_ble_eq_true rfl)) rfl (Nat.le_of_ble_eq_true rfl) ((spX8_applyRoot7 xK xT (by omega)  e9).mono (fun r h11 q12 => ?_))
      obtain ⟨rfl, q12_T, q12_f⟩ := q12
      have i13 : isK h11 K := isK.fr q12_f (fr1 (by omega)) xK
      refine Ev7.go 1 (s' := (h11, 31, [(0, .ref 3), (1, .int letter), (2, .ref t)], [.int y10.1])) rfl ?_
      have v14 : y10.1 &&& 1 = y10.1 := Classical.byContradiction fun q => by rw [if_neg q] at H; cases H
      rw [if_pos v14] at H
      have H := Option.some.inj H
      subst H
      exact Ev7.ret rfl rfl (p_retZ (t := .boolean) (congrArg Value.int v14)) ⟨rfl, i13, q12_T, (fun k hk => by rw [q12_f k (by have := hk; simp at this ⊢; omega)])⟩
  · have c1 : ¬ (¬ letter = 107) := c1
    rw [if_neg c1] at H
    refine Ev7.go 2 (s' := (h, 8, [(0, .ref 3), (1, .int letter), (2, .ref t)], [.ref t, .ref 3])) rfl ?_
    obtain ⟨y16, e15, H⟩ := Option.bind_eq_some_iff.mp H
    refine Ev7.call rfl rfl rfl (p_argsV7 (by decide) xK.1 (Nat.le_of_ble_eq_true rfl)) rfl (Nat.le_of_ble_eq_true rfl) ((spX8_applyKind7 xK xT (by omega)  e15).mono (fun r h17 q18 => ?_))
    obtain ⟨rfl, q18_K, q18_T, q18_f⟩ := q18
    have v19 : y16.1 &&& 1 = y16.1 := Classical.byContradiction fun q => by rw [if_neg q] at H; cases H
    rw [if_pos v19] at H
    have H := Option.some.inj H
    subst H
    exact Ev7.ret rfl rfl (p_retZ (t := .boolean) (congrArg Value.int v19)) ⟨rfl, q18_K, q18_T, (fun k hk => by rw [q18_f k (by have := hk; simp at this ⊢; omega)])⟩
theorem llX8_read_167 {d n : Nat} {t : Nat} {L : tL} (ht : 7 ≤ t) : ∀ (m : Nat) (h : pH) (x3 : Int32) (K : tK) (T : tT) (res : Int32 × tK × tT), lX8_read_16 n L m x3 K T = some res → isL h L → isK h K → isT7 h t T → Ev7 (d + 6) mX8_read (h, 16, [(0, .ref 3), (1, .ref 1), (2, .ref t), (3, .int x3)], []) (fun r h1 => r = some (.int res.1) ∧ isK h1 res.2.1 ∧ isT7 h1 t res.2.2 ∧ fr [(3, 5), (t, t + 4)] h h1)
  | 0, h, x3, K, T, res, H, _, _, _ => by cases H
  | m + 1, h, x3, K, T, res, H, xL, xK, xT => by
    have H : (if 200 ≤ x3 then some ((-1), K, T) else (if (fX1_size L) ≤ K.2.1 then some ((-1), K, T) else ((fX1_letterAt L K.2.1).bind fun y10 => ((fX8_readNumbers n (K.1, K.2.1 + 1, K.2.2) L (fX8_numbersBehind y10)).bind fun y12 => (if y12.1 = 0 then some (K.2.1, y12.2, T) else ((fX8_apply n y12.2 y10 T).bind fun y19 => (if ¬ y19.1 = 0 then lX8_read_16 n L m (x3 + 1) y19.2.1 y19.2.2 else some (K.2.1, y19.2.1, y19.2.2)))))))) = some res := H
    refine Ev7.go 2 (s' := (h, 20, [(0, .ref 3), (1, .ref 1), (2, .ref t), (3, .int x3)], [.int 200, .int x3])) rfl ?_
    refine Ev7.if2 rfl (fun c7 => ?_) (fun c7 => ?_)
    · have c7 : 200 ≤ x3 := c7
      rw [if_pos c7] at H
      refine Ev7.go 1 (s' := (h, 93, [(0, .ref 3), (1, .ref 1), (2, .ref t), (3, .int x3)], [.int ((-1))])) rfl ?_
      have H := Option.some.inj H
      subst H
      exact Ev7.ret rfl rfl (p_retZ rfl) ⟨rfl, xK, xT, (fun k _ => rfl)⟩
    · have c7 : ¬ (200 ≤ x3) := c7
      rw [if_neg c7] at H
      refine Ev7.go 1 (s' := (h, 24, [(0, .ref 3), (1, .ref 1), (2, .ref t), (3, .int x3)], [.ref 3])) rfl ?_
      refine Ev7.get rfl (by decide) xK.1 rfl ?_
      refine Ev7.go 1 (s' := (h, 28, [(0, .ref 3), (1, .ref 1), (2, .ref t), (3, .int x3)], [.ref 1, .int K.2.1])) rfl ?_
      refine Ev7.callE rfl rfl rfl (p_argsV7 (by decide) xL.1 (Nat.le_of_ble_eq_true rfl)) rfl (Nat.le_of_ble_eq_true rfl) (spX1_size7 xL ) ?_
      refine Ev7.if2 rfl (fun c8 => ?_) (fun c8 => ?_)
      · have c8 : (fX1_size L) ≤ K.2.1 := c8
        rw [if_pos c8] at H
        refine Ev7.go 1 (s' := (h, 93, [(0, .ref 3), (1, .ref 1), (2, .ref t), (3, .int x3)], [.int ((-1))])) rfl ?_
        have H := Option.some.inj H
        subst H
        exact Ev7.ret rfl rfl (p_retZ rfl) ⟨rfl, xK, xT, (fun k _ => rfl)⟩
      · have c8 : ¬ ((fX1_size L) ≤ K.2.1) := c8
        rw [if_neg c8] at H
        refine Ev7.go 1 (s' := (h, 35, [(0, .ref 3), (1, .ref 1), (2, .ref t), (3, .int x3)], [.ref 3])) rfl ?_
        refine Ev7.get rfl (by decide) xK.1 rfl ?_
        refine Ev7.go 3 (s' := (h, 42, [(0, .ref 3), (1, .ref 1), (2, .ref t), (3, .int x3), (4, .int K.2.1)], [.ref 3, .ref 1])) rfl ?_
        refine Ev7.get rfl (by decide) xK.1 rfl ?_
        obtain ⟨y10, e9, H⟩ := Option.bind_eq_some_iff.mp H
        refine Ev7.callE rfl rfl rfl (p_argsV7 (by decide) xL.1 (Nat.le_of_ble_eq_true rfl)) rfl (Nat.le_of_ble_eq_true rfl) (spX1_letterAt7 xL K.2.1 e9) ?_
        refine Ev7.go 3 (s' := (h, 52, [(0, .ref 3), (1, .ref 1), (2, .ref t), (3, .int x3), (4, .int K.2.1), (5, .int y10)], [.ref 3, .ref 3])) rfl ?_
        refine Ev7.get rfl (by decide) xK.1 rfl ?_
        refine Ev7.go 2 (s' := (h, 57, [(0, .ref 3), (1, .ref 1), (2, .ref t), (3, .int x3), (4, .int K.2.1), (5, .int y10)], [.int (K.2.1 + 1), .ref 3])) rfl ?_
        refine Ev7.put rfl rfl (by decide) xK.1 (Nat.le_of_ble_eq_true rfl) rfl rfl (fs' := [.ref 4, .int (K.2.1 + 1), .int K.2.2]) rfl ?_
        refine Ev7.go 3 (s' := ((pu h 3 (eO 7 [.ref 4, .int (K.2.1 + 1), .int K.2.2])), 64, [(0, .ref 3), (1, .ref 1), (2, .ref t), (3, .int x3), (4, .int K.2.1), (5, .int y10)], [.int y10, .ref 1, .ref 3])) rfl ?_
        refine Ev7.callE rfl rfl rfl rfl rfl (Nat.le_of_ble_eq_true rfl) (spX8_numbersBehind7  y10) ?_
        obtain ⟨y12, e11, H⟩ := Option.bind_eq_some_iff.mp H
        refine Ev7.call rfl rfl rfl (p_argsV7 (by decide) pu_s (Nat.le_of_ble_eq_true rfl)) rfl (Nat.le_of_ble_eq_true rfl) ((spX8_readNumbers7 (h := (pu h 3 (eO 7 [.ref 4, .int (K.2.1 + 1), .int K.2.2]))) (K := (K.1, K.2.1 + 1, K.2.2)) (L := L) ⟨pu_s, (pu_n (by decide) xK.2)⟩ ⟨(pu_n (by decide) xL.1), (pu_n (by decide) xL.2)⟩ (fX8_numbersBehind y10) e11).mono (fun r h13 q14 => ?_))
        obtain ⟨rfl, q14_K, q14_f⟩ := q14
        have i15 : isL h13 L := isL.fr q14_f (fr1 (by omega)) ⟨(pu_n (by decide) xL.1), (pu_n (by decide) xL.2)⟩
        have i16 : isT7 h13 t T := isT7.fr q14_f (fr1 (by omega)) ⟨(pu_n (by omega) xT.1), (pu_n (by omega) xT.2.1), (pu_n (by omega) xT.2.2.1), (pu_n (by omega) xT.2.2.2.1), (by have := xT.2.2.2.2; omega)⟩
        refine Ev7.if1 rfl (fun c17 => ?_) (fun c17 => ?_)
        · have c17 : y12.1 = 0 := c17
          rw [if_pos c17] at H
          refine Ev7.go 1 (s' := (h13, 85, [(0, .ref 3), (1, .ref 1), (2, .ref t), (3, .int x3), (4, .int K.2.1), (5, .int y10)], [.int K.2.1])) rfl ?_
          have H := Option.some.inj H
          subst H
          exact Ev7.ret rfl rfl (p_retZ rfl) ⟨rfl, q14_K, i16, (fun k hk => by rw [q14_f k (by have := hk; simp at this ⊢; omega)]; rw [pu_x (show k ≠ 3 from fun e => by have := hk; simp at this; omega)])⟩
        · have c17 : ¬ (y12.1 = 0) := c17
          rw [if_neg c17] at H
          refine Ev7.go 3 (s' := (h13, 77, [(0, .ref 3), (1, .ref 1), (2, .ref t), (3, .int x3), (4, .int K.2.1), (5, .int y10)], [.ref t, .int y10, .ref 3])) rfl ?_
          obtain ⟨y19, e18, H⟩ := Option.bind_eq_some_iff.mp H
          refine Ev7.call rfl rfl rfl (p_argsV7 (by decide) q14_K.1 (Nat.le_of_ble_eq_true rfl)) rfl (Nat.le_of_ble_eq_true rfl) ((spX8_apply7 q14_K i16 (by omega) y10 e18).mono (fun r h20 q21 => ?_))
          obtain ⟨rfl, q21_K, q21_T, q21_f⟩ := q21
          have i22 : isL h20 L := isL.fr q21_f (fr2 (by omega) (by omega)) i15
          refine Ev7.if1 rfl (fun c23 => ?_) (fun c23 => ?_)
          · have c23 : ¬ y19.1 = 0 := c23
            rw [if_pos c23] at H
            refine Ev7.go 2 (s' := (h20, 16, [(0, .ref 3), (1, .ref 1), (2, .ref t), (3, .int (x3 + 1)), (4, .int K.2.1), (5, .int y10)], [])) rfl ?_
            refine Ev7.live rfl (lv' := [(0, .ref 3), (1, .ref 1), (2, .ref t), (3, .int (x3 + 1))]) rfl ?_
            refine (llX8_read_167 ht m h20 (x3 + 1) y19.2.1 y19.2.2 _ H i22 q21_K q21_T).mono (fun r h9 q9 => ?_)
            obtain ⟨q9r, q9_0, q9_1, q9f⟩ := q9
            exact ⟨q9r, q9_0, q9_1, fun k hk => (q9f k hk).trans (by rw [q21_f k (by have := hk; simp at this ⊢; omega)]; rw [q14_f k (by have := hk; simp at this ⊢; omega)]; rw [pu_x (show k ≠ 3 from fun e => by have := hk; simp at this; omega)])⟩
          · have c23 : ¬ (¬ y19.1 = 0) := c23
            rw [if_neg c23] at H
            refine Ev7.go 1 (s' := (h20, 85, [(0, .ref 3), (1, .ref 1), (2, .ref t), (3, .int x3), (4, .int K.2.1), (5, .int y10)], [.int K.2.1])) rfl ?_
            have H := Option.some.inj H
            subst H
            exact Ev7.ret rfl rfl (p_retZ rfl) ⟨rfl, q21_K, q21_T, (fun k hk => by rw [q21_f k (by have := hk; simp at this ⊢; omega)]; rw [q14_f k (by have := hk; simp at this ⊢; omega)]; rw [pu_x (show k ≠ 3 from fun e => by have := hk; simp at this; omega)])⟩
theorem spX8_read7 {d n : Nat} {h : pH} {t : Nat} {K : tK} {L : tL} {T : tT} (xK : isK h K) (xL : isL h L) (xT : isT7 h t T) (ht : 7 ≤ t) {res : Int32 × tK × tT} (H : fX8_read n K L T = some res) : Ev7 (d + 6) mX8_read (h, 0, [(0, .ref 3), (1, .ref 1), (2, .ref t)], []) (fun r h1 => r = some (.int res.1) ∧ isK h1 res.2.1 ∧ isT7 h1 t res.2.2 ∧ fr [(3, 5), (t, t + 4)] h h1) := by
  unfold fX8_read at H
  refine Ev7.go 1 (s' := (h, 1, [(0, .ref 3), (1, .ref 1), (2, .ref t)], [.ref t])) rfl ?_
  obtain ⟨y2, e1, H⟩ := Option.bind_eq_some_iff.mp H
  refine Ev7.call rfl rfl rfl (p_argsV7 (by have := xT.2.2.2.2; omega) xT.1 (Nat.le_of_ble_eq_true rfl)) rfl (Nat.le_of_ble_eq_true rfl) ((spX7_clear7 xT  e1).mono (fun r h3 q4 => ?_))
  obtain ⟨rfl, q4_T, q4_f⟩ := q4
  have i5 : isK h3 K := isK.fr q4_f (fr1 (by omega)) xK
  have i6 : isL h3 L := isL.fr q4_f (fr1 (by omega)) xL
  refine Ev7.go 2 (s' := (h3, 6, [(0, .ref 3), (1, .ref 1), (2, .ref t)], [.int 0, .ref 3])) rfl ?_
  refine Ev7.put rfl rfl (by decide) i5.1 (Nat.le_of_ble_eq_true rfl) rfl rfl (fs' := [.ref 4, .int 0, .int K.2.2]) rfl ?_
  refine Ev7.go 2 (s' := ((pu h3 3 (eO 7 [.ref 4, .int 0, .int K.2.2])), 11, [(0, .ref 3), (1, .ref 1), (2, .ref t)], [.int 0, .ref 3])) rfl ?_
  refine Ev7.put rfl rfl (by decide) pu_s (Nat.le_of_ble_eq_true rfl) rfl rfl (fs' := [.ref 4, .int 0, .int 0]) rfl ?_
  refine Ev7.go 2 (s' := ((pu (pu h3 3 (eO 7 [.ref 4, .int 0, .int K.2.2])) 3 (eO 7 [.ref 4, .int 0, .int 0])), 16, [(0, .ref 3), (1, .ref 1), (2, .ref t), (3, .int 0)], [])) rfl ?_
  refine Ev7.live rfl (lv' := [(0, .ref 3), (1, .ref 1), (2, .ref t), (3, .int 0)]) rfl ?_
  refine (llX8_read_167 ht n (pu (pu h3 3 (eO 7 [.ref 4, .int 0, .int K.2.2])) 3 (eO 7 [.ref 4, .int 0, .int 0])) 0 (K.1, 0, 0) y2 _ H ⟨(pu_n (by decide) (pu_n (by decide) i6.1)), (pu_n (by decide) (pu_n (by decide) i6.2))⟩ ⟨pu_s, (pu_n (by decide) (pu_n (by decide) i5.2))⟩ ⟨(pu_n (by omega) (pu_n (by omega) q4_T.1)), (pu_n (by omega) (pu_n (by omega) q4_T.2.1)), (pu_n (by omega) (pu_n (by omega) q4_T.2.2.1)), (pu_n (by omega) (pu_n (by omega) q4_T.2.2.2.1)), (by have := q4_T.2.2.2.2; omega)⟩).mono (fun r h9 q9 => ?_)
  obtain ⟨q9r, q9_0, q9_1, q9f⟩ := q9
  exact ⟨q9r, q9_0, q9_1, fun k hk => (q9f k hk).trans (by rw [pu_x (show k ≠ 3 from fun e => by have := hk; simp at this; omega)]; rw [pu_x (show k ≠ 3 from fun e => by have := hk; simp at this; omega)]; rw [q4_f k (by have := hk; simp at this ⊢; omega)])⟩
theorem spX9_settle7 {d n : Nat} {h : pH} {X : tX} {T : tT} {O : tO} (xX : isX h X) (xT : isT7 h 7 T) (xO : isO h O) {res : tX × tO} (H : fX9_settle n X T O = some res) : Ev7 (d + 5) mX9_settle (h, 0, [(0, .ref 0)], []) (fun r h1 => r = none ∧ isX h1 res.1 ∧ isO h1 res.2 ∧ fr [(0, 1), (15, 23)] h h1) := by
  unfold fX9_settle at H
  refine Ev7.go 1 (s' := (h, 1, [(0, .ref 0)], [.ref 0])) rfl ?_
  refine Ev7.get rfl (by decide) xX rfl ?_
  refine Ev7.go 1 (s' := (h, 5, [(0, .ref 0)], [.ref 0, .ref 15])) rfl ?_
  refine Ev7.get rfl (by decide) xX rfl ?_
  obtain ⟨y2, e1, H⟩ := Option.bind_eq_some_iff.mp H
  refine Ev7.call rfl rfl rfl (p_argsV7 (by decide) xO.1 (Nat.le_of_ble_eq_true rfl)) rfl (Nat.le_of_ble_eq_true rfl) ((spX3_read7 xO xT  e1).mono (fun r h3 q4 => ?_))
  obtain ⟨rfl, q4_O, q4_f⟩ := q4
  have i5 : isX h3 X := isX.fr q4_f (fr1 (by omega)) xX
  have i6 : isT7 h3 7 T := isT7.fr q4_f (fr1 (by omega)) xT
  refine Ev7.go 2 (s' := (h3, 13, [(0, .ref 0)], [.int 0, .ref 0])) rfl ?_
  refine Ev7.put rfl rfl (by decide) i5 (Nat.le_of_ble_eq_true rfl) rfl rfl (fs' := [.ref 1, .ref 3, .ref 5, .ref 7, .ref 11, .ref 15, .ref 23, .ref 28, .ref 32, .int X.1, .ref 36, .ref 40, .ref 44, .int 0]) rfl ?_
  have H := Option.some.inj H
  subst H
  exact Ev7.ret rfl rfl rfl ⟨rfl, pu_s, ⟨(pu_n (by decide) q4_O.1), (pu_n (by decide) q4_O.2.1), (pu_n (by decide) q4_O.2.2.1), (pu_n (by decide) q4_O.2.2.2.1), (pu_n (by decide) q4_O.2.2.2.2.1), (pu_n (by decide) q4_O.2.2.2.2.2.1), (pu_n (by decide) q4_O.2.2.2.2.2.2.1), (pu_n (by decide) q4_O.2.2.2.2.2.2.2)⟩, (fun k hk => by rw [pu_x (show k ≠ 0 from fun e => by have := hk; simp at this; omega)]; rw [q4_f k (by have := hk; simp at this ⊢; omega)])⟩
