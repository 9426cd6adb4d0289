/-! RUNS OF THE PURE MACHINE over the system's tables: Ev d M s Q: from s the method M comes to its end, at most d calls deep, with an answer and a heap of which Q holds. -/
def pN : Nat := 89
def Ev (d : Nat) (M : pM) (s : pS) (Q : Option Value → pH → Prop) : Prop := ∃ n r h', p_run pN p_Cs p_T n d M s = some (r, h') ∧ Q r h'
theorem p_run_mono {N : Nat} {Cs : List pCi} {Ms : List pM} : ∀ {n k d : Nat} {M : pM} {s : pS} {x : Option Value × pH}, n ≤ k → p_run N Cs Ms n d M s = some x → p_run N Cs Ms k d M s = some x
  | 0, _, _, _, _, _, _, h => by simp [p_run] at h
  | n + 1, 0, _, _, _, _, hk, _ => absurd hk (by omega)
  | n + 1, k + 1, d, M, s, x, hk, h => by
    have hk' : n ≤ k := by omega
    simp only [p_run] at h ⊢
    split at h
    · cases h
    · rename_i i len a ps ks hlook
      split at h
      · split at h
        · exact p_run_mono hk' h
        · cases h
      · exact h
      · split at h
        · cases h
        · rename_i d'
          split at h
          · rename_i hcp
            rw [if_pos hcp]
            split at h
            · exact p_run_mono hk' h
            · cases h
          · rename_i hcp
            rw [if_neg hcp]
            split at h
            · rename_i vs rest hargs
              split at h
              · rename_i M' hM'
                split at h
                · rename_i hlen
                  rw [if_pos hlen]
                  split at h
                  · rename_i r1 h1 hcall
                    rw [p_run_mono hk' hcall]
                    exact p_run_mono hk' h
                  · cases h
                · cases h
              · cases h
            · cases h
/-- k instructions that are no calls and no returns -/
def p_go : Nat → pM → pS → Option pS
  | 0, _, s => some s
  | k + 1, M, s =>
    match List.lookup s.2.1 M.2.2.2.2.2 with
    | none => none
    | some (i, len, a, _, ks) =>
      match p_kd i with
      | 0 => (match p_step pN p_Cs M.2.2.1 i len a (s.1, s.2.1, p_live ks s.2.2.1, s.2.2.2) with
        | some s' => p_go k M s'
        | none => none)
      | _ => none
theorem p_go_run {d : Nat} {M : pM} : ∀ {k n : Nat} {s s' : pS} {x : Option Value × pH}, p_go k M s = some s' → p_run pN p_Cs p_T n d M s' = some x → p_run pN p_Cs p_T (k + n) d M s = some x
  | 0, n, s, s', x, h, hr => by
    cases h
    rw [Nat.zero_add]
    exact hr
  | k + 1, n, s, s', x, h, hr => by
    simp only [p_go] at h
    split at h
    · cases h
    · rename_i i len a ps ks hlook
      split at h
      · rename_i hkd
        split at h
        · rename_i s1 hst
          rw [show k + 1 + n = (k + n) + 1 by omega]
          simp only [p_run, hlook, hkd, hst]
          exact p_go_run h hr
        · cases h
      · cases h
theorem Ev.go {d : Nat} {M : pM} {s s' : pS} {Q : Option Value → pH → Prop} (k : Nat) (h : p_go k M s = some s') (kk : Ev d M s' Q) : Ev d M s Q := by
  obtain ⟨n, r, h', e, q⟩ := kk
  exact ⟨k + n, r, h', p_go_run h e, q⟩
theorem Ev.mono {d : Nat} {M : pM} {s : pS} {Q Q' : Option Value → pH → Prop} (h : Ev d M s Q) (hq : ∀ r h', Q r h' → Q' r h') : Ev d M s Q' := by
  obtain ⟨n, r, h', e, q⟩ := h
  exact ⟨n, r, h', e, hq r h' q⟩
section EVR
variable {d : Nat} {M : pM} {Q : Option Value → pH → Prop} {h : pH} {pc : Nat} {lv : pLv} {st : List Value} {len : Nat} {a : Nat × Nat × Nat} {ps : List Nat}
theorem Ev.one {i : Instr} {s' : pS} (hf : List.lookup pc M.2.2.2.2.2 = some (i, len, a, ps, [])) (hk : p_kd i = 0) (hs : p_step pN p_Cs M.2.2.1 i len a (h, pc, lv, st) = some s') (kk : Ev d M s' Q) : Ev d M (h, pc, lv, st) Q := by
  refine Ev.go 1 ?_ kk
  simp only [p_go, hf, hk, p_live, hs]
theorem Ev.ret {i : Instr} {r : Option Value} (hf : List.lookup pc M.2.2.2.2.2 = some (i, len, a, ps, [])) (hk : p_kd i = 1) (hs : p_ret M.2.2.2.1 i (h, pc, lv, st) = some (r, h)) (kk : Q r h) : Ev d M (h, pc, lv, st) Q :=
  ⟨1, r, h, by simp only [p_run, hf, hk, p_live, hs], kk⟩
theorem Ev.if1 {c : ClassFile.Cond} {off : Int} {x : Int32} {r : List Value} (hf : List.lookup pc M.2.2.2.2.2 = some (.ifCond c off, len, a, ps, [])) (kt : p_cd c x 0 → Ev d M (h, a.1, lv, r) Q) (kf : ¬ p_cd c x 0 → Ev d M (h, pc + len, lv, r) Q) : Ev d M (h, pc, lv, .int x :: r) Q := by
  by_cases hc : p_cd c x 0
  · refine Ev.one hf rfl ?_ (kt hc)
    simp only [p_step, p_if1, if_pos ((p_cb_iff c x 0).mpr hc)]
  · refine Ev.one hf rfl ?_ (kf hc)
    simp only [p_step, p_if1, if_neg (fun q => hc ((p_cb_iff c x 0).mp q))]
theorem Ev.if2 {c : ClassFile.Cond} {off : Int} {x y : Int32} {r : List Value} (hf : List.lookup pc M.2.2.2.2.2 = some (.if_icmp c off, len, a, ps, [])) (kt : p_cd c x y → Ev d M (h, a.1, lv, r) Q) (kf : ¬ p_cd c x y → Ev d M (h, pc + len, lv, r) Q) : Ev d M (h, pc, lv, .int y :: .int x :: r) Q := by
  by_cases hc : p_cd c x y
  · refine Ev.one hf rfl ?_ (kt hc)
    simp only [p_step, p_if2, if_pos ((p_cb_iff c x y).mpr hc)]
  · refine Ev.one hf rfl ?_ (kf hc)
    simp only [p_step, p_if2, if_neg (fun q => hc ((p_cb_iff c x y).mp q))]
theorem Ev.idiv {x y : Int32} {r : List Value} (hf : List.lookup pc M.2.2.2.2.2 = some (.idiv, len, a, ps, [])) (hy : ¬ y = 0) (kk : Ev d M (h, pc + len, lv, .int (x / y) :: r) Q) : Ev d M (h, pc, lv, .int y :: .int x :: r) Q := by
  refine Ev.one hf rfl ?_ kk
  simp only [p_step, p_bD, if_neg hy]
theorem Ev.irem {x y : Int32} {r : List Value} (hf : List.lookup pc M.2.2.2.2.2 = some (.irem, len, a, ps, [])) (hy : ¬ y = 0) (kk : Ev d M (h, pc + len, lv, .int (x - x / y * y) :: r) Q) : Ev d M (h, pc, lv, .int y :: .int x :: r) Q := by
  refine Ev.one hf rfl ?_ kk
  simp only [p_step, p_bD, if_neg hy]
theorem Ev.get {b idx : Nat} {fs : List Value} {v : Value} {r : List Value} (hf : List.lookup pc M.2.2.2.2.2 = some (.getfield idx, len, a, ps, [])) (hb : b < pN) (hh : h b = eO a.1 fs) (hv : fs[a.2.1]? = some v) (kk : Ev d M (h, pc + len, lv, v :: r) Q) : Ev d M (h, pc, lv, .ref b :: r) Q := by
  refine Ev.one hf rfl ?_ kk
  simp only [p_step, p_get, if_pos hb, hh, if_true, hv]
theorem Ev.put {b idx : Nat} {fs : List Value} {v : Value} {r : List Value} {C : pCi} (hf : List.lookup pc M.2.2.2.2.2 = some (.putfield idx, len, a, ps, [])) (hC : p_Cs[a.1]? = some C) (hb : b < pN) (hh : h b = eO a.1 fs) (hl : a.2.1 < fs.length) (hn : narrow (C.2 a.2.1) v = v) (hfi : fits (C.2 a.2.1) v = true) {fs' : List Value} (hs : fs.set a.2.1 v = fs') (kk : Ev d M (pu h b (eO a.1 fs'), pc + len, lv, r) Q) : Ev d M (h, pc, lv, v :: .ref b :: r) Q := by
  refine Ev.one hf rfl ?_ kk
  simp only [p_step, hC, p_put, if_pos hb, hh, hs]
  rw [if_pos ⟨trivial, hl, hn, hfi⟩]
theorem Ev.iald {b n : Nat} {f : Nat → Int32} {i : Int32} {r : List Value} (hf : List.lookup pc M.2.2.2.2.2 = some (.iaload, len, a, ps, [])) (hb : b < pN) (hh : h b = eI n f) (hi : vp_in i n) (kk : Ev d M (h, pc + len, lv, .int (f i.toNatClampNeg) :: r) Q) : Ev d M (h, pc, lv, .int i :: .ref b :: r) Q := by
  refine Ev.one hf rfl ?_ kk
  simp only [p_step, p_iald, if_pos hb, hh]
  rw [if_neg hi]
theorem Ev.lald {b n : Nat} {f : Nat → Int64} {i : Int32} {r : List Value} (hf : List.lookup pc M.2.2.2.2.2 = some (.laload, len, a, ps, [])) (hb : b < pN) (hh : h b = eJ n f) (hi : vp_in i n) (kk : Ev d M (h, pc + len, lv, .long (f i.toNatClampNeg) :: r) Q) : Ev d M (h, pc, lv, .int i :: .ref b :: r) Q := by
  refine Ev.one hf rfl ?_ kk
  simp only [p_step, p_lald, if_pos hb, hh]
  rw [if_neg hi]
theorem Ev.aald {b n q : Nat} {f : Nat → Option Nat} {i : Int32} {r : List Value} (hf : List.lookup pc M.2.2.2.2.2 = some (.aaload, len, a, ps, [])) (hb : b < pN) (hh : h b = eR n f) (hi : vp_in i n) (hq : f i.toNatClampNeg = some q) (kk : Ev d M (h, pc + len, lv, .ref q :: r) Q) : Ev d M (h, pc, lv, .int i :: .ref b :: r) Q := by
  refine Ev.one hf rfl ?_ kk
  simp only [p_step, p_aald, if_pos hb, hh]
  rw [if_neg hi, hq]
theorem Ev.iast {b n : Nat} {f : Nat → Int32} {i x : Int32} {r : List Value} (hf : List.lookup pc M.2.2.2.2.2 = some (.iastore, len, a, ps, [])) (hb : b < pN) (hh : h b = eI n f) (hi : vp_in i n) (kk : Ev d M (pu h b (eI n (upd f i.toNatClampNeg x)), pc + len, lv, r) Q) : Ev d M (h, pc, lv, .int x :: .int i :: .ref b :: r) Q := by
  refine Ev.one hf rfl ?_ kk
  simp only [p_step, p_iast, if_pos hb, hh]
  rw [if_neg hi]
theorem Ev.last {b n : Nat} {f : Nat → Int64} {i : Int32} {x : Int64} {r : List Value} (hf : List.lookup pc M.2.2.2.2.2 = some (.lastore, len, a, ps, [])) (hb : b < pN) (hh : h b = eJ n f) (hi : vp_in i n) (kk : Ev d M (pu h b (eJ n (vp_updL f i.toNatClampNeg x)), pc + len, lv, r) Q) : Ev d M (h, pc, lv, .long x :: .int i :: .ref b :: r) Q := by
  refine Ev.one hf rfl ?_ kk
  simp only [p_step, p_last, if_pos hb, hh]
  rw [if_neg hi]
theorem Ev.alen {b n : Nat} {r : List Value} (hf : List.lookup pc M.2.2.2.2.2 = some (.arraylength, len, a, ps, [])) (hb : b < pN) (hh : p_len (h b) = some n) (kk : Ev d M (h, pc + len, lv, .int (Int32.ofNat n) :: r) Q) : Ev d M (h, pc, lv, .ref b :: r) Q := by
  refine Ev.one hf rfl ?_ kk
  simp only [p_step, p_alen, if_pos hb, hh]
theorem Ev.tsw {dflt lo hi : Int} {offs : Array Int} {x : Int32} {r : List Value} {s' : pS} (hf : List.lookup pc M.2.2.2.2.2 = some (.tableswitch dflt lo hi offs, len, a, ps, [])) (hs : p_tsw dflt lo hi offs (h, pc, lv, .int x :: r) = some s') (kk : Ev d M s' Q) : Ev d M (h, pc, lv, .int x :: r) Q :=
  Ev.one hf rfl hs kk
theorem Ev.cpy {b c n0 n1 idx : Nat} {f g : Nat → Int32} {n dp sp : Int32} {r : List Value} (hf : List.lookup pc M.2.2.2.2.2 = some (.invokestatic idx, len, a, ps, [])) (hc : a.2.2 = 2) (hb : b < pN) (hc2 : c < pN) (h0 : h b = eI n0 f) (h1 : h c = eI n1 g) (c1 : ¬ sp < 0) (c2 : ¬ dp < 0) (c3 : ¬ n < 0) (c4 : sp.toNatClampNeg + n.toNatClampNeg ≤ n0) (c5 : dp.toNatClampNeg + n.toNatClampNeg ≤ n1) (c6 : (r.map fun v => v.category).sum ≤ 8)
    (kk : Ev (d + 1) M (pu h c (eI n1 (va_cpy f g sp.toNatClampNeg dp.toNatClampNeg n.toNatClampNeg)), pc + 3, lv, r) Q) : Ev (d + 1) M (h, pc, lv, .int n :: .int dp :: .ref c :: .int sp :: .ref b :: r) Q := by
  obtain ⟨k, r', h', e, q⟩ := kk
  refine ⟨k + 1, r', h', ?_, q⟩
  have e1 : p_nat pN a.2.2 (h, pc, lv, .int n :: .int dp :: .ref c :: .int sp :: .ref b :: r) = some (pu h c (eI n1 (va_cpy f g sp.toNatClampNeg dp.toNatClampNeg n.toNatClampNeg)), pc + 3, lv, r) := by
    simp only [p_nat, hc, if_true, p_copy, if_pos (show b < pN ∧ c < pN from ⟨hb, hc2⟩), h0, h1]
    rw [if_neg]
    simp only [not_or, Nat.not_lt]
    exact ⟨⟨c1, c2, c3⟩, c4, c5, c6⟩
  have e2 : p_isCp (.invokestatic idx) a.2.2 = true := by simp [p_isCp, hc]
  simp only [p_run, hf, p_kd, p_live]
  rw [if_pos e2, e1]
  exact e
theorem Ev.mmax {idx : Nat} {x y : Int32} {r : List Value} (hf : List.lookup pc M.2.2.2.2.2 = some (.invokestatic idx, len, a, ps, [])) (hc : a.2.2 = 3) (c6 : (r.map fun v => v.category).sum ≤ 8) (kk : Ev (d + 1) M (h, pc + 3, lv, .int (if x < y then y else x) :: r) Q) : Ev (d + 1) M (h, pc, lv, .int y :: .int x :: r) Q := by
  obtain ⟨k, r', h', e, q⟩ := kk
  refine ⟨k + 1, r', h', ?_, q⟩
  have e1 : p_nat pN a.2.2 (h, pc, lv, .int y :: .int x :: r) = some (h, pc + 3, lv, .int (if x < y then y else x) :: r) := by
    simp only [p_nat, hc, p_mm, if_neg (show ¬ 3 = 2 by decide), if_true]
    rw [if_neg (by omega)]
  have e2 : p_isCp (.invokestatic idx) a.2.2 = true := by simp [p_isCp, hc]
  simp only [p_run, hf, p_kd, p_live]
  rw [if_pos e2, e1]
  exact e
theorem Ev.mmin {idx : Nat} {x y : Int32} {r : List Value} (hf : List.lookup pc M.2.2.2.2.2 = some (.invokestatic idx, len, a, ps, [])) (hc : a.2.2 = 4) (c6 : (r.map fun v => v.category).sum ≤ 8) (kk : Ev (d + 1) M (h, pc + 3, lv, .int (if y < x then y else x) :: r) Q) : Ev (d + 1) M (h, pc, lv, .int y :: .int x :: r) Q := by
  obtain ⟨k, r', h', e, q⟩ := kk
  refine ⟨k + 1, r', h', ?_, q⟩
  have e1 : p_nat pN a.2.2 (h, pc, lv, .int y :: .int x :: r) = some (h, pc + 3, lv, .int (if y < x then y else x) :: r) := by
    simp only [p_nat, hc, p_mm, if_neg (show ¬ 4 = 2 by decide), if_neg (show ¬ 4 = 3 by decide), if_true]
    rw [if_neg (by omega)]
    rfl
  have e2 : p_isCp (.invokestatic idx) a.2.2 = true := by simp [p_isCp, hc]
  simp only [p_run, hf, p_kd, p_live]
  rw [if_pos e2, e1]
  exact e
/-- a call: the callee's run, then on -/
theorem Ev.call {i : Instr} {M' : pM} {vs rest : List Value} (hf : List.lookup pc M.2.2.2.2.2 = some (i, len, a, ps, [])) (hk : p_kd i = 2) (hc : p_isCp i a.2.2 = false) (ha : p_args pN i a.2.1 a.2.2 (h, pc, lv, st) = some (vs, rest)) (hM : p_T[a.1]? = some M') (hl : (lg_sl vs).length ≤ M'.2.2.1)
    (kk : Ev d M' (h, 0, lv_args 0 vs, []) (fun r h1 => Ev (d + 1) M (h1, pc + 3, lv, r.toList ++ rest) Q)) : Ev (d + 1) M (h, pc, lv, st) Q := by
  obtain ⟨n1, r1, h1, e1, n2, r2, h2, e2, q⟩ := kk
  refine ⟨max n1 n2 + 1, r2, h2, ?_, q⟩
  have e3 := p_run_mono (Nat.le_max_left n1 n2) e1
  have e4 := p_run_mono (Nat.le_max_right n1 n2) e2
  simp only [p_run, hf, hk, p_live]
  rw [if_neg (by rw [hc]; decide), ha, hM]
  simp only [if_pos hl, e3]
  exact e4
end EVR
theorem pu_s {h : pH} {k : Nat} {c : pE} : pu h k c k = c := if_pos rfl
theorem pu_n {h : pH} {k j : Nat} {c x : pE} (hj : j ≠ k) (hx : h j = x) : pu h k c j = x := (if_neg hj).trans hx
theorem p_retZ {h : pH} {pc : Nat} {lv : pLv} {v : Int32} {rt : Option FieldType} {t : FieldType} (e : narrow t (.int v) = .int v) (hr : rt = some t := by rfl) : p_ret rt .ireturn (h, pc, lv, [.int v]) = some (some (.int v), h) := by
  subst hr
  simp only [p_ret, if_pos e]
theorem p_argsV {idx na ci r pc : Nat} {h : pH} {lv : pLv} {st rest fs : List Value} (hr : r < pN) (hh : h r = eO ci fs) (hc : (rest.map fun v => v.category).sum ≤ 8) (hd : st.drop na = .ref r :: rest := by rfl) (hl : na ≤ st.length := by exact Nat.le_of_ble_eq_true rfl) : p_args pN (.invokevirtual idx) na ci (h, pc, lv, st) = some (.ref r :: (st.take na).reverse, rest) := by
  simp only [p_args, hd, if_pos (show r < pN ∧ na ≤ st.length ∧ (rest.map fun v => v.category).sum ≤ 8 from ⟨hr, hl, hc⟩), hh, if_true]
/-- a call of a method that reads alone, with a known answer -/
theorem Ev.callE {d : Nat} {M : pM} {Q : Option Value → pH → Prop} {h : pH} {pc : Nat} {lv : pLv} {st : List Value} {len : Nat} {a : Nat × Nat × Nat} {ps : List Nat} {i : Instr} {M' : pM} {vs rest : List Value} {x : Option Value} (hf : List.lookup pc M.2.2.2.2.2 = some (i, len, a, ps, [])) (hk : p_kd i = 2) (hc : p_isCp i a.2.2 = false) (ha : p_args pN i a.2.1 a.2.2 (h, pc, lv, st) = some (vs, rest)) (hM : p_T[a.1]? = some M') (hl : (lg_sl vs).length ≤ M'.2.2.1)
    (he : Ev d M' (h, 0, lv_args 0 vs, []) (fun r h1 => r = x ∧ h1 = h)) (kk : Ev (d + 1) M (h, pc + 3, lv, x.toList ++ rest) Q) : Ev (d + 1) M (h, pc, lv, st) Q := by
  refine Ev.call hf hk hc ha hM hl (he.mono (fun r h1 hq => ?_))
  obtain ⟨rfl, rfl⟩ := hq
  exact kk
/-- a row of a two-dimensional array -/
theorem p_rowAt {n b : Nat} {i : Int32} (h : vp_in i n) : (fun j => if j < n then some (b + j) else none) i.toNatClampNeg = some (b + i.toNatClampNeg) := if_pos (Nat.not_le.mp fun q => h (Or.inr q))
theorem vi_of {v : Int32} {n : Nat} {m : Int32} (hm : m.toInt = n) (h0 : ¬ v < 0) (h1 : v < m) : vp_in v n := by
  rw [vp_in_iff]
  rw [Int32.lt_iff_toInt_lt] at h0 h1
  have e : (0 : Int32).toInt = 0 := rfl
  omega
