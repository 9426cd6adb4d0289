/-! a step of the pure machine is a step of the machine -/
theorem p_ld_inv {t : Value → Bool} {i len : Nat} {s s' : pS} (h : p_ld t i len s = some s') : ∃ v, List.lookup i s.2.2.1 = some v ∧ t v = true ∧ s' = (s.1, s.2.1 + len, s.2.2.1, v :: s.2.2.2) := by
  unfold p_ld at h
  split at h
  · rename_i v hv
    split at h
    · rename_i ht
      exact ⟨v, hv, ht, (Option.some.inj h).symm⟩
    · cases h
  · cases h
theorem p_st1_inv {t : Value → Bool} {mx i len : Nat} {s s' : pS} (h : p_st1 t mx i len s = some s') : ∃ v r, s.2.2.2 = v :: r ∧ t v = true ∧ i < mx ∧ s' = (s.1, s.2.1 + len, p_s1 i v s.2.2.1, r) := by
  unfold p_st1 at h
  split at h
  · rename_i v r hv
    split at h
    · rename_i ht
      exact ⟨v, r, hv, ht.1, ht.2, (Option.some.inj h).symm⟩
    · cases h
  · cases h
theorem p_st2_inv {mx i len : Nat} {s s' : pS} (h : p_st2 mx i len s = some s') : ∃ v r, s.2.2.2 = v :: r ∧ p_isL v = true ∧ i + 1 < mx ∧ s' = (s.1, s.2.1 + len, p_s2 i v s.2.2.1, r) := by
  unfold p_st2 at h
  split at h
  · rename_i v r hv
    split at h
    · rename_i ht
      exact ⟨v, r, hv, ht.1, ht.2, (Option.some.inj h).symm⟩
    · cases h
  · cases h
theorem p_iinc_inv {mx i len : Nat} {n : Int} {s s' : pS} (h : p_iinc mx i n len s = some s') : ∃ x, List.lookup i s.2.2.1 = some (.int x) ∧ i < mx ∧ s' = (s.1, s.2.1 + len, p_s1 i (.int (x + Int32.ofInt n)) s.2.2.1, s.2.2.2) := by
  unfold p_iinc at h
  split at h
  · rename_i x hv
    split at h
    · rename_i ht
      exact ⟨x, hv, ht, (Option.some.inj h).symm⟩
    · cases h
  · cases h
theorem p_bI_inv {f : Int32 → Int32 → Int32} {len : Nat} {s s' : pS} (h : p_bI f len s = some s') : ∃ x y r, s.2.2.2 = .int y :: .int x :: r ∧ s' = (s.1, s.2.1 + len, s.2.2.1, .int (f x y) :: r) := by
  unfold p_bI at h
  split at h
  · rename_i y x r hv
    exact ⟨x, y, r, hv, (Option.some.inj h).symm⟩
  · cases h
theorem p_bD_inv {f : Int32 → Int32 → Int32} {len : Nat} {s s' : pS} (h : p_bD f len s = some s') : ∃ x y r, s.2.2.2 = .int y :: .int x :: r ∧ ¬ y = 0 ∧ s' = (s.1, s.2.1 + len, s.2.2.1, .int (f x y) :: r) := by
  unfold p_bD at h
  split at h
  · rename_i y x r hv
    split at h
    · cases h
    · rename_i hn
      exact ⟨x, y, r, hv, hn, (Option.some.inj h).symm⟩
  · cases h
theorem p_bL_inv {f : Int64 → Int64 → Int64} {len : Nat} {s s' : pS} (h : p_bL f len s = some s') : ∃ x y r, s.2.2.2 = .long y :: .long x :: r ∧ s' = (s.1, s.2.1 + len, s.2.2.1, .long (f x y) :: r) := by
  unfold p_bL at h
  split at h
  · rename_i y x r hv
    exact ⟨x, y, r, hv, (Option.some.inj h).symm⟩
  · cases h
theorem p_cmpL_inv {len : Nat} {s s' : pS} (h : p_cmpL len s = some s') : ∃ x y r, s.2.2.2 = .long y :: .long x :: r ∧ s' = (s.1, s.2.1 + len, s.2.2.1, .int (lg_cmp x y) :: r) := by
  unfold p_cmpL at h
  split at h
  · rename_i y x r hv
    exact ⟨x, y, r, hv, (Option.some.inj h).symm⟩
  · cases h
theorem p_dup_inv {len : Nat} {s s' : pS} (h : p_dup len s = some s') : ∃ v r, s.2.2.2 = v :: r ∧ v.category = 1 ∧ s' = (s.1, s.2.1 + len, s.2.2.1, v :: v :: r) := by
  unfold p_dup at h
  split at h
  · rename_i v r hv
    split at h
    · rename_i hc
      exact ⟨v, r, hv, hc, (Option.some.inj h).symm⟩
    · cases h
  · cases h
theorem p_dup2_inv {len : Nat} {s s' : pS} (h : p_dup2 len s = some s') : ∃ v w r, s.2.2.2 = v :: w :: r ∧ v.category = 1 ∧ w.category = 1 ∧ s' = (s.1, s.2.1 + len, s.2.2.1, v :: w :: v :: w :: r) := by
  unfold p_dup2 at h
  split at h
  · rename_i v w r hv
    split at h
    · rename_i hc
      exact ⟨v, w, r, hv, hc.1, hc.2, (Option.some.inj h).symm⟩
    · cases h
  · cases h
theorem p_pop_inv {len : Nat} {s s' : pS} (h : p_pop len s = some s') : ∃ v r, s.2.2.2 = v :: r ∧ v.category = 1 ∧ s' = (s.1, s.2.1 + len, s.2.2.1, r) := by
  unfold p_pop at h
  split at h
  · rename_i v r hv
    split at h
    · rename_i hc
      exact ⟨v, r, hv, hc, (Option.some.inj h).symm⟩
    · cases h
  · cases h
theorem p_if1_inv {c : ClassFile.Cond} {tgt len : Nat} {s s' : pS} (h : p_if1 c tgt len s = some s') : ∃ x r, s.2.2.2 = .int x :: r ∧ ((p_cd c x 0 ∧ s' = (s.1, tgt, s.2.2.1, r)) ∨ (¬ p_cd c x 0 ∧ s' = (s.1, s.2.1 + len, s.2.2.1, r))) := by
  unfold p_if1 at h
  split at h
  · rename_i x r hv
    split at h
    · rename_i hc
      exact ⟨x, r, hv, Or.inl ⟨(p_cb_iff _ _ _).mp hc, (Option.some.inj h).symm⟩⟩
    · rename_i hc
      exact ⟨x, r, hv, Or.inr ⟨fun q => hc ((p_cb_iff _ _ _).mpr q), (Option.some.inj h).symm⟩⟩
  · cases h
theorem p_if2_inv {c : ClassFile.Cond} {tgt len : Nat} {s s' : pS} (h : p_if2 c tgt len s = some s') : ∃ x y r, s.2.2.2 = .int y :: .int x :: r ∧ ((p_cd c x y ∧ s' = (s.1, tgt, s.2.2.1, r)) ∨ (¬ p_cd c x y ∧ s' = (s.1, s.2.1 + len, s.2.2.1, r))) := by
  unfold p_if2 at h
  split at h
  · rename_i y x r hv
    split at h
    · rename_i hc
      exact ⟨x, y, r, hv, Or.inl ⟨(p_cb_iff _ _ _).mp hc, (Option.some.inj h).symm⟩⟩
    · rename_i hc
      exact ⟨x, y, r, hv, Or.inr ⟨fun q => hc ((p_cb_iff _ _ _).mpr q), (Option.some.inj h).symm⟩⟩
  · cases h
theorem p_tsw_inv {dflt lo hi : Int} {offs : Array Int} {s s' : pS} (h : p_tsw dflt lo hi offs s = some s') : ∃ x r tgt, s.2.2.2 = .int x :: r ∧ s' = (s.1, tgt, s.2.2.1, r) ∧
    (((x.toInt < lo ∨ hi < x.toInt) ∧ (s.2.1 : Int) + dflt = (tgt : Int)) ∨ (¬ x.toInt < lo ∧ ¬ hi < x.toInt ∧ ∃ off, offs[(x.toInt - lo).toNat]? = some off ∧ (s.2.1 : Int) + off = (tgt : Int))) := by
  unfold p_tsw at h
  split at h
  · rename_i x r hv
    split at h
    · rename_i hc
      split at h
      · rename_i h0
        exact ⟨x, r, _, hv, (Option.some.inj h).symm, Or.inl ⟨hc, by omega⟩⟩
      · cases h
    · rename_i hc
      split at h
      · rename_i off ho
        split at h
        · rename_i h0
          exact ⟨x, r, _, hv, (Option.some.inj h).symm, Or.inr ⟨fun q => hc (Or.inl q), fun q => hc (Or.inr q), off, ho, by omega⟩⟩
        · cases h
      · cases h
  · cases h
theorem p_lsw_inv {dflt : Int} {ps : Array (Int × Int)} {s s' : pS} (h : p_lsw dflt ps s = some s') : ∃ x r tgt, s.2.2.2 = .int x :: r ∧ s' = (s.1, tgt, s.2.2.1, r) ∧
    (ps.toList.zip (ps.toList.drop 1)).all (fun (a, next) => a.1 < next.1) = true ∧ (s.2.1 : Int) + Op.lookupswitch.offset ps.toList dflt x.toInt = (tgt : Int) := by
  unfold p_lsw at h
  split at h
  · rename_i x r hv
    split at h
    · rename_i hc
      exact ⟨x, r, _, hv, (Option.some.inj h).symm, hc.1, by omega⟩
    · cases h
  · cases h
theorem p_get_inv {N ci k len : Nat} {s s' : pS} (h : p_get N ci k len s = some s') : ∃ a r fs v, s.2.2.2 = .ref a :: r ∧ a < N ∧ s.1 a = eO ci fs ∧ fs[k]? = some v ∧ s' = (s.1, s.2.1 + len, s.2.2.1, v :: r) := by
  unfold p_get at h
  split at h
  · rename_i a r hv
    split at h
    · rename_i ha
      split at h
      · rename_i c fs he
        split at h
        · rename_i hc
          split at h
          · rename_i v hk
            subst hc
            exact ⟨a, r, fs, v, hv, ha, he, hk, (Option.some.inj h).symm⟩
          · cases h
        · cases h
      · cases h
    · cases h
  · cases h
theorem p_put_inv {N ci k len : Nat} {ty : FieldType} {s s' : pS} (h : p_put N ci k ty len s = some s') : ∃ v a r fs, s.2.2.2 = v :: .ref a :: r ∧ a < N ∧ s.1 a = eO ci fs ∧ k < fs.length ∧ narrow ty v = v ∧ fits ty v = true ∧ s' = (pu s.1 a (eO ci (fs.set k v)), s.2.1 + len, s.2.2.1, r) := by
  unfold p_put at h
  split at h
  · rename_i v a r hv
    split at h
    · rename_i ha
      split at h
      · rename_i c fs he
        split at h
        · rename_i hc
          obtain ⟨h1, h2, h3, h4⟩ := hc
          subst h1
          exact ⟨v, a, r, fs, hv, ha, he, h2, h3, h4, (Option.some.inj h).symm⟩
        · cases h
      · cases h
    · cases h
  · cases h
theorem p_iald_inv {N len : Nat} {s s' : pS} (h : p_iald N len s = some s') : ∃ i a r n f, s.2.2.2 = .int i :: .ref a :: r ∧ a < N ∧ s.1 a = eI n f ∧ vp_in i n ∧ s' = (s.1, s.2.1 + len, s.2.2.1, .int (f i.toNatClampNeg) :: r) := by
  unfold p_iald at h
  split at h
  · rename_i i a r hv
    split at h
    · rename_i ha
      split at h
      · rename_i n f he
        split at h
        · cases h
        · rename_i hc
          exact ⟨i, a, r, n, f, hv, ha, he, hc, (Option.some.inj h).symm⟩
      · cases h
    · cases h
  · cases h
theorem p_lald_inv {N len : Nat} {s s' : pS} (h : p_lald N len s = some s') : ∃ i a r n f, s.2.2.2 = .int i :: .ref a :: r ∧ a < N ∧ s.1 a = eJ n f ∧ vp_in i n ∧ s' = (s.1, s.2.1 + len, s.2.2.1, .long (f i.toNatClampNeg) :: r) := by
  unfold p_lald at h
  split at h
  · rename_i i a r hv
    split at h
    · rename_i ha
      split at h
      · rename_i n f he
        split at h
        · cases h
        · rename_i hc
          exact ⟨i, a, r, n, f, hv, ha, he, hc, (Option.some.inj h).symm⟩
      · cases h
    · cases h
  · cases h
theorem p_aald_inv {N len : Nat} {s s' : pS} (h : p_aald N len s = some s') : ∃ i a r n f b, s.2.2.2 = .int i :: .ref a :: r ∧ a < N ∧ s.1 a = eR n f ∧ vp_in i n ∧ f i.toNatClampNeg = some b ∧ s' = (s.1, s.2.1 + len, s.2.2.1, .ref b :: r) := by
  unfold p_aald at h
  split at h
  · rename_i i a r hv
    split at h
    · rename_i ha
      split at h
      · rename_i n f he
        split at h
        · cases h
        · rename_i hc
          split at h
          · rename_i b hb
            exact ⟨i, a, r, n, f, b, hv, ha, he, hc, hb, (Option.some.inj h).symm⟩
          · cases h
      · cases h
    · cases h
  · cases h
theorem p_iast_inv {N len : Nat} {s s' : pS} (h : p_iast N len s = some s') : ∃ x i a r n f, s.2.2.2 = .int x :: .int i :: .ref a :: r ∧ a < N ∧ s.1 a = eI n f ∧ vp_in i n ∧ s' = (pu s.1 a (eI n (upd f i.toNatClampNeg x)), s.2.1 + len, s.2.2.1, r) := by
  unfold p_iast at h
  split at h
  · rename_i x i a r hv
    split at h
    · rename_i ha
      split at h
      · rename_i n f he
        split at h
        · cases h
        · rename_i hc
          exact ⟨x, i, a, r, n, f, hv, ha, he, hc, (Option.some.inj h).symm⟩
      · cases h
    · cases h
  · cases h
theorem p_last_inv {N len : Nat} {s s' : pS} (h : p_last N len s = some s') : ∃ x i a r n f, s.2.2.2 = .long x :: .int i :: .ref a :: r ∧ a < N ∧ s.1 a = eJ n f ∧ vp_in i n ∧ s' = (pu s.1 a (eJ n (vp_updL f i.toNatClampNeg x)), s.2.1 + len, s.2.2.1, r) := by
  unfold p_last at h
  split at h
  · rename_i x i a r hv
    split at h
    · rename_i ha
      split at h
      · rename_i n f he
        split at h
        · cases h
        · rename_i hc
          exact ⟨x, i, a, r, n, f, hv, ha, he, hc, (Option.some.inj h).symm⟩
      · cases h
    · cases h
  · cases h
theorem p_alen_inv {N len : Nat} {s s' : pS} (h : p_alen N len s = some s') : ∃ a r n, s.2.2.2 = .ref a :: r ∧ a < N ∧ p_len (s.1 a) = some n ∧ s' = (s.1, s.2.1 + len, s.2.2.1, .int (Int32.ofNat n) :: r) := by
  unfold p_alen at h
  split at h
  · rename_i a r hv
    split at h
    · rename_i ha
      split at h
      · rename_i n he
        exact ⟨a, r, n, hv, ha, he, (Option.some.inj h).symm⟩
      · cases h
    · cases h
  · cases h
theorem p_copy_inv {N : Nat} {s s' : pS} (h : p_copy N s = some s') : ∃ n dp b sp a r n0 n1 f g, s.2.2.2 = .int n :: .int dp :: .ref b :: .int sp :: .ref a :: r ∧ a < N ∧ b < N ∧ s.1 a = eI n0 f ∧ s.1 b = eI n1 g ∧ ¬ sp < 0 ∧ ¬ dp < 0 ∧ ¬ n < 0 ∧ sp.toNatClampNeg + n.toNatClampNeg ≤ n0 ∧ dp.toNatClampNeg + n.toNatClampNeg ≤ n1 ∧ (r.map fun v => v.category).sum ≤ 8 ∧
    s' = (pu s.1 b (eI n1 (va_cpy f g sp.toNatClampNeg dp.toNatClampNeg n.toNatClampNeg)), s.2.1 + 3, s.2.2.1, r) := by
  unfold p_copy at h
  split at h
  · rename_i n dp b sp a r hv
    split at h
    · rename_i ha
      split at h
      · rename_i n0 f n1 g he hg
        split at h
        · cases h
        · rename_i hc
          simp only [not_or, Nat.not_lt] at hc
          obtain ⟨⟨c1, c2, c3⟩, c4, c5, c6⟩ := hc
          exact ⟨n, dp, b, sp, a, r, n0, n1, f, g, hv, ha.1, ha.2, he, hg, c1, c2, c3, c4, c5, c6, (Option.some.inj h).symm⟩
      · cases h
    · cases h
  · cases h
theorem p_mm_inv {b : Bool} {s s' : pS} (h : p_mm b s = some s') : ∃ x y r, s.2.2.2 = .int y :: .int x :: r ∧ (r.map fun v => v.category).sum ≤ 8 ∧ s' = (s.1, s.2.1 + 3, s.2.2.1, .int (if b = true then (if x < y then y else x) else (if y < x then y else x)) :: r) := by
  unfold p_mm at h
  split at h
  · rename_i y x r hv
    split at h
    · cases h
    · rename_i hc
      exact ⟨x, y, r, hv, by omega, (Option.some.inj h).symm⟩
  · cases h
def p_Cx (p : Program) (s : State) (m : MethodId) (args : Array Value) (meth : Method) (c : Code) (D : va_G) (kc : ClassId × ClassId × ClassId) (Cs : List pCi) (M : pM) : Prop :=
  p.tables.exec = Jvm.exec ∧ c.code = M.2.1 ∧ meth.sig.returnType = M.2.2.2.1 ∧ c.maxLocals = M.2.2.1 ∧ (∀ w ∈ p_ws M, w.before args s = true) ∧ s.vm.findClass M.1.cls = some m.cls ∧ meth.locks = false ∧ va_K D (Cs.map Prod.fst) (p_tys kc) s ∧ p_nest s
section PSW
variable {p : Program} {l : Launch} {e : Env} {R : Room} {s : State} {m : MethodId} {args : Array Value} {below : List Frame} {meth : Method} {c : Code} {Q : State → Prop} {H : Heap} {locs : List Loc} {cells slots : Nat}
variable {D : va_G} {kc : ClassId × ClassId × ClassId} {ad : Nat → Nat} {N : Nat} {Cs : List pCi} {Ms : List pM} {M : pM}
theorem p_aaldW {cc : ByteArray} {pc : Nat} {ls : Array Slot} {rest : List Value} {cl : List vw_C} {a : Nat} {tys : List (ClassId × FieldType)} {ws : va_W} (hexec : p.tables.exec = Jvm.exec) (hb : c.code = cc) (hK : va_K D cl tys s) (hP : va_P D cl ws H) (q0 t0 : Nat) {cA : ClassId} {n : Nat} {f : Nat → Option Nat} (ha : ws[q0]? = some (a, .inl (cA, n, .inr (.inr (.inr (.inr f)))))) (ht : tys[t0]? = some (cA, .array .long)) {i : Int32} (hin : vp_in i n) (hdg : decode cc pc = .ok (.aaload, 1))
    (kk : W p l e R s m args below meth c H locs cells slots Q (F0 m (pc + 1) ls (va_rf (f i.toNatClampNeg) :: rest))) : W p l e R s m args below meth c H locs cells slots Q (F0 m pc ls (.int i :: .ref a :: rest)) := by
  have hlt : i.toNatClampNeg < n := Nat.not_le.mp fun q => hin (Or.inr q)
  exact W.aald (v := va_rf (f i.toNatClampNeg)) (ty := .array .long) hexec hb (hP q0 _ ha) ((hK.2 t0 _ ht).1 n (fun j => va_rf (f j))) rfl (fun q => by cases q) (by show ¬ (i < 0 ∨ (arrV _ _ _).slots.size ≤ _); rw [arrV_size]; exact hin) (by show (arrV _ _ _).slots[_]? = _; rw [arrV_read _ _ hlt]) rfl rfl hdg kk
theorem p_iincW {cc : ByteArray} {pc : Nat} {ls : Array Slot} {rest : List Value} (hexec : p.tables.exec = Jvm.exec) (hb : c.code = cc) {i nL : Nat} {n : Int} {x : Int32} {lv : pLv} (hdg : decode cc pc = .ok (.iinc i n, 3)) (h : lv_has ls nL (p_lv ad lv)) (hk : List.lookup i lv = some (.int x)) (hn : i < nL)
    (kk : ∀ ls' : Array Slot, lv_has ls' nL (p_lv ad (p_s1 i (.int (x + Int32.ofInt n)) lv)) → W p l e R s m args below meth c H locs cells slots Q (F0 m (pc + 3) ls' rest)) : W p l e R s m args below meth c H locs cells slots Q (F0 m pc ls rest) := by
  have hm : (i, Value.int x) ∈ p_lv ad lv := List.mem_map.mpr ⟨(i, .int x), p_look hk, rfl⟩
  obtain ⟨k, hk2⟩ := List.getElem?_of_mem hm
  exact lv_iinc hexec hb hdg h hk2 rfl hn rfl (fun ls' hl' => kk ls' (p_lv_s1 (v := .int (x + Int32.ofInt n)) hl'))
end PSW
