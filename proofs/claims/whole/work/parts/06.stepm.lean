section PSM
variable {p : Program} {l : Launch} {e : Env} {R : Room} {s : State} {m : MethodId} {args : Array Value} {below : List Frame} {meth : Method} {c : Code} {Q : State → Prop} {H : Heap} {locs : List Loc} {cells slots : Nat}
variable {D : va_G} {kc : ClassId × ClassId × ClassId} {ad : Nat → Nat} {N : Nat} {Cs : List pCi} {Ms : List pM} {M : pM}
theorem p_isI_of {v : Value} (h : p_isI v = true) : ∃ x, v = .int x := by cases v <;> first | exact ⟨_, rfl⟩ | (simp [p_isI] at h; done)
theorem p_isL_of {v : Value} (h : p_isL v = true) : ∃ x, v = .long x := by cases v <;> first | exact ⟨_, rfl⟩ | (simp [p_isL] at h; done)
theorem p_isR_of {v : Value} (h : p_isR v = true) : ∃ x, v = .ref x := by cases v <;> first | exact ⟨_, rfl⟩ | (simp [p_isR] at h; done)
theorem p_cl_at {ci : Nat} {q : pCi} (h : Cs[ci]? = some q) : (Cs.map Prod.fst)[ci]? = some q.1 := by rw [List.getElem?_map, h]; rfl
set_option maxHeartbeats 4000000 in
theorem p_stepW (cx : p_Cx p s m args meth c D kc Cs M) (hC : p_okC Cs) (inj : ∀ i j, i < N → j < N → ad i = ad j → i = j) {pc len pc1 : Nat} {i : Instr} {a : Nat × Nat × Nat} {ps : List Nat × List Nat} (ok : p_okI Cs Ms M (pc, i, len, a, ps) = true) {h h1 : pH} {lv lv1 : pLv} {st st1 : List Value}
    (hst : p_step N Cs M.2.2.1 i len a (h, pc, lv, st) = some (h1, pc1, lv1, st1)) {ls : Array Slot} (hl : lv_has ls M.2.2.1 (p_lv ad lv)) (hP : va_P D (Cs.map Prod.fst) (p_wm kc ad N h) H) (hS : va_S (p_A ad N) s.heap H locs)
    (kk : ∀ (H1 : Heap) (locs1 : List Loc) (ls1 : Array Slot), lv_has ls1 M.2.2.1 (p_lv ad lv1) → va_P D (Cs.map Prod.fst) (p_wm kc ad N h1) H1 → va_S (p_A ad N) s.heap H1 locs1 → W p l e R s m args below meth c H1 locs1 cells slots Q (F0 m pc1 ls1 (st1.map (p_v ad)))) :
    W p l e R s m args below meth c H locs cells slots Q (F0 m pc ls (st.map (p_v ad))) := by
  obtain ⟨hx, hb, hr, hml, hts, hown, hlocks, hK, hN⟩ := cx
  simp only [p_okI, Bool.and_eq_true, decide_eq_true_eq] at ok
  obtain ⟨⟨hd, hlen⟩, hw⟩ := ok
  have hD := p_wm_D (k := kc) inj h
  have hWs : ∀ w ∈ p_W, w.before args s = true := fun w h => hts w (List.mem_cons_of_mem _ h)
  cases i <;> first | (exfalso; simp [p_step] at hst; done) | skip
  case aload_n k =>
    obtain ⟨v, e1, e2, e3⟩ := p_ld_inv hst
    obtain ⟨x, rfl⟩ := p_isR_of e2
    simp [p_okL, p_ln] at hlen
    subst hlen
    cases e3
    exact lv_aload_n hx hb hd rfl (p_lv_at hl e1) (kk H locs ls hl hP hS)
  case aload k =>
    obtain ⟨v, e1, e2, e3⟩ := p_ld_inv hst
    obtain ⟨x, rfl⟩ := p_isR_of e2
    simp [p_okL, p_ln] at hlen
    subst hlen
    cases e3
    exact lv_aload hx hb hd (p_lv_at hl e1) (kk H locs ls hl hP hS)
  case iload_n k =>
    obtain ⟨v, e1, e2, e3⟩ := p_ld_inv hst
    obtain ⟨x, rfl⟩ := p_isI_of e2
    simp [p_okL, p_ln] at hlen
    subst hlen
    cases e3
    exact lv_iload_n hx hb hd rfl (p_lv_at hl e1) (kk H locs ls hl hP hS)
  case iload k =>
    obtain ⟨v, e1, e2, e3⟩ := p_ld_inv hst
    obtain ⟨x, rfl⟩ := p_isI_of e2
    simp [p_okL, p_ln] at hlen
    subst hlen
    cases e3
    exact lv_iload hx hb hd (p_lv_at hl e1) (kk H locs ls hl hP hS)
  case lload_n k =>
    obtain ⟨v, e1, e2, e3⟩ := p_ld_inv hst
    obtain ⟨x, rfl⟩ := p_isL_of e2
    simp [p_okL, p_ln] at hlen
    subst hlen
    cases e3
    exact lv_lload_n hx hb hd rfl (p_lv_at hl e1) (kk H locs ls hl hP hS)
  case lload k =>
    obtain ⟨v, e1, e2, e3⟩ := p_ld_inv hst
    obtain ⟨x, rfl⟩ := p_isL_of e2
    simp [p_okL, p_ln] at hlen
    subst hlen
    cases e3
    exact lv_lload hx hb hd (p_lv_at hl e1) (kk H locs ls hl hP hS)
  case istore_n k =>
    obtain ⟨v, r, e1, e2, e3, e4⟩ := p_st1_inv hst
    obtain ⟨x, rfl⟩ := p_isI_of e2
    simp [p_okL, p_ln] at hlen
    subst hlen
    cases e4
    change st = _ at e1
    subst e1
    exact lv_istore_n hx hb hd rfl hl e3 rfl (fun ls' hl' => kk H locs ls' (p_lv_s1 (v := .int x) hl') hP hS)
  case istore k =>
    obtain ⟨v, r, e1, e2, e3, e4⟩ := p_st1_inv hst
    obtain ⟨x, rfl⟩ := p_isI_of e2
    simp [p_okL, p_ln] at hlen
    subst hlen
    cases e4
    change st = _ at e1
    subst e1
    exact lv_istore hx hb hd hl e3 rfl (fun ls' hl' => kk H locs ls' (p_lv_s1 (v := .int x) hl') hP hS)
  case astore_n k =>
    obtain ⟨v, r, e1, e2, e3, e4⟩ := p_st1_inv hst
    obtain ⟨x, rfl⟩ := p_isR_of e2
    simp [p_okL, p_ln] at hlen
    subst hlen
    cases e4
    change st = _ at e1
    subst e1
    exact lv_astore_n hx hb hd rfl hl e3 rfl (fun ls' hl' => kk H locs ls' (p_lv_s1 (v := .ref x) hl') hP hS)
  case lstore_n k =>
    obtain ⟨v, r, e1, e2, e3, e4⟩ := p_st2_inv hst
    obtain ⟨x, rfl⟩ := p_isL_of e2
    simp [p_okL, p_ln] at hlen
    subst hlen
    cases e4
    change st = _ at e1
    subst e1
    exact lv_lstore_n hx hb hd rfl hl e3 rfl (fun ls' hl' => kk H locs ls' (p_lv_s2 (v := .long x) hl') hP hS)
  case lstore k =>
    obtain ⟨v, r, e1, e2, e3, e4⟩ := p_st2_inv hst
    obtain ⟨x, rfl⟩ := p_isL_of e2
    simp [p_okL, p_ln] at hlen
    subst hlen
    cases e4
    change st = _ at e1
    subst e1
    exact lv_lstore hx hb hd hl e3 rfl (fun ls' hl' => kk H locs ls' (p_lv_s2 (v := .long x) hl') hP hS)
  case iinc k n =>
    obtain ⟨x, e1, e2, e3⟩ := p_iinc_inv hst
    simp [p_okL, p_ln] at hlen
    subst hlen
    cases e3
    exact p_iincW hx hb hd hl e1 e2 (fun ls' hl' => kk H locs ls' hl' hP hS)
  case iconst n =>
    simp [p_okL, p_ln] at hlen
    subst hlen
    cases hst
    exact lv_iconst hx hb hd rfl (kk H locs ls hl hP hS)
  case bipush n =>
    simp [p_okL, p_ln] at hlen
    subst hlen
    cases hst
    exact lv_bipush hx hb hd rfl (kk H locs ls hl hP hS)
  case sipush n =>
    simp [p_okL, p_ln] at hlen
    subst hlen
    cases hst
    exact lv_sipush hx hb hd rfl (kk H locs ls hl hP hS)
  case lconst n =>
    simp [p_okL, p_ln] at hlen
    subst hlen
    cases hst
    exact lv_lconst hx hb hd rfl (kk H locs ls hl hP hS)
  case ldc n =>
    simp [p_okL, p_ln] at hlen
    subst hlen
    cases hst
    exact lv_ldc hx hb hown (hWs _ (p_word_in hw)) hd (kk H locs ls hl hP hS)
  case ldc_w n =>
    simp [p_okL, p_ln] at hlen
    subst hlen
    cases hst
    exact lv_ldcw hx hb hown (hWs _ (p_word_in hw)) hd (kk H locs ls hl hP hS)
  case ldc2_w n =>
    simp [p_okL, p_ln] at hlen
    subst hlen
    cases hst
    exact lv_ldc2 hx hb hown (hWs _ (p_word_in hw)) hd (kk H locs ls hl hP hS)
  case iadd =>
    obtain ⟨x, y, r, e1, e2⟩ := p_bI_inv hst
    simp [p_okL, p_ln] at hlen
    subst hlen
    cases e2
    change st = _ at e1
    subst e1
    exact lv_iadd hx hb hd (kk H locs ls hl hP hS)
  case isub =>
    obtain ⟨x, y, r, e1, e2⟩ := p_bI_inv hst
    simp [p_okL, p_ln] at hlen
    subst hlen
    cases e2
    change st = _ at e1
    subst e1
    exact lv_isub hx hb hd (kk H locs ls hl hP hS)
  case imul =>
    obtain ⟨x, y, r, e1, e2⟩ := p_bI_inv hst
    simp [p_okL, p_ln] at hlen
    subst hlen
    cases e2
    change st = _ at e1
    subst e1
    exact lv_imul hx hb hd (kk H locs ls hl hP hS)
  case iand =>
    obtain ⟨x, y, r, e1, e2⟩ := p_bI_inv hst
    simp [p_okL, p_ln] at hlen
    subst hlen
    cases e2
    change st = _ at e1
    subst e1
    exact lv_iand hx hb hd (kk H locs ls hl hP hS)
  case ior =>
    obtain ⟨x, y, r, e1, e2⟩ := p_bI_inv hst
    simp [p_okL, p_ln] at hlen
    subst hlen
    cases e2
    change st = _ at e1
    subst e1
    exact lv_ior hx hb hd (kk H locs ls hl hP hS)
  case ixor =>
    obtain ⟨x, y, r, e1, e2⟩ := p_bI_inv hst
    simp [p_okL, p_ln] at hlen
    subst hlen
    cases e2
    change st = _ at e1
    subst e1
    exact lv_ixor hx hb hd (kk H locs ls hl hP hS)
  case idiv =>
    obtain ⟨x, y, r, e1, e0, e2⟩ := p_bD_inv hst
    simp [p_okL, p_ln] at hlen
    subst hlen
    cases e2
    change st = _ at e1
    subst e1
    exact lv_idiv hx hb hd e0 (kk H locs ls hl hP hS)
  case irem =>
    obtain ⟨x, y, r, e1, e0, e2⟩ := p_bD_inv hst
    simp [p_okL, p_ln] at hlen
    subst hlen
    cases e2
    change st = _ at e1
    subst e1
    exact lv_irem hx hb hd e0 (kk H locs ls hl hP hS)
  case ishl =>
    obtain ⟨x, y, r, e1, e2⟩ := p_bI_inv hst
    simp [p_okL, p_ln] at hlen
    subst hlen
    cases e2
    change st = _ at e1
    subst e1
    exact lv_ishl hx hb hd (kk H locs ls hl hP hS)
  case ishr =>
    obtain ⟨x, y, r, e1, e2⟩ := p_bI_inv hst
    simp [p_okL, p_ln] at hlen
    subst hlen
    cases e2
    change st = _ at e1
    subst e1
    exact lv_ishr hx hb hd (kk H locs ls hl hP hS)
  case iushr =>
    obtain ⟨x, y, r, e1, e2⟩ := p_bI_inv hst
    simp [p_okL, p_ln] at hlen
    subst hlen
    cases e2
    change st = _ at e1
    subst e1
    exact lv_iushr hx hb hd rfl (kk H locs ls hl hP hS)
  case ladd =>
    obtain ⟨x, y, r, e1, e2⟩ := p_bL_inv hst
    simp [p_okL, p_ln] at hlen
    subst hlen
    cases e2
    change st = _ at e1
    subst e1
    exact lv_ladd hx hb hd (kk H locs ls hl hP hS)
  case lmul =>
    obtain ⟨x, y, r, e1, e2⟩ := p_bL_inv hst
    simp [p_okL, p_ln] at hlen
    subst hlen
    cases e2
    change st = _ at e1
    subst e1
    exact lv_lmul hx hb hd (kk H locs ls hl hP hS)
  case lcmp =>
    obtain ⟨x, y, r, e1, e2⟩ := p_cmpL_inv hst
    simp [p_okL, p_ln] at hlen
    subst hlen
    cases e2
    change st = _ at e1
    subst e1
    exact W.lcmp hx hb hd (kk H locs ls hl hP hS)
  case dup =>
    obtain ⟨v, r, e1, e0, e2⟩ := p_dup_inv hst
    simp [p_okL, p_ln] at hlen
    subst hlen
    cases e2
    change st = _ at e1
    subst e1
    exact lv_dup hx hb hd (by rw [p_v_cat]; exact e0) (kk H locs ls hl hP hS)
  case dup2 =>
    obtain ⟨v, w, r, e1, e0, e3, e2⟩ := p_dup2_inv hst
    simp [p_okL, p_ln] at hlen
    subst hlen
    cases e2
    change st = _ at e1
    subst e1
    exact lv_dup2_11 hx hb hd (by rw [p_v_cat]; exact e0) (by rw [p_v_cat]; exact e3) (kk H locs ls hl hP hS)
  case pop =>
    obtain ⟨v, r, e1, e0, e2⟩ := p_pop_inv hst
    simp [p_okL, p_ln] at hlen
    subst hlen
    cases e2
    change st = _ at e1
    subst e1
    exact lv_pop hx hb hd (by rw [p_v_cat]; exact e0) (kk H locs ls hl hP hS)
  case goto off =>
    simp [p_okL, p_ln] at hlen
    subst hlen
    cases hst
    simp only [p_okW, decide_eq_true_eq] at hw
    exact lv_goto hx hb hd hw (kk H locs ls hl hP hS)
  case ifCond cd off =>
    obtain ⟨x, r, e1, e2⟩ := p_if1_inv hst
    simp [p_okL, p_ln] at hlen
    subst hlen
    simp only [p_okW, decide_eq_true_eq] at hw
    change st = _ at e1
    subst e1
    rcases e2 with ⟨e2, e3⟩ | ⟨e2, e3⟩ <;> cases e3
    · cases cd
      · exact lv_if_eq hx hb hd hw (fun _ => kk H locs ls hl hP hS) (fun q => absurd e2 q)
      · exact lv_if_ne hx hb hd hw (fun _ => kk H locs ls hl hP hS) (fun q => absurd q e2)
      · exact lv_if_lt hx hb hd hw (fun _ => kk H locs ls hl hP hS) (fun q => absurd e2 q)
      · exact lv_if_ge hx hb hd hw (fun _ => kk H locs ls hl hP hS) (fun q => absurd e2 q)
      · exact lv_if_gt hx hb hd hw (fun _ => kk H locs ls hl hP hS) (fun q => absurd e2 q)
      · exact lv_if_le hx hb hd hw (fun _ => kk H locs ls hl hP hS) (fun q => absurd e2 q)
    · cases cd
      · exact lv_if_eq hx hb hd hw (fun q => absurd q e2) (fun _ => kk H locs ls hl hP hS)
      · exact lv_if_ne hx hb hd hw (fun q => absurd q e2) (fun _ => kk H locs ls hl hP hS)
      · exact lv_if_lt hx hb hd hw (fun q => absurd q e2) (fun _ => kk H locs ls hl hP hS)
      · exact lv_if_ge hx hb hd hw (fun q => absurd q e2) (fun _ => kk H locs ls hl hP hS)
      · exact lv_if_gt hx hb hd hw (fun q => absurd q e2) (fun _ => kk H locs ls hl hP hS)
      · exact lv_if_le hx hb hd hw (fun q => absurd q e2) (fun _ => kk H locs ls hl hP hS)
  case if_icmp cd off =>
    obtain ⟨x, y, r, e1, e2⟩ := p_if2_inv hst
    simp [p_okL, p_ln] at hlen
    subst hlen
    simp only [p_okW, decide_eq_true_eq] at hw
    change st = _ at e1
    subst e1
    rcases e2 with ⟨e2, e3⟩ | ⟨e2, e3⟩ <;> cases e3
    · cases cd
      · exact lv_icmp_eq hx hb hd hw (fun _ => kk H locs ls hl hP hS) (fun q => absurd e2 q)
      · exact lv_icmp_ne hx hb hd hw (fun _ => kk H locs ls hl hP hS) (fun q => absurd q e2)
      · exact lv_icmp_lt hx hb hd hw (fun _ => kk H locs ls hl hP hS) (fun q => absurd e2 q)
      · exact lv_icmp_ge hx hb hd hw (fun _ => kk H locs ls hl hP hS) (fun q => absurd e2 q)
      · exact lv_icmp_gt hx hb hd hw (fun _ => kk H locs ls hl hP hS) (fun q => absurd e2 q)
      · exact lv_icmp_le hx hb hd hw (fun _ => kk H locs ls hl hP hS) (fun q => absurd e2 q)
    · cases cd
      · exact lv_icmp_eq hx hb hd hw (fun q => absurd q e2) (fun _ => kk H locs ls hl hP hS)
      · exact lv_icmp_ne hx hb hd hw (fun q => absurd q e2) (fun _ => kk H locs ls hl hP hS)
      · exact lv_icmp_lt hx hb hd hw (fun q => absurd q e2) (fun _ => kk H locs ls hl hP hS)
      · exact lv_icmp_ge hx hb hd hw (fun q => absurd q e2) (fun _ => kk H locs ls hl hP hS)
      · exact lv_icmp_gt hx hb hd hw (fun q => absurd q e2) (fun _ => kk H locs ls hl hP hS)
      · exact lv_icmp_le hx hb hd hw (fun q => absurd q e2) (fun _ => kk H locs ls hl hP hS)
  case tableswitch dflt lo hi offs =>
    obtain ⟨x, r, tgt, e1, e2, e3⟩ := p_tsw_inv hst
    cases e2
    change st = _ at e1
    subst e1
    rcases e3 with ⟨e3, e4⟩ | ⟨e3, e4, off, e5, e6⟩
    · exact lv_tableOut hx hb hd e3 e4 (kk H locs ls hl hP hS)
    · exact lv_tableIn hx hb hd e3 e4 e5 e6 (kk H locs ls hl hP hS)
  case lookupswitch dflt prs =>
    obtain ⟨x, r, tgt, e1, e2, e3, e4⟩ := p_lsw_inv hst
    cases e2
    change st = _ at e1
    subst e1
    exact lv_lookup hx hb hd e3 rfl e4 (kk H locs ls hl hP hS)
  case getfield idx =>
    obtain ⟨q, r, fs, v, e1, e2, e3, e4, e5⟩ := p_get_inv hst
    simp [p_okL, p_ln] at hlen
    subst hlen
    cases e5
    change st = _ at e1
    subst e1
    change h q = _ at e3
    simp only [p_okW] at hw
    split at hw
    · rename_i C hCi
      simp only [Bool.and_eq_true, decide_eq_true_eq] at hw
      obtain ⟨c1, c2, c3⟩ := hC _ _ hCi
      refine va_get (D := D) (C := C.1.1) (T := C.1.2.1) (N := C.1.2.2) hx hb hWs c1 hown hK hP q (fs := fs.map (p_v ad)) ?_ (p_cl_at hCi) _ hw.1 (hWs _ (p_word_in hw.2)) (fun _ h9 => h9) (v := p_v ad v) ?_ hd (kk H locs ls hl hP hS)
      · rw [p_wm_get e2, e3]
        rfl
      · rw [List.getElem?_map, e4]
        rfl
    · cases hw
  case putfield idx =>
    simp only [p_step] at hst
    split at hst
    · rename_i C hCi
      obtain ⟨v, q, r, fs, e1, e2, e3, e4, e5, e6, e7⟩ := p_put_inv hst
      simp [p_okL, p_ln] at hlen
      subst hlen
      cases e7
      change st = _ at e1
      subst e1
      change h q = _ at e3
      simp only [p_okW, hCi, Bool.and_eq_true, decide_eq_true_eq, Bool.not_eq_true'] at hw
      obtain ⟨c1, c2, c3⟩ := hC _ _ hCi
      obtain ⟨f1, f2⟩ := p_fit (ad := ad) e5 e6
      refine va_put (D := D) (C := C.1.1) (T := C.1.2.1) (N := C.1.2.2) hx hb hWs c1 C.2 c2 c3 hown hK hP hD hS q (fs := fs.map (p_v ad)) ?_ (p_cl_at hCi) _ hw.1.1 (hWs _ (p_word_in hw.2)) (fun _ h9 => h9) hw.1.2 (v := p_v ad v) (c2 _ hw.1.1) f1 f2 (by rw [List.length_map]; exact e4) hd (fun H1 locs1 hP1 hD1 hS1 => kk H1 locs1 ls hl ?_ hS1)
      · rw [p_wm_get e2, e3]
        rfl
      · rw [← p_wm_set]
        have e9 : p_e kc ad (eO a.1 (fs.set a.2.1 v)) = .inr (a.1, (fs.map (p_v ad)).set a.2.1 (p_v ad v)) := by
          show (Sum.inr (a.1, (fs.set a.2.1 v).map (p_v ad)) : va_E) = _
          rw [List.map_set]
        rw [e9]
        exact hP1
    · cases hst
  case iaload =>
    obtain ⟨j, q, r, n, f, e1, e2, e3, e4, e5⟩ := p_iald_inv hst
    simp [p_okL, p_ln] at hlen
    subst hlen
    cases e5
    change st = _ at e1
    subst e1
    change h q = _ at e3
    exact va_iald (D := D) hx hb hK hP q 0 (by rw [p_wm_get e2, e3]; rfl) rfl e4 hd (kk H locs ls hl hP hS)
  case laload =>
    obtain ⟨j, q, r, n, f, e1, e2, e3, e4, e5⟩ := p_lald_inv hst
    simp [p_okL, p_ln] at hlen
    subst hlen
    cases e5
    change st = _ at e1
    subst e1
    change h q = _ at e3
    exact va_lald (D := D) hx hb hK hP q 1 (by rw [p_wm_get e2, e3]; rfl) rfl e4 hd (kk H locs ls hl hP hS)
  case aaload =>
    obtain ⟨j, q, r, n, f, b, e1, e2, e3, e4, e6, e5⟩ := p_aald_inv hst
    simp [p_okL, p_ln] at hlen
    subst hlen
    cases e5
    change st = _ at e1
    subst e1
    change h q = _ at e3
    refine p_aaldW (D := D) hx hb hK hP q 2 (by rw [p_wm_get e2, e3]; rfl) rfl e4 hd ?_
    rw [e6]
    exact kk H locs ls hl hP hS
  case iastore =>
    obtain ⟨x, j, q, r, n, f, e1, e2, e3, e4, e5⟩ := p_iast_inv hst
    simp [p_okL, p_ln] at hlen
    subst hlen
    cases e5
    change st = _ at e1
    subst e1
    change h q = _ at e3
    refine va_iast (D := D) hx hb hK hP hD hS q 0 (by rw [p_wm_get e2, e3]; rfl) rfl e4 hd (fun H1 locs1 hP1 hD1 hS1 => kk H1 locs1 ls hl ?_ hS1)
    rw [← p_wm_set]
    exact hP1
  case lastore =>
    obtain ⟨x, j, q, r, n, f, e1, e2, e3, e4, e5⟩ := p_last_inv hst
    simp [p_okL, p_ln] at hlen
    subst hlen
    cases e5
    change st = _ at e1
    subst e1
    change h q = _ at e3
    refine va_last (D := D) hx hb hK hP hD hS q 1 (by rw [p_wm_get e2, e3]; rfl) rfl e4 hd (fun H1 locs1 hP1 hD1 hS1 => kk H1 locs1 ls hl ?_ hS1)
    rw [← p_wm_set]
    exact hP1
  case arraylength =>
    obtain ⟨q, r, n, e1, e2, e3, e4⟩ := p_alen_inv hst
    simp [p_okL, p_ln] at hlen
    subst hlen
    cases e4
    change st = _ at e1
    subst e1
    change p_len (h q) = _ at e3
    have hg := p_wm_get (k := kc) (ad := ad) (h := h) e2
    generalize h q = y at hg e3
    rcases y with ⟨n', f⟩ | ⟨n', f⟩ | ⟨n', f⟩ | ⟨n', f⟩
    · cases e3
      exact va_alen (D := D) hx hb hK hP q 0 hg (rfl : (p_tys kc)[0]? = some (kc.1, .int)) rfl hd (kk H locs ls hl hP hS)
    · cases e3
      exact va_alen (D := D) hx hb hK hP q 1 hg (rfl : (p_tys kc)[1]? = some (kc.2.1, .long)) rfl hd (kk H locs ls hl hP hS)
    · cases e3
      exact va_alen (D := D) hx hb hK hP q 2 hg (rfl : (p_tys kc)[2]? = some (kc.2.2, .array .long)) rfl hd (kk H locs ls hl hP hS)
    · cases e3
end PSM
