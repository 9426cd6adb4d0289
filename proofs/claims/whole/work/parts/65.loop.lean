/-! the law's loop -/
set_option maxRecDepth 100000 in
theorem law_loop {p : Program} {l : Launch} {e : Env} {s : State} {m : MethodId} {below : List Frame} {meth : Method} {c : Code} {D : va_G} {kc : ClassId × ClassId × ClassId} {b L : Nat} {xs : Nat → Int32} {ad : Nat → Nat} (hL : L ≤ 2048) (cx : lw_Cx p s m meth c D kc b L xs ad) (hr : meth.sig.returnType = ret) (hlocks : meth.locks = false) : ∀ (k i : Nat) (x3 : Int32), x3 = nI i → i < 3000 → L < 4 * k + i → ∀ (h : pH) (H : Heap) (ls : Array Slot), PI h → va_P D (p_Cs.map Prod.fst) (p_wm kc ad pN h) H → va_S (fun q : Nat => s.heap.size ≤ q) s.heap H [] → lv_has ls 4 [(0, .ref b), (1, .ref (ad 0)), (2, .ref (ad 73)), (3, .int x3)] → W p l e room_1 s m #[Value.ref b] below meth c H [] 600000 7302250 (lw_Z below #[Value.ref b] s) (F0 m 18 ls [])
  | k, i, x3, e3, hi3, hk, h, H, ls, hPI, hP, hS, hl => by
    obtain ⟨hx, hb, hml, hown, hts, hX, hbl, hbA, inj, hAd, hK, hN⟩ := id cx
    subst e3
    refine lv_iload_n hx hb dlw_18 rfl (lv_at hl 3 rfl) ?_
    refine lv_aload_n hx hb dlw_19 rfl (lv_at hl 0 rfl) ?_
    refine va_slen hx hb hX hbl hbA hS dlw_20 ?_
    refine lv_iconst (v := 4) hx hb dlw_21 (by decide) ?_
    refine lv_isub hx hb dlw_22 ?_
    refine lv_icmp_gt (tgt := 791) hx hb dlw_23 (by decide) (fun c1 => ?_) (fun c1 => ?_)
    · refine lv_iconst (v := 1) hx hb dlw_791 (by decide) ?_
      exact lw_ret hx hb hr hlocks dlw_792
    have hi : i + 4 ≤ L := lw_go hL hi3 c1
    cases k with
    | zero => omega
    | succ k =>
      refine lv_aload_n hx hb dlw_26 rfl (lv_at hl 0 rfl) ?_
      refine lv_iload_n hx hb dlw_27 rfl (lv_at hl 3 rfl) ?_
      refine va_sld hx hb hX hbl hbA hS (vp_in_nI (show i < L by omega) (by omega)) dlw_28 ?_
      refine lv_bipush (v := 31) hx hb dlw_29 (by decide) ?_
      refine lv_iand hx hb dlw_31 ?_
      obtain ⟨j, hj, ej⟩ := pk_andE (xs (nI i).toNatClampNeg) (m := 31) 5 (by decide)
      rw [ej]
      have hj : j < 32 := hj
      have go : ∀ (h1 : pH) (H1 : Heap), PI h1 → va_P D (p_Cs.map Prod.fst) (p_wm kc ad pN h1) H1 → va_S (fun q : Nat => s.heap.size ≤ q) s.heap H1 [] → W p l e room_1 s m #[Value.ref b] below meth c H1 [] 600000 7302250 (lw_Z below #[Value.ref b] s) (F0 m 785 ls []) := by
        intro h1 H1 hPI1 hP1 hS1
        refine lv_iinc (v := nI (i + 4)) (lv' := [(3, .int (nI (i + 4))), (0, .ref b), (1, .ref (ad 0)), (2, .ref (ad 73))]) hx hb dlw_785 hl (k := 3) rfl (nI_add i 4) (by decide) rfl (fun ls hl => ?_)
        refine lv_goto (tgt := 18) hx hb dlw_788 (by decide) ?_
        exact law_loop hL cx hr hlocks k (i + 4) _ rfl (by omega) (by omega) h1 H1 ls hPI1 hP1 hS1 (lv_sub hl [1, 2, 3, 0] rfl)
      have ti : (nI j).toInt = (j : Int) := nI_toInt (by omega)
      by_cases j25 : 25 ≤ j
      · refine lv_tableOut (tgt := 785) hx hb dlw_32 (Or.inr (by rw [ti]; omega)) (by decide) ?_
        exact go h H hPI hP hS
      have j25 : j < 25 := by omega
      clear ej hj
      by_cases c2 : j = 0
      · subst c2
        refine lv_tableIn (tgt := 148) (off := 116) hx hb dlw_32 (by decide) (by decide) rfl (by decide) ?_
        exact lc_write cx hi hL hPI hP hS hl go
      by_cases c3 : j = 1
      · subst c3
        refine lv_tableIn (tgt := 171) (off := 139) hx hb dlw_32 (by decide) (by decide) rfl (by decide) ?_
        exact lc_wipe cx hi hL hPI hP hS hl go
      by_cases c4 : j = 2
      · subst c4
        refine lv_tableIn (tgt := 184) (off := 152) hx hb dlw_32 (by decide) (by decide) rfl (by decide) ?_
        exact lc_fault cx hi hL hPI hP hS hl go
      by_cases c5 : j = 3
      · subst c5
        refine lv_tableIn (tgt := 197) (off := 165) hx hb dlw_32 (by decide) (by decide) rfl (by decide) ?_
        exact lc_lay cx hi hL hPI hP hS hl go
      by_cases c6 : j = 4
      · subst c6
        refine lv_tableIn (tgt := 210) (off := 178) hx hb dlw_32 (by decide) (by decide) rfl (by decide) ?_
        exact lc_node cx hi hL hPI hP hS hl go
      by_cases c7 : j = 5
      · subst c7
        refine lv_tableIn (tgt := 243) (off := 211) hx hb dlw_32 (by decide) (by decide) rfl (by decide) ?_
        exact lc_child cx hi hL hPI hP hS hl go
      by_cases c8 : j = 6
      · subst c8
        refine lv_tableIn (tgt := 276) (off := 244) hx hb dlw_32 (by decide) (by decide) rfl (by decide) ?_
        exact lc_key cx hi hL hPI hP hS hl go
      by_cases c9 : j = 7
      · subst c9
        refine lv_tableIn (tgt := 319) (off := 287) hx hb dlw_32 (by decide) (by decide) rfl (by decide) ?_
        exact lc_at cx hi hL hPI hP hS hl go
      by_cases c10 : j = 8
      · subst c10
        refine lv_tableIn (tgt := 342) (off := 310) hx hb dlw_32 (by decide) (by decide) rfl (by decide) ?_
        exact lc_grow cx hi hL hPI hP hS hl go
      by_cases c11 : j = 9
      · subst c11
        refine lv_tableIn (tgt := 385) (off := 353) hx hb dlw_32 (by decide) (by decide) rfl (by decide) ?_
        exact lc_cut cx hi hL hPI hP hS hl go
      by_cases c12 : j = 10
      · subst c12
        refine lv_tableIn (tgt := 408) (off := 376) hx hb dlw_32 (by decide) (by decide) rfl (by decide) ?_
        exact lc_tag cx hi hL hPI hP hS hl go
      by_cases c13 : j = 11
      · subst c13
        refine lv_tableIn (tgt := 441) (off := 409) hx hb dlw_32 (by decide) (by decide) rfl (by decide) ?_
        exact lc_undo cx hi hL hPI hP hS hl go
      by_cases c14 : j = 12
      · subst c14
        refine lv_tableIn (tgt := 454) (off := 422) hx hb dlw_32 (by decide) (by decide) rfl (by decide) ?_
        exact lc_between cx hi hL hPI hP hS hl go
      by_cases c15 : j = 13
      · subst c15
        refine lv_tableIn (tgt := 497) (off := 465) hx hb dlw_32 (by decide) (by decide) rfl (by decide) ?_
        exact lc_ahead cx hi hL hPI hP hS hl go
      by_cases c16 : j = 14
      · subst c16
        refine lv_tableIn (tgt := 530) (off := 498) hx hb dlw_32 (by decide) (by decide) rfl (by decide) ?_
        exact lc_above cx hi hL hPI hP hS hl go
      by_cases c17 : j = 15
      · subst c17
        refine lv_tableIn (tgt := 563) (off := 531) hx hb dlw_32 (by decide) (by decide) rfl (by decide) ?_
        exact lc_meet cx hi hL hPI hP hS hl go
      by_cases c18 : j = 16
      · subst c18
        refine lv_tableIn (tgt := 596) (off := 564) hx hb dlw_32 (by decide) (by decide) rfl (by decide) ?_
        exact lc_pattern cx hi hL hPI hP hS hl go
      by_cases c19 : j = 17
      · subst c19
        refine lv_tableIn (tgt := 609) (off := 577) hx hb dlw_32 (by decide) (by decide) rfl (by decide) ?_
        exact lc_step cx hi hL hPI hP hS hl go
      by_cases c20 : j = 18
      · subst c20
        refine lv_tableIn (tgt := 642) (off := 610) hx hb dlw_32 (by decide) (by decide) rfl (by decide) ?_
        exact lc_matches cx hi hL hPI hP hS hl go
      by_cases c21 : j = 19
      · subst c21
        refine lv_tableIn (tgt := 656) (off := 624) hx hb dlw_32 (by decide) (by decide) rfl (by decide) ?_
        exact lc_puts cx hi hL hPI hP hS hl go
      by_cases c22 : j = 20
      · subst c22
        refine lv_tableIn (tgt := 690) (off := 658) hx hb dlw_32 (by decide) (by decide) rfl (by decide) ?_
        exact lc_useful cx hi hL hPI hP hS hl go
      by_cases c23 : j = 21
      · subst c23
        refine lv_tableIn (tgt := 713) (off := 681) hx hb dlw_32 (by decide) (by decide) rfl (by decide) ?_
        exact lc_end cx hi hL hPI hP hS hl go
      by_cases c24 : j = 22
      · subst c24
        refine lv_tableIn (tgt := 736) (off := 704) hx hb dlw_32 (by decide) (by decide) rfl (by decide) ?_
        exact lc_keep cx hi hL hPI hP hS hl go
      by_cases c25 : j = 23
      · subst c25
        refine lv_tableIn (tgt := 749) (off := 717) hx hb dlw_32 (by decide) (by decide) rfl (by decide) ?_
        exact lc_back cx hi hL hPI hP hS hl go
      by_cases c26 : j = 24
      · subst c26
        refine lv_tableIn (tgt := 762) (off := 730) hx hb dlw_32 (by decide) (by decide) rfl (by decide) ?_
        exact lc_count cx hi hL hPI hP hS hl go
      omega
