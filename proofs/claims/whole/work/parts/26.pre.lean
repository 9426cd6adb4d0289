/-! pre: who stands in it, each once, all below one in one stretch -/
def klN (th : Nat → Bool) (pa ky : Nat → Nat) (p : Nat) : List Nat := klF th pa ky p 24 0
def pre (th : Nat → Bool) (pa ky : Nat → Nat) (v : Nat) : List Nat := preF th pa ky 24 v
section PRE
variable {th : Nat → Bool} {pa ky : Nat → Nat}
theorem kl_mem (w : wfT th pa ky) {p c : Nat} : ∀ f s, kc th pa p ≤ kcsU th pa ky p s 24 + f → (c ∈ klF th pa ky p f s ↔ kdB th pa ky p s c)
  | 0, s, h => by
    constructor
    · intro q
      cases q
    · intro q
      exfalso
      have hc : nk th pa ky p s ≠ none := fun e => nk_none e c (w.lt q.2.1) q
      cases hv : nk th pa ky p s with
      | none => exact hc hv
      | some v =>
        have h1 := kcs_step w hv 24 (Nat.le_refl _)
        rw [if_pos (nk_spec hv).1] at h1
        have h2 := kcs_le (th := th) (pa := pa) (ky := ky) (p := p) (s := ky v) 24
        unfold kc at h
        omega
  | f + 1, s, h => by
    unfold klF
    cases hv : nk th pa ky p s with
    | none =>
      constructor
      · intro q
        cases q
      · intro q
        exact absurd q (nk_none hv c (w.lt q.2.1))
    | some v =>
      obtain ⟨a1, a2, a3⟩ := nk_spec hv
      have h1 := kcs_step w hv 24 (Nat.le_refl _)
      rw [if_pos a1] at h1
      have ih := kl_mem w (p := p) (c := c) f (ky v) (by omega)
      have hs := a2.2.2.2
      show c ∈ v :: klF th pa ky p f (ky v) ↔ _
      rw [List.mem_cons, ih]
      constructor
      · rintro (e | q)
        · rw [e]
          exact a2
        · exact ⟨q.1, q.2.1, q.2.2.1, by have := q.2.2.2; omega⟩
      · intro q
        by_cases e : c = v
        · exact Or.inl e
        · right
          have h3 := a3 c (w.lt q.2.1) q
          refine ⟨q.1, q.2.1, q.2.2.1, ?_⟩
          rcases Nat.lt_or_ge (ky v) (ky c) with z | z
          · exact z
          · exact absurd (w.2.1 c v q.1 a2.1 q.2.1 a2.2.1 (q.2.2.1.trans a2.2.2.1.symm) (by omega)) e
theorem klN_mem (w : wfT th pa ky) {p c : Nat} : c ∈ klN th pa ky p ↔ 1 ≤ c ∧ th c = true ∧ pa c = p := by
  unfold klN
  rw [kl_mem w 24 0 (by have := kc_le (th := th) (pa := pa) (p := p); omega)]
  constructor
  · exact fun q => ⟨q.1, q.2.1, q.2.2.1⟩
  · exact fun q => ⟨q.1, q.2.1, q.2.2, (w.1 c q.1 q.2.1).2.2.1⟩
theorem kl_sorted : ∀ f s p, (klF th pa ky p f s).Pairwise (fun a b => ky a < ky b) ∧ ∀ c ∈ klF th pa ky p f s, s < ky c
  | 0, _, _ => ⟨List.Pairwise.nil, fun _ h => by cases h⟩
  | f + 1, s, p => by
    unfold klF
    cases hv : nk th pa ky p s with
    | none => exact ⟨List.Pairwise.nil, fun _ h => by cases h⟩
    | some v =>
      obtain ⟨a1, a2, a3⟩ := nk_spec hv
      obtain ⟨h1, h2⟩ := kl_sorted f (ky v) p
      refine ⟨List.Pairwise.cons h2 h1, fun c hc => ?_⟩
      have := a2.2.2.2
      rcases List.mem_cons.mp hc with e | hc
      · rw [e]
        exact this
      · have := h2 c hc
        omega
theorem fm_congr {f g : Nat → List Nat} : ∀ l : List Nat, (∀ c ∈ l, f c = g c) → l.flatMap f = l.flatMap g
  | [], _ => rfl
  | a :: l, h => by
    rw [List.flatMap_cons, List.flatMap_cons, h a List.mem_cons_self, fm_congr l (fun c hc => h c (List.mem_cons_of_mem _ hc))]
theorem preF_s (m v : Nat) : preF th pa ky (m + 1) v = v :: (klN th pa ky v).flatMap (preF th pa ky m) := rfl
theorem preF_eq (w : wfT th pa ky) : ∀ m k v, th v = true → 24 - v ≤ m → 24 - v ≤ k → preF th pa ky m v = preF th pa ky k v
  | 0, _, v, ht, h, _ => absurd (w.lt ht) (by omega)
  | m + 1, 0, v, ht, _, h => absurd (w.lt ht) (by omega)
  | m + 1, k + 1, v, ht, h1, h2 => by
    rw [preF_s, preF_s, fm_congr (klN th pa ky v) (fun c hc => ?_)]
    have q := (klN_mem w).mp hc
    have := w.1 c q.1 q.2.1
    have h3 := q.2.2
    exact preF_eq w m k c q.2.1 (by omega) (by omega)
theorem pre_eq (w : wfT th pa ky) {v : Nat} (ht : th v = true) : pre th pa ky v = v :: (klN th pa ky v).flatMap (pre th pa ky) := by
  have e : pre th pa ky v = preF th pa ky (24 + 1) v := preF_eq w 24 (24 + 1) v ht (by omega) (by omega)
  rw [e, preF_s]
  rfl
theorem pre_sound (w : wfT th pa ky) : ∀ m v x, th v = true → x ∈ preF th pa ky m v → th x = true ∧ ov pa v x = true
  | 0, _, _, _, h => by cases h
  | m + 1, v, x, ht, h => by
    rcases List.mem_cons.mp h with e | h
    · rw [e]
      exact ⟨ht, ov_self v⟩
    · obtain ⟨c, hc, hx⟩ := List.mem_flatMap.mp h
      have q := (klN_mem w).mp hc
      obtain ⟨h1, h2⟩ := pre_sound w m c x q.2.1 hx
      refine ⟨h1, ov_trans w ?_ x h1 h2⟩
      have hp := w.1 c q.1 q.2.1
      rw [ov_step w q.1 q.2.1 (by have := q.2.2; omega), q.2.2]
      exact ov_self v
theorem pre_child (w : wfT th pa ky) : ∀ m v u x, th v = true → 24 - v ≤ m → u ∈ preF th pa ky m v → 1 ≤ x → th x = true → pa x = u → x ∈ preF th pa ky m v
  | 0, v, _, _, ht, h, _, _, _, _ => absurd (w.lt ht) (by omega)
  | m + 1, v, u, x, ht, h, hu, h1, hx, hp => by
    have hx2 := w.1 x h1 hx
    have hxl := w.lt hx
    rcases List.mem_cons.mp hu with e | hu
    · refine List.mem_cons_of_mem _ (List.mem_flatMap.mpr ⟨x, (klN_mem w).mpr ⟨h1, hx, by rw [hp, e]⟩, ?_⟩)
      cases m with
      | zero => omega
      | succ m => exact List.mem_cons_self
    · obtain ⟨c, hc, hx3⟩ := List.mem_flatMap.mp hu
      have q := (klN_mem w).mp hc
      have := w.1 c q.1 q.2.1
      have h3 := q.2.2
      exact List.mem_cons_of_mem _ (List.mem_flatMap.mpr ⟨c, hc, pre_child w m c u x q.2.1 (by omega) hx3 h1 hx hp⟩)
theorem pre_mem (w : wfT th pa ky) {v x : Nat} (hv : th v = true) : x ∈ pre th pa ky v ↔ th x = true ∧ ov pa v x = true := by
  constructor
  · exact pre_sound w 24 v x hv
  · rintro ⟨hx, ho⟩
    induction x using Nat.strongRecOn with
    | _ x ih =>
      by_cases c : x = v
      · rw [c, pre_eq w hv]
        exact List.mem_cons_self
      · by_cases c2 : x = 0
        · subst c2
          rw [ov_0 (fun e => c e.symm)] at ho
          cases ho
        · rw [ov_step w (by omega) hx c] at ho
          have hp := w.1 x (by omega) hx
          exact pre_child w 24 v (pa x) x hv (by omega) (ih (pa x) hp.1 hp.2.1 ho) (by omega) hx rfl
theorem kids_apart (w : wfT th pa ky) {a b x v : Nat} (ha : 1 ≤ a ∧ th a = true ∧ pa a = v) (hb : 1 ≤ b ∧ th b = true ∧ pa b = v) (hx : th x = true) (h1 : ov pa a x = true) (h2 : ov pa b x = true) : a = b := by
  have no : ∀ {a b : Nat}, 1 ≤ a ∧ th a = true ∧ pa a = v → 1 ≤ b ∧ th b = true ∧ pa b = v → ov pa a b = true → a = b := fun {a b} ha hb h => by
    by_cases e : b = a
    · exact e.symm
    · exfalso
      have h3 := w.1 a ha.1 ha.2.1
      have h4 := w.1 b hb.1 hb.2.1
      rw [ov_step w hb.1 hb.2.1 e, hb.2.2] at h
      have := ov_le w v (by rw [← ha.2.2]; exact h3.2.1) h
      have := ha.2.2
      omega
  rcases ov_line w x hx h1 h2 with h | h
  · exact no ha hb h
  · exact (no hb ha h).symm
theorem pre_nodup (w : wfT th pa ky) : ∀ m v, th v = true → (preF th pa ky m v).Nodup
  | 0, _, _ => List.Pairwise.nil
  | m + 1, v, ht => by
    have hkl : ∀ c ∈ klN th pa ky v, 1 ≤ c ∧ th c = true ∧ pa c = v := fun c hc => (klN_mem w).mp hc
    have hs : (klN th pa ky v).Pairwise (fun a b => ky a < ky b) := (kl_sorted 24 0 v).1
    rw [preF_s]
    refine List.Pairwise.cons (fun x hx e => ?_) ?_
    · obtain ⟨c, hc, hx⟩ := List.mem_flatMap.mp hx
      have q := hkl c hc
      obtain ⟨h1, h2⟩ := pre_sound w m c x q.2.1 hx
      have h3 := ov_le w x h1 h2
      have h4 := w.1 c q.1 q.2.1
      have h5 := q.2.2
      omega
    · generalize klN th pa ky v = l at hkl hs
      induction l with
      | nil => exact List.Pairwise.nil
      | cons a l ih =>
        rw [List.flatMap_cons]
        rw [List.pairwise_cons] at hs
        refine List.nodup_append.mpr ⟨pre_nodup w m a (hkl a List.mem_cons_self).2.1, ih (fun c hc => hkl c (List.mem_cons_of_mem _ hc)) hs.2, fun x hx y hy e => ?_⟩
        subst e
        obtain ⟨c, hc, hy⟩ := List.mem_flatMap.mp hy
        have qa := hkl a List.mem_cons_self
        have qc := hkl c (List.mem_cons_of_mem _ hc)
        obtain ⟨h1, h2⟩ := pre_sound w m a x qa.2.1 hx
        obtain ⟨h3, h4⟩ := pre_sound w m c x qc.2.1 hy
        have e := kids_apart w qa qc h1 h2 h4
        have := hs.1 c hc
        rw [e] at this
        omega
theorem pre_split (w : wfT th pa ky) (h0 : th 0 = true) : ∀ v, th v = true → ∃ A B, pre th pa ky 0 = A ++ (pre th pa ky v ++ B) := fun v => by
  induction v using Nat.strongRecOn with
  | _ v ih =>
    intro ht
    by_cases c : v = 0
    · subst c
      exact ⟨[], [], by simp⟩
    · have hp := w.1 v (by omega) ht
      obtain ⟨A, B, e⟩ := ih (pa v) hp.1 hp.2.1
      obtain ⟨l1, l2, e2⟩ := List.append_of_mem ((klN_mem w (p := pa v) (c := v)).mpr ⟨by omega, ht, rfl⟩)
      refine ⟨A ++ (pa v :: l1.flatMap (pre th pa ky)), l2.flatMap (pre th pa ky) ++ B, ?_⟩
      rw [e, pre_eq w hp.2.1, e2]
      simp
/-- how many are ahead of v -/
def rk (th : Nat → Bool) (pa ky : Nat → Nat) (v : Nat) : Nat := (pre th pa ky 0).idxOf v
theorem rk_span (w : wfT th pa ky) (h0 : th 0 = true) {v x : Nat} (hv : th v = true) (hx : th x = true) : ov pa v x = true ↔ rk th pa ky v ≤ rk th pa ky x ∧ rk th pa ky x < rk th pa ky v + (pre th pa ky v).length := by
  obtain ⟨A, B, e⟩ := pre_split w h0 v hv
  have nd := pre_nodup w 24 0 h0
  have nd : (A ++ (pre th pa ky v ++ B)).Nodup := by rw [← e]; exact nd
  obtain ⟨n1, n2, n3⟩ := List.nodup_append.mp nd
  obtain ⟨n4, n5, n6⟩ := List.nodup_append.mp n2
  have hm : v ∈ pre th pa ky v := (pre_mem w hv).mpr ⟨hv, ov_self v⟩
  have ev : rk th pa ky v = A.length := by
    unfold rk
    rw [e, List.idxOf_append, if_neg (fun q => n3 v q v (List.mem_append_left _ hm) rfl), pre_eq w hv]
    simp
  have hx0 : x ∈ A ++ (pre th pa ky v ++ B) := by
    rw [← e]
    exact (pre_mem w h0).mpr ⟨hx, ov_root w x hx⟩
  have ex : rk th pa ky x = (A ++ (pre th pa ky v ++ B)).idxOf x := by
    unfold rk
    rw [e]
  rw [ev, ex]
  have hmem : ov pa v x = true ↔ x ∈ pre th pa ky v := by
    rw [pre_mem w hv]
    exact ⟨fun h => ⟨hx, h⟩, fun h => h.2⟩
  rw [hmem, List.idxOf_append]
  by_cases c1 : x ∈ A
  · rw [if_pos c1]
    have := List.idxOf_lt_length_iff.mpr c1
    constructor
    · intro q
      exact absurd rfl (n3 x c1 x (List.mem_append_left _ q))
    · intro q
      omega
  · rw [if_neg c1, List.idxOf_append]
    by_cases c2 : x ∈ pre th pa ky v
    · rw [if_pos c2]
      have := List.idxOf_lt_length_iff.mpr c2
      exact ⟨fun _ => by omega, fun _ => c2⟩
    · rw [if_neg c2]
      exact ⟨fun q => absurd q c2, fun q => by omega⟩
end PRE
