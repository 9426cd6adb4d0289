/-! LabelTreeModel.<init> (written by program: wip/whole/gen74.py) -/
theorem dX10_init_0 : decode cX10_init 0 = .ok (.aload_n 0, 1) := by decide +kernel
theorem dX10_init_1 : decode cX10_init 1 = .ok (.invokespecial 1, 3) := by decide +kernel
theorem dX10_init_4 : decode cX10_init 4 = .ok (.aload_n 0, 1) := by decide +kernel
theorem dX10_init_5 : decode cX10_init 5 = .ok (.bipush 24, 2) := by decide +kernel
theorem dX10_init_7 : decode cX10_init 7 = .ok (.newarray .int, 2) := by decide +kernel
theorem dX10_init_9 : decode cX10_init 9 = .ok (.putfield 7, 3) := by decide +kernel
theorem dX10_init_12 : decode cX10_init 12 = .ok (.aload_n 0, 1) := by decide +kernel
theorem dX10_init_13 : decode cX10_init 13 = .ok (.bipush 24, 2) := by decide +kernel
theorem dX10_init_15 : decode cX10_init 15 = .ok (.newarray .int, 2) := by decide +kernel
theorem dX10_init_17 : decode cX10_init 17 = .ok (.putfield 13, 3) := by decide +kernel
theorem dX10_init_20 : decode cX10_init 20 = .ok (.aload_n 0, 1) := by decide +kernel
theorem dX10_init_21 : decode cX10_init 21 = .ok (.bipush 24, 2) := by decide +kernel
theorem dX10_init_23 : decode cX10_init 23 = .ok (.newarray .int, 2) := by decide +kernel
theorem dX10_init_25 : decode cX10_init 25 = .ok (.putfield 16, 3) := by decide +kernel
theorem dX10_init_28 : decode cX10_init 28 = .ok (.aload_n 0, 1) := by decide +kernel
theorem dX10_init_29 : decode cX10_init 29 = .ok (.sipush 600, 3) := by decide +kernel
theorem dX10_init_32 : decode cX10_init 32 = .ok (.newarray .int, 2) := by decide +kernel
theorem dX10_init_34 : decode cX10_init 34 = .ok (.putfield 19, 3) := by decide +kernel
theorem dX10_init_37 : decode cX10_init 37 = .ok (.aload_n 0, 1) := by decide +kernel
theorem dX10_init_38 : decode cX10_init 38 = .ok (.sipush 150, 3) := by decide +kernel
theorem dX10_init_41 : decode cX10_init 41 = .ok (.newarray .int, 2) := by decide +kernel
theorem dX10_init_43 : decode cX10_init 43 = .ok (.putfield 22, 3) := by decide +kernel
theorem dX10_init_46 : decode cX10_init 46 = .ok (.aload_n 0, 1) := by decide +kernel
theorem dX10_init_47 : decode cX10_init 47 = .ok (.sipush 200, 3) := by decide +kernel
theorem dX10_init_50 : decode cX10_init 50 = .ok (.newarray .int, 2) := by decide +kernel
theorem dX10_init_52 : decode cX10_init 52 = .ok (.putfield 25, 3) := by decide +kernel
theorem dX10_init_55 : decode cX10_init 55 = .ok (.aload_n 0, 1) := by decide +kernel
theorem dX10_init_56 : decode cX10_init 56 = .ok (.bipush 75, 2) := by decide +kernel
theorem dX10_init_58 : decode cX10_init 58 = .ok (.newarray .int, 2) := by decide +kernel
theorem dX10_init_60 : decode cX10_init 60 = .ok (.putfield 28, 3) := by decide +kernel
theorem dX10_init_63 : decode cX10_init 63 = .ok (.aload_n 0, 1) := by decide +kernel
theorem dX10_init_64 : decode cX10_init 64 = .ok (.bipush 8, 2) := by decide +kernel
theorem dX10_init_66 : decode cX10_init 66 = .ok (.newarray .int, 2) := by decide +kernel
theorem dX10_init_68 : decode cX10_init 68 = .ok (.putfield 31, 3) := by decide +kernel
theorem dX10_init_71 : decode cX10_init 71 = .ok (.aload_n 0, 1) := by decide +kernel
theorem dX10_init_72 : decode cX10_init 72 = .ok (.bipush 8, 2) := by decide +kernel
theorem dX10_init_74 : decode cX10_init 74 = .ok (.newarray .int, 2) := by decide +kernel
theorem dX10_init_76 : decode cX10_init 76 = .ok (.putfield 34, 3) := by decide +kernel
theorem dX10_init_79 : decode cX10_init 79 = .ok (.aload_n 0, 1) := by decide +kernel
theorem dX10_init_80 : decode cX10_init 80 = .ok (.bipush 8, 2) := by decide +kernel
theorem dX10_init_82 : decode cX10_init 82 = .ok (.newarray .int, 2) := by decide +kernel
theorem dX10_init_84 : decode cX10_init 84 = .ok (.putfield 37, 3) := by decide +kernel
theorem dX10_init_87 : decode cX10_init 87 = .ok (.aload_n 0, 1) := by decide +kernel
theorem dX10_init_88 : decode cX10_init 88 = .ok (.bipush 8, 2) := by decide +kernel
theorem dX10_init_90 : decode cX10_init 90 = .ok (.newarray .int, 2) := by decide +kernel
theorem dX10_init_92 : decode cX10_init 92 = .ok (.putfield 40, 3) := by decide +kernel
theorem dX10_init_95 : decode cX10_init 95 = .ok (.aload_n 0, 1) := by decide +kernel
theorem dX10_init_96 : decode cX10_init 96 = .ok (.bipush 8, 2) := by decide +kernel
theorem dX10_init_98 : decode cX10_init 98 = .ok (.newarray .int, 2) := by decide +kernel
theorem dX10_init_100 : decode cX10_init 100 = .ok (.putfield 43, 3) := by decide +kernel
theorem dX10_init_103 : decode cX10_init 103 = .ok (.aload_n 0, 1) := by decide +kernel
theorem dX10_init_104 : decode cX10_init 104 = .ok (.bipush 8, 2) := by decide +kernel
theorem dX10_init_106 : decode cX10_init 106 = .ok (.newarray .int, 2) := by decide +kernel
theorem dX10_init_108 : decode cX10_init 108 = .ok (.putfield 46, 3) := by decide +kernel
theorem dX10_init_111 : decode cX10_init 111 = .ok (.aload_n 0, 1) := by decide +kernel
theorem dX10_init_112 : decode cX10_init 112 = .ok (.bipush 10, 2) := by decide +kernel
theorem dX10_init_114 : decode cX10_init 114 = .ok (.newarray .int, 2) := by decide +kernel
theorem dX10_init_116 : decode cX10_init 116 = .ok (.putfield 49, 3) := by decide +kernel
theorem dX10_init_119 : decode cX10_init 119 = .ok (.aload_n 0, 1) := by decide +kernel
theorem dX10_init_120 : decode cX10_init 120 = .ok (.sipush 192, 3) := by decide +kernel
theorem dX10_init_123 : decode cX10_init 123 = .ok (.newarray .long, 2) := by decide +kernel
theorem dX10_init_125 : decode cX10_init 125 = .ok (.putfield 52, 3) := by decide +kernel
theorem dX10_init_128 : decode cX10_init 128 = .ok (.aload_n 0, 1) := by decide +kernel
theorem dX10_init_129 : decode cX10_init 129 = .ok (.iconst 0, 1) := by decide +kernel
theorem dX10_init_130 : decode cX10_init 130 = .ok (.invokevirtual 56, 3) := by decide +kernel
theorem dX10_init_133 : decode cX10_init 133 = .ok (.aload_n 0, 1) := by decide +kernel
theorem dX10_init_134 : decode cX10_init 134 = .ok (.iconst 0, 1) := by decide +kernel
theorem dX10_init_135 : decode cX10_init 135 = .ok (.iconst 0, 1) := by decide +kernel
theorem dX10_init_136 : decode cX10_init 136 = .ok (.iconst 1, 1) := by decide +kernel
theorem dX10_init_137 : decode cX10_init 137 = .ok (.invokevirtual 60, 3) := by decide +kernel
theorem dX10_init_140 : decode cX10_init 140 = .ok (.pop, 1) := by decide +kernel
theorem dX10_init_141 : decode cX10_init 141 = .ok (.aload_n 0, 1) := by decide +kernel
theorem dX10_init_142 : decode cX10_init 142 = .ok (.iconst 0, 1) := by decide +kernel
theorem dX10_init_143 : decode cX10_init 143 = .ok (.iconst 1, 1) := by decide +kernel
theorem dX10_init_144 : decode cX10_init 144 = .ok (.iconst 2, 1) := by decide +kernel
theorem dX10_init_145 : decode cX10_init 145 = .ok (.invokevirtual 60, 3) := by decide +kernel
theorem dX10_init_148 : decode cX10_init 148 = .ok (.pop, 1) := by decide +kernel
theorem dX10_init_149 : decode cX10_init 149 = .ok (.aload_n 0, 1) := by decide +kernel
theorem dX10_init_150 : decode cX10_init 150 = .ok (.iconst 0, 1) := by decide +kernel
theorem dX10_init_151 : decode cX10_init 151 = .ok (.iconst 1, 1) := by decide +kernel
theorem dX10_init_152 : decode cX10_init 152 = .ok (.iconst 1, 1) := by decide +kernel
theorem dX10_init_153 : decode cX10_init 153 = .ok (.invokevirtual 60, 3) := by decide +kernel
theorem dX10_init_156 : decode cX10_init 156 = .ok (.pop, 1) := by decide +kernel
theorem dX10_init_157 : decode cX10_init 157 = .ok (.aload_n 0, 1) := by decide +kernel
theorem dX10_init_158 : decode cX10_init 158 = .ok (.iconst 1, 1) := by decide +kernel
theorem dX10_init_159 : decode cX10_init 159 = .ok (.iconst 0, 1) := by decide +kernel
theorem dX10_init_160 : decode cX10_init 160 = .ok (.iconst 3, 1) := by decide +kernel
theorem dX10_init_161 : decode cX10_init 161 = .ok (.invokevirtual 60, 3) := by decide +kernel
theorem dX10_init_164 : decode cX10_init 164 = .ok (.pop, 1) := by decide +kernel
theorem dX10_init_165 : decode cX10_init 165 = .ok (.aload_n 0, 1) := by decide +kernel
theorem dX10_init_166 : decode cX10_init 166 = .ok (.iconst 1, 1) := by decide +kernel
theorem dX10_init_167 : decode cX10_init 167 = .ok (.iconst 1, 1) := by decide +kernel
theorem dX10_init_168 : decode cX10_init 168 = .ok (.iconst 2, 1) := by decide +kernel
theorem dX10_init_169 : decode cX10_init 169 = .ok (.invokevirtual 60, 3) := by decide +kernel
theorem dX10_init_172 : decode cX10_init 172 = .ok (.pop, 1) := by decide +kernel
theorem dX10_init_173 : decode cX10_init 173 = .ok (.aload_n 0, 1) := by decide +kernel
theorem dX10_init_174 : decode cX10_init 174 = .ok (.iconst 3, 1) := by decide +kernel
theorem dX10_init_175 : decode cX10_init 175 = .ok (.iconst 0, 1) := by decide +kernel
theorem dX10_init_176 : decode cX10_init 176 = .ok (.iconst 3, 1) := by decide +kernel
theorem dX10_init_177 : decode cX10_init 177 = .ok (.invokevirtual 60, 3) := by decide +kernel
theorem dX10_init_180 : decode cX10_init 180 = .ok (.pop, 1) := by decide +kernel
theorem dX10_init_181 : decode cX10_init 181 = .ok (.aload_n 0, 1) := by decide +kernel
theorem dX10_init_182 : decode cX10_init 182 = .ok (.iconst 0, 1) := by decide +kernel
theorem dX10_init_183 : decode cX10_init 183 = .ok (.iconst 0, 1) := by decide +kernel
theorem dX10_init_184 : decode cX10_init 184 = .ok (.iconst 4, 1) := by decide +kernel
theorem dX10_init_185 : decode cX10_init 185 = .ok (.invokevirtual 60, 3) := by decide +kernel
theorem dX10_init_188 : decode cX10_init 188 = .ok (.pop, 1) := by decide +kernel
theorem dX10_init_189 : decode cX10_init 189 = .ok (.aload_n 0, 1) := by decide +kernel
theorem dX10_init_190 : decode cX10_init 190 = .ok (.iconst 2, 1) := by decide +kernel
theorem dX10_init_191 : decode cX10_init 191 = .ok (.iconst 0, 1) := by decide +kernel
theorem dX10_init_192 : decode cX10_init 192 = .ok (.iconst 1, 1) := by decide +kernel
theorem dX10_init_193 : decode cX10_init 193 = .ok (.invokevirtual 60, 3) := by decide +kernel
theorem dX10_init_196 : decode cX10_init 196 = .ok (.pop, 1) := by decide +kernel
theorem dX10_init_197 : decode cX10_init 197 = .ok (.aload_n 0, 1) := by decide +kernel
theorem dX10_init_198 : decode cX10_init 198 = .ok (.bipush 8, 2) := by decide +kernel
theorem dX10_init_200 : decode cX10_init 200 = .ok (.iconst 0, 1) := by decide +kernel
theorem dX10_init_201 : decode cX10_init 201 = .ok (.iconst 3, 1) := by decide +kernel
theorem dX10_init_202 : decode cX10_init 202 = .ok (.invokevirtual 60, 3) := by decide +kernel
theorem dX10_init_205 : decode cX10_init 205 = .ok (.pop, 1) := by decide +kernel
theorem dX10_init_206 : decode cX10_init 206 = .ok (.return_, 1) := by decide +kernel
def iX10 : pM := (yX10_init, cX10_init, 1, none, 897, [])
def z_m : List Value := [.int 0, .int 0, .int 0, .null, .null, .null, .null, .int 0, .null, .int 0, .null, .int 0, .int 0, .int 0, .null, .int 0, .int 0, .null, .null, .null, .int 0, .int 0, .null, .null, .null, .null, .null]
def m_h (h7 : pH) : pH := fun j => if j < 73 then h7 j else [eO 9 [.int 0, .int 0, .int 0, .ref 74, .ref 75, .ref 76, .ref 77, .int 0, .ref 78, .int 0, .ref 79, .int 0, .int 0, .int 0, .ref 80, .int 0, .int 0, .ref 81, .ref 82, .ref 83, .int 0, .int 0, .ref 84, .ref 85, .ref 86, .ref 87, .ref 88], eI 24 (fun _ => 0), eI 24 (fun _ => 0), eI 24 (fun _ => 0), eI 600 (fun _ => 0), eI 150 (fun _ => 0), eI 200 (fun _ => 0), eI 75 (fun _ => 0), eI 8 (fun _ => 0), eI 8 (fun _ => 0), eI 8 (fun _ => 0), eI 8 (fun _ => 0), eI 8 (fun _ => 0), eI 8 (fun _ => 0), eI 10 (fun _ => 0), eJ 192 (fun _ => 0)].getD (j - 73) (h7 j)
def m_ad (ad : Nat → Nat) (h0 q0 q1 q2 q3 q4 q5 q6 q7 q8 q9 q10 q11 q12 q13 q14 : Nat) : Nat → Nat := fun j => if j < 73 then ad j else [h0, q0, q1, q2, q3, q4, q5, q6, q7, q8, q9, q10, q11, q12, q13, q14].getD (j - 73) 0
def m_arr (kc : ClassId × ClassId × ClassId) (q0 q1 q2 q3 q4 q5 q6 q7 q8 q9 q10 q11 q12 q13 q14 : Nat) : va_W := [(q0, .inl (kc.1, 24, .inl (fun _ => 0))), (q1, .inl (kc.1, 24, .inl (fun _ => 0))), (q2, .inl (kc.1, 24, .inl (fun _ => 0))), (q3, .inl (kc.1, 600, .inl (fun _ => 0))), (q4, .inl (kc.1, 150, .inl (fun _ => 0))), (q5, .inl (kc.1, 200, .inl (fun _ => 0))), (q6, .inl (kc.1, 75, .inl (fun _ => 0))), (q7, .inl (kc.1, 8, .inl (fun _ => 0))), (q8, .inl (kc.1, 8, .inl (fun _ => 0))), (q9, .inl (kc.1, 8, .inl (fun _ => 0))), (q10, .inl (kc.1, 8, .inl (fun _ => 0))), (q11, .inl (kc.1, 8, .inl (fun _ => 0))), (q12, .inl (kc.1, 8, .inl (fun _ => 0))), (q13, .inl (kc.1, 10, .inl (fun _ => 0))), (q14, .inl (kc.2.1, 192, .inr (.inl (fun _ => 0))))]
theorem m_fr (h7 : pH) : fr [(73, 89)] h7 (m_h h7) := by
  intro k hk
  have h1 := hk (73, 89) List.mem_cons_self
  by_cases c : k < 73
  · exact if_pos c
  · have e : m_h h7 k = [eO 9 [.int 0, .int 0, .int 0, .ref 74, .ref 75, .ref 76, .ref 77, .int 0, .ref 78, .int 0, .ref 79, .int 0, .int 0, .int 0, .ref 80, .int 0, .int 0, .ref 81, .ref 82, .ref 83, .int 0, .int 0, .ref 84, .ref 85, .ref 86, .ref 87, .ref 88], eI 24 (fun _ => 0), eI 24 (fun _ => 0), eI 24 (fun _ => 0), eI 600 (fun _ => 0), eI 150 (fun _ => 0), eI 200 (fun _ => 0), eI 75 (fun _ => 0), eI 8 (fun _ => 0), eI 8 (fun _ => 0), eI 8 (fun _ => 0), eI 8 (fun _ => 0), eI 8 (fun _ => 0), eI 8 (fun _ => 0), eI 10 (fun _ => 0), eJ 192 (fun _ => 0)].getD (k - 73) (h7 k) := if_neg c
    rw [e, List.getD_eq_getElem?_getD, List.getElem?_eq_none (show 16 ≤ k - 73 by omega)]
    rfl
theorem m_isM (h7 : pH) : isM (m_h h7) st_0 := ⟨rfl, rfl, rfl, rfl, rfl, rfl, rfl, rfl, rfl, rfl, rfl, rfl, rfl, rfl, rfl, rfl⟩
theorem k_perm {A : Nat → Prop} {D : va_G} {cl : List vw_C} {H : Heap} {ws ws' : va_W} (f : Nat → Nat) (h : ∀ j, j < ws'.length → ws'[j]? = ws[f j]?) (inj : ∀ i j, i < ws'.length → j < ws'.length → f i = f j → i = j) (hP : va_P D cl ws H) (hD : va_D A ws) : va_P D cl ws' H ∧ va_D A ws' := by
  have lt : ∀ {i : Nat} {q : Nat × va_E}, ws'[i]? = some q → i < ws'.length := fun hi => (List.getElem?_eq_some_iff.mp hi).1
  refine ⟨fun k q hq => hP (f k) q ((h k (lt hq)).symm.trans hq), fun i j x y hx hy hxy => ?_, fun k q hq => hD.2 (f k) q ((h k (lt hq)).symm.trans hq)⟩
  exact inj i j (lt hx) (lt hy) (hD.1 (f i) (f j) x y ((h i (lt hx)).symm.trans hx) ((h j (lt hy)).symm.trans hy) hxy)
set_option maxRecDepth 100000 in
theorem m_world {A : Nat → Prop} {D : va_G} {H : Heap} {kc : ClassId × ClassId × ClassId} {ad : Nat → Nat} {h7 : pH} {h0 q0 q1 q2 q3 q4 q5 q6 q7 q8 q9 q10 q11 q12 q13 q14 : Nat} (hr : ∀ j, j < 73 → rb (h7 j)) (hP : va_P D k_cl ((h0, .inr (9, [.int 0, .int 0, .int 0, .ref q0, .ref q1, .ref q2, .ref q3, .int 0, .ref q4, .int 0, .ref q5, .int 0, .int 0, .int 0, .ref q6, .int 0, .int 0, .ref q7, .ref q8, .ref q9, .int 0, .int 0, .ref q10, .ref q11, .ref q12, .ref q13, .ref q14])) :: (p_wm kc ad 73 h7 ++ m_arr kc q0 q1 q2 q3 q4 q5 q6 q7 q8 q9 q10 q11 q12 q13 q14)) H) (hD : va_D A ((h0, .inr (9, [.int 0, .int 0, .int 0, .ref q0, .ref q1, .ref q2, .ref q3, .int 0, .ref q4, .int 0, .ref q5, .int 0, .int 0, .int 0, .ref q6, .int 0, .int 0, .ref q7, .ref q8, .ref q9, .int 0, .int 0, .ref q10, .ref q11, .ref q12, .ref q13, .ref q14])) :: (p_wm kc ad 73 h7 ++ m_arr kc q0 q1 q2 q3 q4 q5 q6 q7 q8 q9 q10 q11 q12 q13 q14))) : va_P D k_cl (p_wm kc (m_ad ad h0 q0 q1 q2 q3 q4 q5 q6 q7 q8 q9 q10 q11 q12 q13 q14) 89 (m_h h7)) H ∧ va_D A (p_wm kc (m_ad ad h0 q0 q1 q2 q3 q4 q5 q6 q7 q8 q9 q10 q11 q12 q13 q14) 89 (m_h h7)) := by
  have len : (p_wm kc (m_ad ad h0 q0 q1 q2 q3 q4 q5 q6 q7 q8 q9 q10 q11 q12 q13 q14) 89 (m_h h7)).length = 89 := by simp [p_wm]
  have len7 : (p_wm kc ad 73 h7).length = 73 := by simp [p_wm]
  refine k_perm (fun j => if j < 73 then j + 1 else if j = 73 then 0 else j) (fun j hj => ?_) (fun i j hi hj he => ?_) hP hD
  · rw [len] at hj
    rw [p_wm_get hj]
    by_cases c : j < 73
    · have e1 : (if j < 73 then j + 1 else if j = 73 then 0 else j) = j + 1 := if_pos c
      have e2 : m_ad ad h0 q0 q1 q2 q3 q4 q5 q6 q7 q8 q9 q10 q11 q12 q13 q14 j = ad j := if_pos c
      have e3 : m_h h7 j = h7 j := if_pos c
      rw [e1, e2, e3, List.getElem?_cons_succ, List.getElem?_append_left (by rw [len7]; exact c), p_wm_get c]
      rw [hr j c kc ad (m_ad ad h0 q0 q1 q2 q3 q4 q5 q6 q7 q8 q9 q10 q11 q12 q13 q14) (fun k hk => if_pos hk)]
    · have e0 : ∀ i, ((h0, .inr (9, [.int 0, .int 0, .int 0, .ref q0, .ref q1, .ref q2, .ref q3, .int 0, .ref q4, .int 0, .ref q5, .int 0, .int 0, .int 0, .ref q6, .int 0, .int 0, .ref q7, .ref q8, .ref q9, .int 0, .int 0, .ref q10, .ref q11, .ref q12, .ref q13, .ref q14])) :: (p_wm kc ad 73 h7 ++ m_arr kc q0 q1 q2 q3 q4 q5 q6 q7 q8 q9 q10 q11 q12 q13 q14))[73 + 1 + i]? = (m_arr kc q0 q1 q2 q3 q4 q5 q6 q7 q8 q9 q10 q11 q12 q13 q14)[i]? := fun i => by
        rw [show 73 + 1 + i = (73 + i) + 1 by omega, List.getElem?_cons_succ, List.getElem?_append_right (by rw [len7]; omega), len7, Nat.add_sub_cancel_left]
      rcases (show j = 73 ∨ j = 74 ∨ j = 75 ∨ j = 76 ∨ j = 77 ∨ j = 78 ∨ j = 79 ∨ j = 80 ∨ j = 81 ∨ j = 82 ∨ j = 83 ∨ j = 84 ∨ j = 85 ∨ j = 86 ∨ j = 87 ∨ j = 88 by omega) with rfl | rfl | rfl | rfl | rfl | rfl | rfl | rfl | rfl | rfl | rfl | rfl | rfl | rfl | rfl | rfl
      · rfl
      · exact (e0 0).symm
      · exact (e0 1).symm
      · exact (e0 2).symm
      · exact (e0 3).symm
      · exact (e0 4).symm
      · exact (e0 5).symm
      · exact (e0 6).symm
      · exact (e0 7).symm
      · exact (e0 8).symm
      · exact (e0 9).symm
      · exact (e0 10).symm
      · exact (e0 11).symm
      · exact (e0 12).symm
      · exact (e0 13).symm
      · exact (e0 14).symm
  · rw [len] at hi hj
    have he : (if i < 73 then i + 1 else if i = 73 then 0 else i) = (if j < 73 then j + 1 else if j = 73 then 0 else j) := he
    split at he
    · split at he
      · omega
      · split at he <;> omega
    · split at he
      · split at he
        · omega
        · split at he <;> omega
      · split at he
        · omega
        · split at he <;> omega
theorem PX.wM {h h1 : pH} {X : tX} {L : tL} {K : tK} {U : tU} {T D : tT} {O : tO} {P : tP} {A B : tT} {S E : tS} {G : tG} (x : PX h X L K U T D O P A B S E G) (f : fr [(73, 89)] h h1) : PX h1 X L K U T D O P A B S E G := by
  obtain ⟨xX, xL, xK, xU, xT, xD, xO, xP, xA, xB, xS, xE, xG⟩ := x
  exact ⟨isX.fr f (by decide) xX, isL.fr f (by decide) xL, isK.fr f (by decide) xK, isU.fr f (by decide) xU, isT.fr f (by decide) xT, isT.fr f (by decide) xD, isO.fr f (by decide) xO, isP.fr f (by decide) xP, isT.fr f (by decide) xA, isT.fr f (by decide) xB, isS.fr f (by decide) xS, isS.fr f (by decide) xE, isG.fr f (by decide) xG⟩
theorem fr.trans9 {h h1 h2 : pH} (f : fr [(73, 89)] h h1) (f2 : fr [(73, 89)] h1 h2) : fr [(73, 89)] h h2 := fun k hk => (f2 k hk).trans (f k hk)
set_option maxRecDepth 100000 in
set_option maxHeartbeats 4000000 in
theorem cX10_new (l : Launch) (D : va_G) (kc : ClassId × ClassId × ClassId) (h0 sz : Nat) (ad : Nat → Nat) (h7 : pH) (hxp : x_post (ad, h7)) : Met l iX10.1 (p_ws iX10) (k_rm 6 15 1347) (va_Pc (.ref h0 :: []) (k_B D kc ((h0, .inr (9, z_m)) :: p_wm kc ad 73 h7) sz)) (va_Qv (S := (Nat → Nat) × pH) (fun u => PI u.2 ∧ u.1 0 = ad 0 ∧ u.1 73 = h0) (g_E D (fun u => p_wm kc u.1 89 u.2) (va_A ((h0, .inr (9, z_m)) :: p_wm kc ad 73 h7) sz)) (va_A ((h0, .inr (9, z_m)) :: p_wm kc ad 73 h7) sz)) 15 1347 (va_A ((h0, .inr (9, z_m)) :: p_wm kc ad 73 h7) sz) := by
  obtain ⟨X, L, K, U, T, Dr, O, Pa, Ka, Kb, S, E, G, px, iv⟩ := hxp
  have hrb : ∀ j, j < 73 → rb (h7 j) := fun j hj => PX.rb px hj
  refine x_open (M := iX10) (by decide +kernel) rfl rfl (Nat.le_of_ble_eq_true rfl) ?_
  intro p e s m args below meth c ls ox hB hl
  obtain ⟨hsz, hP, hD0, hK, hN, hO⟩ := hB
  have cx := ox.k hK hN hO
  have gx := cx.g
  obtain ⟨hx, hb, hr, hml, hts, hown, hlocks, hnm, -⟩ := id cx
  subst hsz
  have hD := hD0.self (sz := s.heap.size)
  have hA : ∀ q, s.heap.size ≤ q → va_A ((h0, .inr (9, z_m)) :: p_wm kc ad 73 h7) s.heap.size q := fun q h => Or.inr h
  have hS : va_S (va_A ((h0, .inr (9, z_m)) :: p_wm kc ad 73 h7) s.heap.size) s.heap s.heap [] := va_S.rf
  generalize va_A ((h0, .inr (9, z_m)) :: p_wm kc ad 73 h7) s.heap.size = A at hD hA hS ⊢
  have hP : va_P D k_cl ((h0, .inr (9, [.int 0, .int 0, .int 0, .null, .null, .null, .null, .int 0, .null, .int 0, .null, .int 0, .int 0, .int 0, .null, .int 0, .int 0, .null, .null, .null, .int 0, .int 0, .null, .null, .null, .null, .null])) :: p_wm kc ad 73 h7) s.heap := hP
  have hD : va_D A ((h0, .inr (9, [.int 0, .int 0, .int 0, .null, .null, .null, .null, .int 0, .null, .int 0, .null, .int 0, .int 0, .int 0, .null, .int 0, .int 0, .null, .null, .null, .int 0, .int 0, .null, .null, .null, .null, .null])) :: p_wm kc ad 73 h7) := hD
  refine k_obj cx (i1 := 898) (i2 := 87) (i3 := 88) (r := _) hl dX10_init_0 dX10_init_1 (by decide +kernel) (by decide +kernel) (by decide +kernel) (Nat.le_of_ble_eq_true rfl) (Nat.le_of_ble_eq_true rfl) ?_
  refine lv_aload_n hx hb dX10_init_4 rfl (lv_at hl 0 rfl) ?_
  refine lv_bipush (v := 24) hx hb dX10_init_5 (by decide) ?_
  refine k_arr cx (k := 3) (N := 24) (i1 := 102) (i2 := 934) (rest := []) hP hD hS hA rfl (by decide) rfl rfl (by simp) (by decide +kernel) (by decide +kernel) rfl (by decide) (by decide) (by decide) (Nat.le_of_ble_eq_true rfl) (Nat.le_of_ble_eq_true rfl) dX10_init_7 dX10_init_9 (fun q0 H locs hP hD hS => ?_)
  have hP : va_P D k_cl ((h0, .inr (9, [.int 0, .int 0, .int 0, .ref q0, .null, .null, .null, .int 0, .null, .int 0, .null, .int 0, .int 0, .int 0, .null, .int 0, .int 0, .null, .null, .null, .int 0, .int 0, .null, .null, .null, .null, .null])) :: (p_wm kc ad 73 h7 ++ [(q0, .inl (kc.1, 24, .inl (fun _ => 0)))])) H := hP
  have hD : va_D A ((h0, .inr (9, [.int 0, .int 0, .int 0, .ref q0, .null, .null, .null, .int 0, .null, .int 0, .null, .int 0, .int 0, .int 0, .null, .int 0, .int 0, .null, .null, .null, .int 0, .int 0, .null, .null, .null, .null, .null])) :: (p_wm kc ad 73 h7 ++ [(q0, .inl (kc.1, 24, .inl (fun _ => 0)))])) := hD
  refine lv_aload_n hx hb dX10_init_12 rfl (lv_at hl 0 rfl) ?_
  refine lv_bipush (v := 24) hx hb dX10_init_13 (by decide) ?_
  refine k_arr cx (k := 4) (N := 24) (i1 := 102) (i2 := 935) (rest := []) hP hD hS hA rfl (by decide) rfl rfl (by simp) (by decide +kernel) (by decide +kernel) rfl (by decide) (by decide) (by decide) (Nat.le_of_ble_eq_true rfl) (Nat.le_of_ble_eq_true rfl) dX10_init_15 dX10_init_17 (fun q1 H locs hP hD hS => ?_)
  have hP : va_P D k_cl ((h0, .inr (9, [.int 0, .int 0, .int 0, .ref q0, .ref q1, .null, .null, .int 0, .null, .int 0, .null, .int 0, .int 0, .int 0, .null, .int 0, .int 0, .null, .null, .null, .int 0, .int 0, .null, .null, .null, .null, .null])) :: ((p_wm kc ad 73 h7 ++ [(q0, .inl (kc.1, 24, .inl (fun _ => 0)))]) ++ [(q1, .inl (kc.1, 24, .inl (fun _ => 0)))])) H := hP
  have hD : va_D A ((h0, .inr (9, [.int 0, .int 0, .int 0, .ref q0, .ref q1, .null, .null, .int 0, .null, .int 0, .null, .int 0, .int 0, .int 0, .null, .int 0, .int 0, .null, .null, .null, .int 0, .int 0, .null, .null, .null, .null, .null])) :: ((p_wm kc ad 73 h7 ++ [(q0, .inl (kc.1, 24, .inl (fun _ => 0)))]) ++ [(q1, .inl (kc.1, 24, .inl (fun _ => 0)))])) := hD
  refine lv_aload_n hx hb dX10_init_20 rfl (lv_at hl 0 rfl) ?_
  refine lv_bipush (v := 24) hx hb dX10_init_21 (by decide) ?_
  refine k_arr cx (k := 5) (N := 24) (i1 := 102) (i2 := 936) (rest := []) hP hD hS hA rfl (by decide) rfl rfl (by simp) (by decide +kernel) (by decide +kernel) rfl (by decide) (by decide) (by decide) (Nat.le_of_ble_eq_true rfl) (Nat.le_of_ble_eq_true rfl) dX10_init_23 dX10_init_25 (fun q2 H locs hP hD hS => ?_)
  have hP : va_P D k_cl ((h0, .inr (9, [.int 0, .int 0, .int 0, .ref q0, .ref q1, .ref q2, .null, .int 0, .null, .int 0, .null, .int 0, .int 0, .int 0, .null, .int 0, .int 0, .null, .null, .null, .int 0, .int 0, .null, .null, .null, .null, .null])) :: (((p_wm kc ad 73 h7 ++ [(q0, .inl (kc.1, 24, .inl (fun _ => 0)))]) ++ [(q1, .inl (kc.1, 24, .inl (fun _ => 0)))]) ++ [(q2, .inl (kc.1, 24, .inl (fun _ => 0)))])) H := hP
  have hD : va_D A ((h0, .inr (9, [.int 0, .int 0, .int 0, .ref q0, .ref q1, .ref q2, .null, .int 0, .null, .int 0, .null, .int 0, .int 0, .int 0, .null, .int 0, .int 0, .null, .null, .null, .int 0, .int 0, .null, .null, .null, .null, .null])) :: (((p_wm kc ad 73 h7 ++ [(q0, .inl (kc.1, 24, .inl (fun _ => 0)))]) ++ [(q1, .inl (kc.1, 24, .inl (fun _ => 0)))]) ++ [(q2, .inl (kc.1, 24, .inl (fun _ => 0)))])) := hD
  refine lv_aload_n hx hb dX10_init_28 rfl (lv_at hl 0 rfl) ?_
  refine lv_sipush (v := 600) hx hb dX10_init_29 (by decide) ?_
  refine k_arr cx (k := 6) (N := 600) (i1 := 102) (i2 := 937) (rest := []) hP hD hS hA rfl (by decide) rfl rfl (by simp) (by decide +kernel) (by decide +kernel) rfl (by decide) (by decide) (by decide) (Nat.le_of_ble_eq_true rfl) (Nat.le_of_ble_eq_true rfl) dX10_init_32 dX10_init_34 (fun q3 H locs hP hD hS => ?_)
  have hP : va_P D k_cl ((h0, .inr (9, [.int 0, .int 0, .int 0, .ref q0, .ref q1, .ref q2, .ref q3, .int 0, .null, .int 0, .null, .int 0, .int 0, .int 0, .null, .int 0, .int 0, .null, .null, .null, .int 0, .int 0, .null, .null, .null, .null, .null])) :: ((((p_wm kc ad 73 h7 ++ [(q0, .inl (kc.1, 24, .inl (fun _ => 0)))]) ++ [(q1, .inl (kc.1, 24, .inl (fun _ => 0)))]) ++ [(q2, .inl (kc.1, 24, .inl (fun _ => 0)))]) ++ [(q3, .inl (kc.1, 600, .inl (fun _ => 0)))])) H := hP
  have hD : va_D A ((h0, .inr (9, [.int 0, .int 0, .int 0, .ref q0, .ref q1, .ref q2, .ref q3, .int 0, .null, .int 0, .null, .int 0, .int 0, .int 0, .null, .int 0, .int 0, .null, .null, .null, .int 0, .int 0, .null, .null, .null, .null, .null])) :: ((((p_wm kc ad 73 h7 ++ [(q0, .inl (kc.1, 24, .inl (fun _ => 0)))]) ++ [(q1, .inl (kc.1, 24, .inl (fun _ => 0)))]) ++ [(q2, .inl (kc.1, 24, .inl (fun _ => 0)))]) ++ [(q3, .inl (kc.1, 600, .inl (fun _ => 0)))])) := hD
  refine lv_aload_n hx hb dX10_init_37 rfl (lv_at hl 0 rfl) ?_
  refine lv_sipush (v := 150) hx hb dX10_init_38 (by decide) ?_
  refine k_arr cx (k := 8) (N := 150) (i1 := 102) (i2 := 939) (rest := []) hP hD hS hA rfl (by decide) rfl rfl (by simp) (by decide +kernel) (by decide +kernel) rfl (by decide) (by decide) (by decide) (Nat.le_of_ble_eq_true rfl) (Nat.le_of_ble_eq_true rfl) dX10_init_41 dX10_init_43 (fun q4 H locs hP hD hS => ?_)
  have hP : va_P D k_cl ((h0, .inr (9, [.int 0, .int 0, .int 0, .ref q0, .ref q1, .ref q2, .ref q3, .int 0, .ref q4, .int 0, .null, .int 0, .int 0, .int 0, .null, .int 0, .int 0, .null, .null, .null, .int 0, .int 0, .null, .null, .null, .null, .null])) :: (((((p_wm kc ad 73 h7 ++ [(q0, .inl (kc.1, 24, .inl (fun _ => 0)))]) ++ [(q1, .inl (kc.1, 24, .inl (fun _ => 0)))]) ++ [(q2, .inl (kc.1, 24, .inl (fun _ => 0)))]) ++ [(q3, .inl (kc.1, 600, .inl (fun _ => 0)))]) ++ [(q4, .inl (kc.1, 150, .inl (fun _ => 0)))])) H := hP
  have hD : va_D A ((h0, .inr (9, [.int 0, .int 0, .int 0, .ref q0, .ref q1, .ref q2, .ref q3, .int 0, .ref q4, .int 0, .null, .int 0, .int 0, .int 0, .null, .int 0, .int 0, .null, .null, .null, .int 0, .int 0, .null, .null, .null, .null, .null])) :: (((((p_wm kc ad 73 h7 ++ [(q0, .inl (kc.1, 24, .inl (fun _ => 0)))]) ++ [(q1, .inl (kc.1, 24, .inl (fun _ => 0)))]) ++ [(q2, .inl (kc.1, 24, .inl (fun _ => 0)))]) ++ [(q3, .inl (kc.1, 600, .inl (fun _ => 0)))]) ++ [(q4, .inl (kc.1, 150, .inl (fun _ => 0)))])) := hD
  refine lv_aload_n hx hb dX10_init_46 rfl (lv_at hl 0 rfl) ?_
  refine lv_sipush (v := 200) hx hb dX10_init_47 (by decide) ?_
  refine k_arr cx (k := 10) (N := 200) (i1 := 102) (i2 := 941) (rest := []) hP hD hS hA rfl (by decide) rfl rfl (by simp) (by decide +kernel) (by decide +kernel) rfl (by decide) (by decide) (by decide) (Nat.le_of_ble_eq_true rfl) (Nat.le_of_ble_eq_true rfl) dX10_init_50 dX10_init_52 (fun q5 H locs hP hD hS => ?_)
  have hP : va_P D k_cl ((h0, .inr (9, [.int 0, .int 0, .int 0, .ref q0, .ref q1, .ref q2, .ref q3, .int 0, .ref q4, .int 0, .ref q5, .int 0, .int 0, .int 0, .null, .int 0, .int 0, .null, .null, .null, .int 0, .int 0, .null, .null, .null, .null, .null])) :: ((((((p_wm kc ad 73 h7 ++ [(q0, .inl (kc.1, 24, .inl (fun _ => 0)))]) ++ [(q1, .inl (kc.1, 24, .inl (fun _ => 0)))]) ++ [(q2, .inl (kc.1, 24, .inl (fun _ => 0)))]) ++ [(q3, .inl (kc.1, 600, .inl (fun _ => 0)))]) ++ [(q4, .inl (kc.1, 150, .inl (fun _ => 0)))]) ++ [(q5, .inl (kc.1, 200, .inl (fun _ => 0)))])) H := hP
  have hD : va_D A ((h0, .inr (9, [.int 0, .int 0, .int 0, .ref q0, .ref q1, .ref q2, .ref q3, .int 0, .ref q4, .int 0, .ref q5, .int 0, .int 0, .int 0, .null, .int 0, .int 0, .null, .null, .null, .int 0, .int 0, .null, .null, .null, .null, .null])) :: ((((((p_wm kc ad 73 h7 ++ [(q0, .inl (kc.1, 24, .inl (fun _ => 0)))]) ++ [(q1, .inl (kc.1, 24, .inl (fun _ => 0)))]) ++ [(q2, .inl (kc.1, 24, .inl (fun _ => 0)))]) ++ [(q3, .inl (kc.1, 600, .inl (fun _ => 0)))]) ++ [(q4, .inl (kc.1, 150, .inl (fun _ => 0)))]) ++ [(q5, .inl (kc.1, 200, .inl (fun _ => 0)))])) := hD
  refine lv_aload_n hx hb dX10_init_55 rfl (lv_at hl 0 rfl) ?_
  refine lv_bipush (v := 75) hx hb dX10_init_56 (by decide) ?_
  refine k_arr cx (k := 14) (N := 75) (i1 := 102) (i2 := 945) (rest := []) hP hD hS hA rfl (by decide) rfl rfl (by simp) (by decide +kernel) (by decide +kernel) rfl (by decide) (by decide) (by decide) (Nat.le_of_ble_eq_true rfl) (Nat.le_of_ble_eq_true rfl) dX10_init_58 dX10_init_60 (fun q6 H locs hP hD hS => ?_)
  have hP : va_P D k_cl ((h0, .inr (9, [.int 0, .int 0, .int 0, .ref q0, .ref q1, .ref q2, .ref q3, .int 0, .ref q4, .int 0, .ref q5, .int 0, .int 0, .int 0, .ref q6, .int 0, .int 0, .null, .null, .null, .int 0, .int 0, .null, .null, .null, .null, .null])) :: (((((((p_wm kc ad 73 h7 ++ [(q0, .inl (kc.1, 24, .inl (fun _ => 0)))]) ++ [(q1, .inl (kc.1, 24, .inl (fun _ => 0)))]) ++ [(q2, .inl (kc.1, 24, .inl (fun _ => 0)))]) ++ [(q3, .inl (kc.1, 600, .inl (fun _ => 0)))]) ++ [(q4, .inl (kc.1, 150, .inl (fun _ => 0)))]) ++ [(q5, .inl (kc.1, 200, .inl (fun _ => 0)))]) ++ [(q6, .inl (kc.1, 75, .inl (fun _ => 0)))])) H := hP
  have hD : va_D A ((h0, .inr (9, [.int 0, .int 0, .int 0, .ref q0, .ref q1, .ref q2, .ref q3, .int 0, .ref q4, .int 0, .ref q5, .int 0, .int 0, .int 0, .ref q6, .int 0, .int 0, .null, .null, .null, .int 0, .int 0, .null, .null, .null, .null, .null])) :: (((((((p_wm kc ad 73 h7 ++ [(q0, .inl (kc.1, 24, .inl (fun _ => 0)))]) ++ [(q1, .inl (kc.1, 24, .inl (fun _ => 0)))]) ++ [(q2, .inl (kc.1, 24, .inl (fun _ => 0)))]) ++ [(q3, .inl (kc.1, 600, .inl (fun _ => 0)))]) ++ [(q4, .inl (kc.1, 150, .inl (fun _ => 0)))]) ++ [(q5, .inl (kc.1, 200, .inl (fun _ => 0)))]) ++ [(q6, .inl (kc.1, 75, .inl (fun _ => 0)))])) := hD
  refine lv_aload_n hx hb dX10_init_63 rfl (lv_at hl 0 rfl) ?_
  refine lv_bipush (v := 8) hx hb dX10_init_64 (by decide) ?_
  refine k_arr cx (k := 17) (N := 8) (i1 := 102) (i2 := 948) (rest := []) hP hD hS hA rfl (by decide) rfl rfl (by simp) (by decide +kernel) (by decide +kernel) rfl (by decide) (by decide) (by decide) (Nat.le_of_ble_eq_true rfl) (Nat.le_of_ble_eq_true rfl) dX10_init_66 dX10_init_68 (fun q7 H locs hP hD hS => ?_)
  have hP : va_P D k_cl ((h0, .inr (9, [.int 0, .int 0, .int 0, .ref q0, .ref q1, .ref q2, .ref q3, .int 0, .ref q4, .int 0, .ref q5, .int 0, .int 0, .int 0, .ref q6, .int 0, .int 0, .ref q7, .null, .null, .int 0, .int 0, .null, .null, .null, .null, .null])) :: ((((((((p_wm kc ad 73 h7 ++ [(q0, .inl (kc.1, 24, .inl (fun _ => 0)))]) ++ [(q1, .inl (kc.1, 24, .inl (fun _ => 0)))]) ++ [(q2, .inl (kc.1, 24, .inl (fun _ => 0)))]) ++ [(q3, .inl (kc.1, 600, .inl (fun _ => 0)))]) ++ [(q4, .inl (kc.1, 150, .inl (fun _ => 0)))]) ++ [(q5, .inl (kc.1, 200, .inl (fun _ => 0)))]) ++ [(q6, .inl (kc.1, 75, .inl (fun _ => 0)))]) ++ [(q7, .inl (kc.1, 8, .inl (fun _ => 0)))])) H := hP
  have hD : va_D A ((h0, .inr (9, [.int 0, .int 0, .int 0, .ref q0, .ref q1, .ref q2, .ref q3, .int 0, .ref q4, .int 0, .ref q5, .int 0, .int 0, .int 0, .ref q6, .int 0, .int 0, .ref q7, .null, .null, .int 0, .int 0, .null, .null, .null, .null, .null])) :: ((((((((p_wm kc ad 73 h7 ++ [(q0, .inl (kc.1, 24, .inl (fun _ => 0)))]) ++ [(q1, .inl (kc.1, 24, .inl (fun _ => 0)))]) ++ [(q2, .inl (kc.1, 24, .inl (fun _ => 0)))]) ++ [(q3, .inl (kc.1, 600, .inl (fun _ => 0)))]) ++ [(q4, .inl (kc.1, 150, .inl (fun _ => 0)))]) ++ [(q5, .inl (kc.1, 200, .inl (fun _ => 0)))]) ++ [(q6, .inl (kc.1, 75, .inl (fun _ => 0)))]) ++ [(q7, .inl (kc.1, 8, .inl (fun _ => 0)))])) := hD
  refine lv_aload_n hx hb dX10_init_71 rfl (lv_at hl 0 rfl) ?_
  refine lv_bipush (v := 8) hx hb dX10_init_72 (by decide) ?_
  refine k_arr cx (k := 18) (N := 8) (i1 := 102) (i2 := 949) (rest := []) hP hD hS hA rfl (by decide) rfl rfl (by simp) (by decide +kernel) (by decide +kernel) rfl (by decide) (by decide) (by decide) (Nat.le_of_ble_eq_true rfl) (Nat.le_of_ble_eq_true rfl) dX10_init_74 dX10_init_76 (fun q8 H locs hP hD hS => ?_)
  have hP : va_P D k_cl ((h0, .inr (9, [.int 0, .int 0, .int 0, .ref q0, .ref q1, .ref q2, .ref q3, .int 0, .ref q4, .int 0, .ref q5, .int 0, .int 0, .int 0, .ref q6, .int 0, .int 0, .ref q7, .ref q8, .null, .int 0, .int 0, .null, .null, .null, .null, .null])) :: (((((((((p_wm kc ad 73 h7 ++ [(q0, .inl (kc.1, 24, .inl (fun _ => 0)))]) ++ [(q1, .inl (kc.1, 24, .inl (fun _ => 0)))]) ++ [(q2, .inl (kc.1, 24, .inl (fun _ => 0)))]) ++ [(q3, .inl (kc.1, 600, .inl (fun _ => 0)))]) ++ [(q4, .inl (kc.1, 150, .inl (fun _ => 0)))]) ++ [(q5, .inl (kc.1, 200, .inl (fun _ => 0)))]) ++ [(q6, .inl (kc.1, 75, .inl (fun _ => 0)))]) ++ [(q7, .inl (kc.1, 8, .inl (fun _ => 0)))]) ++ [(q8, .inl (kc.1, 8, .inl (fun _ => 0)))])) H := hP
  have hD : va_D A ((h0, .inr (9, [.int 0, .int 0, .int 0, .ref q0, .ref q1, .ref q2, .ref q3, .int 0, .ref q4, .int 0, .ref q5, .int 0, .int 0, .int 0, .ref q6, .int 0, .int 0, .ref q7, .ref q8, .null, .int 0, .int 0, .null, .null, .null, .null, .null])) :: (((((((((p_wm kc ad 73 h7 ++ [(q0, .inl (kc.1, 24, .inl (fun _ => 0)))]) ++ [(q1, .inl (kc.1, 24, .inl (fun _ => 0)))]) ++ [(q2, .inl (kc.1, 24, .inl (fun _ => 0)))]) ++ [(q3, .inl (kc.1, 600, .inl (fun _ => 0)))]) ++ [(q4, .inl (kc.1, 150, .inl (fun _ => 0)))]) ++ [(q5, .inl (kc.1, 200, .inl (fun _ => 0)))]) ++ [(q6, .inl (kc.1, 75, .inl (fun _ => 0)))]) ++ [(q7, .inl (kc.1, 8, .inl (fun _ => 0)))]) ++ [(q8, .inl (kc.1, 8, .inl (fun _ => 0)))])) := hD
  refine lv_aload_n hx hb dX10_init_79 rfl (lv_at hl 0 rfl) ?_
  refine lv_bipush (v := 8) hx hb dX10_init_80 (by decide) ?_
  refine k_arr cx (k := 19) (N := 8) (i1 := 102) (i2 := 950) (rest := []) hP hD hS hA rfl (by decide) rfl rfl (by simp) (by decide +kernel) (by decide +kernel) rfl (by decide) (by decide) (by decide) (Nat.le_of_ble_eq_true rfl) (Nat.le_of_ble_eq_true rfl) dX10_init_82 dX10_init_84 (fun q9 H locs hP hD hS => ?_)
  have hP : va_P D k_cl ((h0, .inr (9, [.int 0, .int 0, .int 0, .ref q0, .ref q1, .ref q2, .ref q3, .int 0, .ref q4, .int 0, .ref q5, .int 0, .int 0, .int 0, .ref q6, .int 0, .int 0, .ref q7, .ref q8, .ref q9, .int 0, .int 0, .null, .null, .null, .null, .null])) :: ((((((((((p_wm kc ad 73 h7 ++ [(q0, .inl (kc.1, 24, .inl (fun _ => 0)))]) ++ [(q1, .inl (kc.1, 24, .inl (fun _ => 0)))]) ++ [(q2, .inl (kc.1, 24, .inl (fun _ => 0)))]) ++ [(q3, .inl (kc.1, 600, .inl (fun _ => 0)))]) ++ [(q4, .inl (kc.1, 150, .inl (fun _ => 0)))]) ++ [(q5, .inl (kc.1, 200, .inl (fun _ => 0)))]) ++ [(q6, .inl (kc.1, 75, .inl (fun _ => 0)))]) ++ [(q7, .inl (kc.1, 8, .inl (fun _ => 0)))]) ++ [(q8, .inl (kc.1, 8, .inl (fun _ => 0)))]) ++ [(q9, .inl (kc.1, 8, .inl (fun _ => 0)))])) H := hP
  have hD : va_D A ((h0, .inr (9, [.int 0, .int 0, .int 0, .ref q0, .ref q1, .ref q2, .ref q3, .int 0, .ref q4, .int 0, .ref q5, .int 0, .int 0, .int 0, .ref q6, .int 0, .int 0, .ref q7, .ref q8, .ref q9, .int 0, .int 0, .null, .null, .null, .null, .null])) :: ((((((((((p_wm kc ad 73 h7 ++ [(q0, .inl (kc.1, 24, .inl (fun _ => 0)))]) ++ [(q1, .inl (kc.1, 24, .inl (fun _ => 0)))]) ++ [(q2, .inl (kc.1, 24, .inl (fun _ => 0)))]) ++ [(q3, .inl (kc.1, 600, .inl (fun _ => 0)))]) ++ [(q4, .inl (kc.1, 150, .inl (fun _ => 0)))]) ++ [(q5, .inl (kc.1, 200, .inl (fun _ => 0)))]) ++ [(q6, .inl (kc.1, 75, .inl (fun _ => 0)))]) ++ [(q7, .inl (kc.1, 8, .inl (fun _ => 0)))]) ++ [(q8, .inl (kc.1, 8, .inl (fun _ => 0)))]) ++ [(q9, .inl (kc.1, 8, .inl (fun _ => 0)))])) := hD
  refine lv_aload_n hx hb dX10_init_87 rfl (lv_at hl 0 rfl) ?_
  refine lv_bipush (v := 8) hx hb dX10_init_88 (by decide) ?_
  refine k_arr cx (k := 22) (N := 8) (i1 := 102) (i2 := 953) (rest := []) hP hD hS hA rfl (by decide) rfl rfl (by simp) (by decide +kernel) (by decide +kernel) rfl (by decide) (by decide) (by decide) (Nat.le_of_ble_eq_true rfl) (Nat.le_of_ble_eq_true rfl) dX10_init_90 dX10_init_92 (fun q10 H locs hP hD hS => ?_)
  have hP : va_P D k_cl ((h0, .inr (9, [.int 0, .int 0, .int 0, .ref q0, .ref q1, .ref q2, .ref q3, .int 0, .ref q4, .int 0, .ref q5, .int 0, .int 0, .int 0, .ref q6, .int 0, .int 0, .ref q7, .ref q8, .ref q9, .int 0, .int 0, .ref q10, .null, .null, .null, .null])) :: (((((((((((p_wm kc ad 73 h7 ++ [(q0, .inl (kc.1, 24, .inl (fun _ => 0)))]) ++ [(q1, .inl (kc.1, 24, .inl (fun _ => 0)))]) ++ [(q2, .inl (kc.1, 24, .inl (fun _ => 0)))]) ++ [(q3, .inl (kc.1, 600, .inl (fun _ => 0)))]) ++ [(q4, .inl (kc.1, 150, .inl (fun _ => 0)))]) ++ [(q5, .inl (kc.1, 200, .inl (fun _ => 0)))]) ++ [(q6, .inl (kc.1, 75, .inl (fun _ => 0)))]) ++ [(q7, .inl (kc.1, 8, .inl (fun _ => 0)))]) ++ [(q8, .inl (kc.1, 8, .inl (fun _ => 0)))]) ++ [(q9, .inl (kc.1, 8, .inl (fun _ => 0)))]) ++ [(q10, .inl (kc.1, 8, .inl (fun _ => 0)))])) H := hP
  have hD : va_D A ((h0, .inr (9, [.int 0, .int 0, .int 0, .ref q0, .ref q1, .ref q2, .ref q3, .int 0, .ref q4, .int 0, .ref q5, .int 0, .int 0, .int 0, .ref q6, .int 0, .int 0, .ref q7, .ref q8, .ref q9, .int 0, .int 0, .ref q10, .null, .null, .null, .null])) :: (((((((((((p_wm kc ad 73 h7 ++ [(q0, .inl (kc.1, 24, .inl (fun _ => 0)))]) ++ [(q1, .inl (kc.1, 24, .inl (fun _ => 0)))]) ++ [(q2, .inl (kc.1, 24, .inl (fun _ => 0)))]) ++ [(q3, .inl (kc.1, 600, .inl (fun _ => 0)))]) ++ [(q4, .inl (kc.1, 150, .inl (fun _ => 0)))]) ++ [(q5, .inl (kc.1, 200, .inl (fun _ => 0)))]) ++ [(q6, .inl (kc.1, 75, .inl (fun _ => 0)))]) ++ [(q7, .inl (kc.1, 8, .inl (fun _ => 0)))]) ++ [(q8, .inl (kc.1, 8, .inl (fun _ => 0)))]) ++ [(q9, .inl (kc.1, 8, .inl (fun _ => 0)))]) ++ [(q10, .inl (kc.1, 8, .inl (fun _ => 0)))])) := hD
  refine lv_aload_n hx hb dX10_init_95 rfl (lv_at hl 0 rfl) ?_
  refine lv_bipush (v := 8) hx hb dX10_init_96 (by decide) ?_
  refine k_arr cx (k := 23) (N := 8) (i1 := 102) (i2 := 954) (rest := []) hP hD hS hA rfl (by decide) rfl rfl (by simp) (by decide +kernel) (by decide +kernel) rfl (by decide) (by decide) (by decide) (Nat.le_of_ble_eq_true rfl) (Nat.le_of_ble_eq_true rfl) dX10_init_98 dX10_init_100 (fun q11 H locs hP hD hS => ?_)
  have hP : va_P D k_cl ((h0, .inr (9, [.int 0, .int 0, .int 0, .ref q0, .ref q1, .ref q2, .ref q3, .int 0, .ref q4, .int 0, .ref q5, .int 0, .int 0, .int 0, .ref q6, .int 0, .int 0, .ref q7, .ref q8, .ref q9, .int 0, .int 0, .ref q10, .ref q11, .null, .null, .null])) :: ((((((((((((p_wm kc ad 73 h7 ++ [(q0, .inl (kc.1, 24, .inl (fun _ => 0)))]) ++ [(q1, .inl (kc.1, 24, .inl (fun _ => 0)))]) ++ [(q2, .inl (kc.1, 24, .inl (fun _ => 0)))]) ++ [(q3, .inl (kc.1, 600, .inl (fun _ => 0)))]) ++ [(q4, .inl (kc.1, 150, .inl (fun _ => 0)))]) ++ [(q5, .inl (kc.1, 200, .inl (fun _ => 0)))]) ++ [(q6, .inl (kc.1, 75, .inl (fun _ => 0)))]) ++ [(q7, .inl (kc.1, 8, .inl (fun _ => 0)))]) ++ [(q8, .inl (kc.1, 8, .inl (fun _ => 0)))]) ++ [(q9, .inl (kc.1, 8, .inl (fun _ => 0)))]) ++ [(q10, .inl (kc.1, 8, .inl (fun _ => 0)))]) ++ [(q11, .inl (kc.1, 8, .inl (fun _ => 0)))])) H := hP
  have hD : va_D A ((h0, .inr (9, [.int 0, .int 0, .int 0, .ref q0, .ref q1, .ref q2, .ref q3, .int 0, .ref q4, .int 0, .ref q5, .int 0, .int 0, .int 0, .ref q6, .int 0, .int 0, .ref q7, .ref q8, .ref q9, .int 0, .int 0, .ref q10, .ref q11, .null, .null, .null])) :: ((((((((((((p_wm kc ad 73 h7 ++ [(q0, .inl (kc.1, 24, .inl (fun _ => 0)))]) ++ [(q1, .inl (kc.1, 24, .inl (fun _ => 0)))]) ++ [(q2, .inl (kc.1, 24, .inl (fun _ => 0)))]) ++ [(q3, .inl (kc.1, 600, .inl (fun _ => 0)))]) ++ [(q4, .inl (kc.1, 150, .inl (fun _ => 0)))]) ++ [(q5, .inl (kc.1, 200, .inl (fun _ => 0)))]) ++ [(q6, .inl (kc.1, 75, .inl (fun _ => 0)))]) ++ [(q7, .inl (kc.1, 8, .inl (fun _ => 0)))]) ++ [(q8, .inl (kc.1, 8, .inl (fun _ => 0)))]) ++ [(q9, .inl (kc.1, 8, .inl (fun _ => 0)))]) ++ [(q10, .inl (kc.1, 8, .inl (fun _ => 0)))]) ++ [(q11, .inl (kc.1, 8, .inl (fun _ => 0)))])) := hD
  refine lv_aload_n hx hb dX10_init_103 rfl (lv_at hl 0 rfl) ?_
  refine lv_bipush (v := 8) hx hb dX10_init_104 (by decide) ?_
  refine k_arr cx (k := 24) (N := 8) (i1 := 102) (i2 := 955) (rest := []) hP hD hS hA rfl (by decide) rfl rfl (by simp) (by decide +kernel) (by decide +kernel) rfl (by decide) (by decide) (by decide) (Nat.le_of_ble_eq_true rfl) (Nat.le_of_ble_eq_true rfl) dX10_init_106 dX10_init_108 (fun q12 H locs hP hD hS => ?_)
  have hP : va_P D k_cl ((h0, .inr (9, [.int 0, .int 0, .int 0, .ref q0, .ref q1, .ref q2, .ref q3, .int 0, .ref q4, .int 0, .ref q5, .int 0, .int 0, .int 0, .ref q6, .int 0, .int 0, .ref q7, .ref q8, .ref q9, .int 0, .int 0, .ref q10, .ref q11, .ref q12, .null, .null])) :: (((((((((((((p_wm kc ad 73 h7 ++ [(q0, .inl (kc.1, 24, .inl (fun _ => 0)))]) ++ [(q1, .inl (kc.1, 24, .inl (fun _ => 0)))]) ++ [(q2, .inl (kc.1, 24, .inl (fun _ => 0)))]) ++ [(q3, .inl (kc.1, 600, .inl (fun _ => 0)))]) ++ [(q4, .inl (kc.1, 150, .inl (fun _ => 0)))]) ++ [(q5, .inl (kc.1, 200, .inl (fun _ => 0)))]) ++ [(q6, .inl (kc.1, 75, .inl (fun _ => 0)))]) ++ [(q7, .inl (kc.1, 8, .inl (fun _ => 0)))]) ++ [(q8, .inl (kc.1, 8, .inl (fun _ => 0)))]) ++ [(q9, .inl (kc.1, 8, .inl (fun _ => 0)))]) ++ [(q10, .inl (kc.1, 8, .inl (fun _ => 0)))]) ++ [(q11, .inl (kc.1, 8, .inl (fun _ => 0)))]) ++ [(q12, .inl (kc.1, 8, .inl (fun _ => 0)))])) H := hP
  have hD : va_D A ((h0, .inr (9, [.int 0, .int 0, .int 0, .ref q0, .ref q1, .ref q2, .ref q3, .int 0, .ref q4, .int 0, .ref q5, .int 0, .int 0, .int 0, .ref q6, .int 0, .int 0, .ref q7, .ref q8, .ref q9, .int 0, .int 0, .ref q10, .ref q11, .ref q12, .null, .null])) :: (((((((((((((p_wm kc ad 73 h7 ++ [(q0, .inl (kc.1, 24, .inl (fun _ => 0)))]) ++ [(q1, .inl (kc.1, 24, .inl (fun _ => 0)))]) ++ [(q2, .inl (kc.1, 24, .inl (fun _ => 0)))]) ++ [(q3, .inl (kc.1, 600, .inl (fun _ => 0)))]) ++ [(q4, .inl (kc.1, 150, .inl (fun _ => 0)))]) ++ [(q5, .inl (kc.1, 200, .inl (fun _ => 0)))]) ++ [(q6, .inl (kc.1, 75, .inl (fun _ => 0)))]) ++ [(q7, .inl (kc.1, 8, .inl (fun _ => 0)))]) ++ [(q8, .inl (kc.1, 8, .inl (fun _ => 0)))]) ++ [(q9, .inl (kc.1, 8, .inl (fun _ => 0)))]) ++ [(q10, .inl (kc.1, 8, .inl (fun _ => 0)))]) ++ [(q11, .inl (kc.1, 8, .inl (fun _ => 0)))]) ++ [(q12, .inl (kc.1, 8, .inl (fun _ => 0)))])) := hD
  refine lv_aload_n hx hb dX10_init_111 rfl (lv_at hl 0 rfl) ?_
  refine lv_bipush (v := 10) hx hb dX10_init_112 (by decide) ?_
  refine k_arr cx (k := 25) (N := 10) (i1 := 102) (i2 := 956) (rest := []) hP hD hS hA rfl (by decide) rfl rfl (by simp) (by decide +kernel) (by decide +kernel) rfl (by decide) (by decide) (by decide) (Nat.le_of_ble_eq_true rfl) (Nat.le_of_ble_eq_true rfl) dX10_init_114 dX10_init_116 (fun q13 H locs hP hD hS => ?_)
  have hP : va_P D k_cl ((h0, .inr (9, [.int 0, .int 0, .int 0, .ref q0, .ref q1, .ref q2, .ref q3, .int 0, .ref q4, .int 0, .ref q5, .int 0, .int 0, .int 0, .ref q6, .int 0, .int 0, .ref q7, .ref q8, .ref q9, .int 0, .int 0, .ref q10, .ref q11, .ref q12, .ref q13, .null])) :: ((((((((((((((p_wm kc ad 73 h7 ++ [(q0, .inl (kc.1, 24, .inl (fun _ => 0)))]) ++ [(q1, .inl (kc.1, 24, .inl (fun _ => 0)))]) ++ [(q2, .inl (kc.1, 24, .inl (fun _ => 0)))]) ++ [(q3, .inl (kc.1, 600, .inl (fun _ => 0)))]) ++ [(q4, .inl (kc.1, 150, .inl (fun _ => 0)))]) ++ [(q5, .inl (kc.1, 200, .inl (fun _ => 0)))]) ++ [(q6, .inl (kc.1, 75, .inl (fun _ => 0)))]) ++ [(q7, .inl (kc.1, 8, .inl (fun _ => 0)))]) ++ [(q8, .inl (kc.1, 8, .inl (fun _ => 0)))]) ++ [(q9, .inl (kc.1, 8, .inl (fun _ => 0)))]) ++ [(q10, .inl (kc.1, 8, .inl (fun _ => 0)))]) ++ [(q11, .inl (kc.1, 8, .inl (fun _ => 0)))]) ++ [(q12, .inl (kc.1, 8, .inl (fun _ => 0)))]) ++ [(q13, .inl (kc.1, 10, .inl (fun _ => 0)))])) H := hP
  have hD : va_D A ((h0, .inr (9, [.int 0, .int 0, .int 0, .ref q0, .ref q1, .ref q2, .ref q3, .int 0, .ref q4, .int 0, .ref q5, .int 0, .int 0, .int 0, .ref q6, .int 0, .int 0, .ref q7, .ref q8, .ref q9, .int 0, .int 0, .ref q10, .ref q11, .ref q12, .ref q13, .null])) :: ((((((((((((((p_wm kc ad 73 h7 ++ [(q0, .inl (kc.1, 24, .inl (fun _ => 0)))]) ++ [(q1, .inl (kc.1, 24, .inl (fun _ => 0)))]) ++ [(q2, .inl (kc.1, 24, .inl (fun _ => 0)))]) ++ [(q3, .inl (kc.1, 600, .inl (fun _ => 0)))]) ++ [(q4, .inl (kc.1, 150, .inl (fun _ => 0)))]) ++ [(q5, .inl (kc.1, 200, .inl (fun _ => 0)))]) ++ [(q6, .inl (kc.1, 75, .inl (fun _ => 0)))]) ++ [(q7, .inl (kc.1, 8, .inl (fun _ => 0)))]) ++ [(q8, .inl (kc.1, 8, .inl (fun _ => 0)))]) ++ [(q9, .inl (kc.1, 8, .inl (fun _ => 0)))]) ++ [(q10, .inl (kc.1, 8, .inl (fun _ => 0)))]) ++ [(q11, .inl (kc.1, 8, .inl (fun _ => 0)))]) ++ [(q12, .inl (kc.1, 8, .inl (fun _ => 0)))]) ++ [(q13, .inl (kc.1, 10, .inl (fun _ => 0)))])) := hD
  refine lv_aload_n hx hb dX10_init_119 rfl (lv_at hl 0 rfl) ?_
  refine lv_sipush (v := 192) hx hb dX10_init_120 (by decide) ?_
  refine k_arrJ cx (k := 26) (N := 192) (i1 := 271) (i2 := 957) (rest := []) hP hD hS hA rfl (by decide) rfl rfl (by simp) (by decide +kernel) (by decide +kernel) rfl (by decide) (by decide) (by decide) (Nat.le_of_ble_eq_true rfl) (Nat.le_of_ble_eq_true rfl) dX10_init_123 dX10_init_125 (fun q14 H locs hP hD hS => ?_)
  have hP : va_P D k_cl ((h0, .inr (9, [.int 0, .int 0, .int 0, .ref q0, .ref q1, .ref q2, .ref q3, .int 0, .ref q4, .int 0, .ref q5, .int 0, .int 0, .int 0, .ref q6, .int 0, .int 0, .ref q7, .ref q8, .ref q9, .int 0, .int 0, .ref q10, .ref q11, .ref q12, .ref q13, .ref q14])) :: (((((((((((((((p_wm kc ad 73 h7 ++ [(q0, .inl (kc.1, 24, .inl (fun _ => 0)))]) ++ [(q1, .inl (kc.1, 24, .inl (fun _ => 0)))]) ++ [(q2, .inl (kc.1, 24, .inl (fun _ => 0)))]) ++ [(q3, .inl (kc.1, 600, .inl (fun _ => 0)))]) ++ [(q4, .inl (kc.1, 150, .inl (fun _ => 0)))]) ++ [(q5, .inl (kc.1, 200, .inl (fun _ => 0)))]) ++ [(q6, .inl (kc.1, 75, .inl (fun _ => 0)))]) ++ [(q7, .inl (kc.1, 8, .inl (fun _ => 0)))]) ++ [(q8, .inl (kc.1, 8, .inl (fun _ => 0)))]) ++ [(q9, .inl (kc.1, 8, .inl (fun _ => 0)))]) ++ [(q10, .inl (kc.1, 8, .inl (fun _ => 0)))]) ++ [(q11, .inl (kc.1, 8, .inl (fun _ => 0)))]) ++ [(q12, .inl (kc.1, 8, .inl (fun _ => 0)))]) ++ [(q13, .inl (kc.1, 10, .inl (fun _ => 0)))]) ++ [(q14, .inl (kc.2.1, 192, .inr (.inl (fun _ => 0))))])) H := hP
  have hD : va_D A ((h0, .inr (9, [.int 0, .int 0, .int 0, .ref q0, .ref q1, .ref q2, .ref q3, .int 0, .ref q4, .int 0, .ref q5, .int 0, .int 0, .int 0, .ref q6, .int 0, .int 0, .ref q7, .ref q8, .ref q9, .int 0, .int 0, .ref q10, .ref q11, .ref q12, .ref q13, .ref q14])) :: (((((((((((((((p_wm kc ad 73 h7 ++ [(q0, .inl (kc.1, 24, .inl (fun _ => 0)))]) ++ [(q1, .inl (kc.1, 24, .inl (fun _ => 0)))]) ++ [(q2, .inl (kc.1, 24, .inl (fun _ => 0)))]) ++ [(q3, .inl (kc.1, 600, .inl (fun _ => 0)))]) ++ [(q4, .inl (kc.1, 150, .inl (fun _ => 0)))]) ++ [(q5, .inl (kc.1, 200, .inl (fun _ => 0)))]) ++ [(q6, .inl (kc.1, 75, .inl (fun _ => 0)))]) ++ [(q7, .inl (kc.1, 8, .inl (fun _ => 0)))]) ++ [(q8, .inl (kc.1, 8, .inl (fun _ => 0)))]) ++ [(q9, .inl (kc.1, 8, .inl (fun _ => 0)))]) ++ [(q10, .inl (kc.1, 8, .inl (fun _ => 0)))]) ++ [(q11, .inl (kc.1, 8, .inl (fun _ => 0)))]) ++ [(q12, .inl (kc.1, 8, .inl (fun _ => 0)))]) ++ [(q13, .inl (kc.1, 10, .inl (fun _ => 0)))]) ++ [(q14, .inl (kc.2.1, 192, .inr (.inl (fun _ => 0))))])) := hD
  have eW : (((((((((((((((p_wm kc ad 73 h7 ++ [(q0, .inl (kc.1, 24, .inl (fun _ => 0)))]) ++ [(q1, .inl (kc.1, 24, .inl (fun _ => 0)))]) ++ [(q2, .inl (kc.1, 24, .inl (fun _ => 0)))]) ++ [(q3, .inl (kc.1, 600, .inl (fun _ => 0)))]) ++ [(q4, .inl (kc.1, 150, .inl (fun _ => 0)))]) ++ [(q5, .inl (kc.1, 200, .inl (fun _ => 0)))]) ++ [(q6, .inl (kc.1, 75, .inl (fun _ => 0)))]) ++ [(q7, .inl (kc.1, 8, .inl (fun _ => 0)))]) ++ [(q8, .inl (kc.1, 8, .inl (fun _ => 0)))]) ++ [(q9, .inl (kc.1, 8, .inl (fun _ => 0)))]) ++ [(q10, .inl (kc.1, 8, .inl (fun _ => 0)))]) ++ [(q11, .inl (kc.1, 8, .inl (fun _ => 0)))]) ++ [(q12, .inl (kc.1, 8, .inl (fun _ => 0)))]) ++ [(q13, .inl (kc.1, 10, .inl (fun _ => 0)))]) ++ [(q14, .inl (kc.2.1, 192, .inr (.inl (fun _ => 0))))]) = p_wm kc ad 73 h7 ++ m_arr kc q0 q1 q2 q3 q4 q5 q6 q7 q8 q9 q10 q11 q12 q13 q14 := by
    simp only [List.append_assoc]
    rfl
  rw [eW] at hP hD
  obtain ⟨hP, hD⟩ := m_world hrb hP hD
  have ea0 : m_ad ad h0 q0 q1 q2 q3 q4 q5 q6 q7 q8 q9 q10 q11 q12 q13 q14 0 = ad 0 := rfl
  have ea : m_ad ad h0 q0 q1 q2 q3 q4 q5 q6 q7 q8 q9 q10 q11 q12 q13 q14 73 = h0 := rfl
  generalize m_ad ad h0 q0 q1 q2 q3 q4 q5 q6 q7 q8 q9 q10 q11 q12 q13 q14 = ae at hP hD ea0 ea
  rw [← ea] at hl
  obtain ⟨inj, hAd⟩ := p_wm_inj hD
  have xM := m_isM h7
  have fM := m_fr h7
  generalize m_h h7 = hh at hP xM fM
  clear hD
  have hl : lv_has ls 1 [(0, .ref (ae 73))] := hl
  refine lv_aload_n hx hb dX10_init_128 rfl (lv_at hl 0 rfl) ?_
  refine lv_iconst (v := 0) hx hb dX10_init_129 (by decide) ?_
  obtain ⟨n0, r, h1, hrun, rfl, y1, f1⟩ := spX10_root (d := 0) xM 0 st_r1
  refine g_call gx (N := 89) (ad := ae) (d := 0) (M' := mX10_root) (na := 1) (ci := 9) (q := 73) (vs := [.int 0]) (rest := []) (i1 := 899) (i2 := 901) (i3 := 28) (i4 := 77) inj hAd (List.mem_of_getElem? (i := 124) rfl) dX10_init_130 (by decide +kernel) (by decide +kernel) (by decide +kernel) (by decide +kernel) (by decide +kernel) rfl rfl (by decide) xM.1 rfl (Nat.le_of_ble_eq_true rfl) (by decide) ⟨(Nat.le_of_ble_eq_true rfl), (Nat.le_of_ble_eq_true rfl)⟩ (Nat.le_of_ble_eq_true rfl) (Nat.le_of_ble_eq_true rfl) hrun hP hS hl.1 (fun H locs hP hS => ?_)
  have fM := fM.trans9 f1
  refine lv_aload_n hx hb dX10_init_133 rfl (lv_at hl 0 rfl) ?_
  refine lv_iconst (v := 0) hx hb dX10_init_134 (by decide) ?_
  refine lv_iconst (v := 0) hx hb dX10_init_135 (by decide) ?_
  refine lv_iconst (v := 1) hx hb dX10_init_136 (by decide) ?_
  obtain ⟨r2, e2⟩ := st_r2
  obtain ⟨n2, r, h2, hrun, rfl, y2, f2⟩ := spX10_comes (d := 0) y1 0 0 1 e2
  refine g_call gx (N := 89) (ad := ae) (d := 4) (M' := mX10_comes) (na := 3) (ci := 9) (q := 73) (vs := [.int 0, .int 0, .int 1]) (rest := []) (i1 := 903) (i2 := 905) (i3 := 29) (i4 := 77) inj hAd (List.mem_of_getElem? (i := 132) rfl) dX10_init_137 (by decide +kernel) (by decide +kernel) (by decide +kernel) (by decide +kernel) (by decide +kernel) rfl rfl (by decide) y1.1 rfl (Nat.le_of_ble_eq_true rfl) (by decide) ⟨(Nat.le_of_ble_eq_true rfl), (Nat.le_of_ble_eq_true rfl)⟩ (Nat.le_of_ble_eq_true rfl) (Nat.le_of_ble_eq_true rfl) hrun hP hS hl.1 (fun H locs hP hS => ?_)
  have fM := fM.trans9 f2
  refine lv_pop hx hb dX10_init_140 rfl ?_
  refine lv_aload_n hx hb dX10_init_141 rfl (lv_at hl 0 rfl) ?_
  refine lv_iconst (v := 0) hx hb dX10_init_142 (by decide) ?_
  refine lv_iconst (v := 1) hx hb dX10_init_143 (by decide) ?_
  refine lv_iconst (v := 2) hx hb dX10_init_144 (by decide) ?_
  obtain ⟨r3, e3⟩ := st_r3
  obtain ⟨n3, r, h3, hrun, rfl, y3, f3⟩ := spX10_comes (d := 0) y2 0 1 2 e3
  refine g_call gx (N := 89) (ad := ae) (d := 4) (M' := mX10_comes) (na := 3) (ci := 9) (q := 73) (vs := [.int 0, .int 1, .int 2]) (rest := []) (i1 := 903) (i2 := 905) (i3 := 29) (i4 := 77) inj hAd (List.mem_of_getElem? (i := 132) rfl) dX10_init_145 (by decide +kernel) (by decide +kernel) (by decide +kernel) (by decide +kernel) (by decide +kernel) rfl rfl (by decide) y2.1 rfl (Nat.le_of_ble_eq_true rfl) (by decide) ⟨(Nat.le_of_ble_eq_true rfl), (Nat.le_of_ble_eq_true rfl)⟩ (Nat.le_of_ble_eq_true rfl) (Nat.le_of_ble_eq_true rfl) hrun hP hS hl.1 (fun H locs hP hS => ?_)
  have fM := fM.trans9 f3
  refine lv_pop hx hb dX10_init_148 rfl ?_
  refine lv_aload_n hx hb dX10_init_149 rfl (lv_at hl 0 rfl) ?_
  refine lv_iconst (v := 0) hx hb dX10_init_150 (by decide) ?_
  refine lv_iconst (v := 1) hx hb dX10_init_151 (by decide) ?_
  refine lv_iconst (v := 1) hx hb dX10_init_152 (by decide) ?_
  obtain ⟨r4, e4⟩ := st_r4
  obtain ⟨n4, r, h4, hrun, rfl, y4, f4⟩ := spX10_comes (d := 0) y3 0 1 1 e4
  refine g_call gx (N := 89) (ad := ae) (d := 4) (M' := mX10_comes) (na := 3) (ci := 9) (q := 73) (vs := [.int 0, .int 1, .int 1]) (rest := []) (i1 := 903) (i2 := 905) (i3 := 29) (i4 := 77) inj hAd (List.mem_of_getElem? (i := 132) rfl) dX10_init_153 (by decide +kernel) (by decide +kernel) (by decide +kernel) (by decide +kernel) (by decide +kernel) rfl rfl (by decide) y3.1 rfl (Nat.le_of_ble_eq_true rfl) (by decide) ⟨(Nat.le_of_ble_eq_true rfl), (Nat.le_of_ble_eq_true rfl)⟩ (Nat.le_of_ble_eq_true rfl) (Nat.le_of_ble_eq_true rfl) hrun hP hS hl.1 (fun H locs hP hS => ?_)
  have fM := fM.trans9 f4
  refine lv_pop hx hb dX10_init_156 rfl ?_
  refine lv_aload_n hx hb dX10_init_157 rfl (lv_at hl 0 rfl) ?_
  refine lv_iconst (v := 1) hx hb dX10_init_158 (by decide) ?_
  refine lv_iconst (v := 0) hx hb dX10_init_159 (by decide) ?_
  refine lv_iconst (v := 3) hx hb dX10_init_160 (by decide) ?_
  obtain ⟨r5, e5⟩ := st_r5
  obtain ⟨n5, r, h5, hrun, rfl, y5, f5⟩ := spX10_comes (d := 0) y4 1 0 3 e5
  refine g_call gx (N := 89) (ad := ae) (d := 4) (M' := mX10_comes) (na := 3) (ci := 9) (q := 73) (vs := [.int 1, .int 0, .int 3]) (rest := []) (i1 := 903) (i2 := 905) (i3 := 29) (i4 := 77) inj hAd (List.mem_of_getElem? (i := 132) rfl) dX10_init_161 (by decide +kernel) (by decide +kernel) (by decide +kernel) (by decide +kernel) (by decide +kernel) rfl rfl (by decide) y4.1 rfl (Nat.le_of_ble_eq_true rfl) (by decide) ⟨(Nat.le_of_ble_eq_true rfl), (Nat.le_of_ble_eq_true rfl)⟩ (Nat.le_of_ble_eq_true rfl) (Nat.le_of_ble_eq_true rfl) hrun hP hS hl.1 (fun H locs hP hS => ?_)
  have fM := fM.trans9 f5
  refine lv_pop hx hb dX10_init_164 rfl ?_
  refine lv_aload_n hx hb dX10_init_165 rfl (lv_at hl 0 rfl) ?_
  refine lv_iconst (v := 1) hx hb dX10_init_166 (by decide) ?_
  refine lv_iconst (v := 1) hx hb dX10_init_167 (by decide) ?_
  refine lv_iconst (v := 2) hx hb dX10_init_168 (by decide) ?_
  obtain ⟨r6, e6⟩ := st_r6
  obtain ⟨n6, r, h6, hrun, rfl, y6, f6⟩ := spX10_comes (d := 0) y5 1 1 2 e6
  refine g_call gx (N := 89) (ad := ae) (d := 4) (M' := mX10_comes) (na := 3) (ci := 9) (q := 73) (vs := [.int 1, .int 1, .int 2]) (rest := []) (i1 := 903) (i2 := 905) (i3 := 29) (i4 := 77) inj hAd (List.mem_of_getElem? (i := 132) rfl) dX10_init_169 (by decide +kernel) (by decide +kernel) (by decide +kernel) (by decide +kernel) (by decide +kernel) rfl rfl (by decide) y5.1 rfl (Nat.le_of_ble_eq_true rfl) (by decide) ⟨(Nat.le_of_ble_eq_true rfl), (Nat.le_of_ble_eq_true rfl)⟩ (Nat.le_of_ble_eq_true rfl) (Nat.le_of_ble_eq_true rfl) hrun hP hS hl.1 (fun H locs hP hS => ?_)
  have fM := fM.trans9 f6
  refine lv_pop hx hb dX10_init_172 rfl ?_
  refine lv_aload_n hx hb dX10_init_173 rfl (lv_at hl 0 rfl) ?_
  refine lv_iconst (v := 3) hx hb dX10_init_174 (by decide) ?_
  refine lv_iconst (v := 0) hx hb dX10_init_175 (by decide) ?_
  refine lv_iconst (v := 3) hx hb dX10_init_176 (by decide) ?_
  obtain ⟨r7, e7⟩ := st_r7
  obtain ⟨n7, r, h7, hrun, rfl, y7, f7⟩ := spX10_comes (d := 0) y6 3 0 3 e7
  refine g_call gx (N := 89) (ad := ae) (d := 4) (M' := mX10_comes) (na := 3) (ci := 9) (q := 73) (vs := [.int 3, .int 0, .int 3]) (rest := []) (i1 := 903) (i2 := 905) (i3 := 29) (i4 := 77) inj hAd (List.mem_of_getElem? (i := 132) rfl) dX10_init_177 (by decide +kernel) (by decide +kernel) (by decide +kernel) (by decide +kernel) (by decide +kernel) rfl rfl (by decide) y6.1 rfl (Nat.le_of_ble_eq_true rfl) (by decide) ⟨(Nat.le_of_ble_eq_true rfl), (Nat.le_of_ble_eq_true rfl)⟩ (Nat.le_of_ble_eq_true rfl) (Nat.le_of_ble_eq_true rfl) hrun hP hS hl.1 (fun H locs hP hS => ?_)
  have fM := fM.trans9 f7
  refine lv_pop hx hb dX10_init_180 rfl ?_
  refine lv_aload_n hx hb dX10_init_181 rfl (lv_at hl 0 rfl) ?_
  refine lv_iconst (v := 0) hx hb dX10_init_182 (by decide) ?_
  refine lv_iconst (v := 0) hx hb dX10_init_183 (by decide) ?_
  refine lv_iconst (v := 4) hx hb dX10_init_184 (by decide) ?_
  obtain ⟨r8, e8⟩ := st_r8
  obtain ⟨n8, r, h8, hrun, rfl, y8, f8⟩ := spX10_comes (d := 0) y7 0 0 4 e8
  refine g_call gx (N := 89) (ad := ae) (d := 4) (M' := mX10_comes) (na := 3) (ci := 9) (q := 73) (vs := [.int 0, .int 0, .int 4]) (rest := []) (i1 := 903) (i2 := 905) (i3 := 29) (i4 := 77) inj hAd (List.mem_of_getElem? (i := 132) rfl) dX10_init_185 (by decide +kernel) (by decide +kernel) (by decide +kernel) (by decide +kernel) (by decide +kernel) rfl rfl (by decide) y7.1 rfl (Nat.le_of_ble_eq_true rfl) (by decide) ⟨(Nat.le_of_ble_eq_true rfl), (Nat.le_of_ble_eq_true rfl)⟩ (Nat.le_of_ble_eq_true rfl) (Nat.le_of_ble_eq_true rfl) hrun hP hS hl.1 (fun H locs hP hS => ?_)
  have fM := fM.trans9 f8
  refine lv_pop hx hb dX10_init_188 rfl ?_
  refine lv_aload_n hx hb dX10_init_189 rfl (lv_at hl 0 rfl) ?_
  refine lv_iconst (v := 2) hx hb dX10_init_190 (by decide) ?_
  refine lv_iconst (v := 0) hx hb dX10_init_191 (by decide) ?_
  refine lv_iconst (v := 1) hx hb dX10_init_192 (by decide) ?_
  obtain ⟨r9, e9⟩ := st_r9
  obtain ⟨n9, r, h9, hrun, rfl, y9, f9⟩ := spX10_comes (d := 0) y8 2 0 1 e9
  refine g_call gx (N := 89) (ad := ae) (d := 4) (M' := mX10_comes) (na := 3) (ci := 9) (q := 73) (vs := [.int 2, .int 0, .int 1]) (rest := []) (i1 := 903) (i2 := 905) (i3 := 29) (i4 := 77) inj hAd (List.mem_of_getElem? (i := 132) rfl) dX10_init_193 (by decide +kernel) (by decide +kernel) (by decide +kernel) (by decide +kernel) (by decide +kernel) rfl rfl (by decide) y8.1 rfl (Nat.le_of_ble_eq_true rfl) (by decide) ⟨(Nat.le_of_ble_eq_true rfl), (Nat.le_of_ble_eq_true rfl)⟩ (Nat.le_of_ble_eq_true rfl) (Nat.le_of_ble_eq_true rfl) hrun hP hS hl.1 (fun H locs hP hS => ?_)
  have fM := fM.trans9 f9
  refine lv_pop hx hb dX10_init_196 rfl ?_
  refine lv_aload_n hx hb dX10_init_197 rfl (lv_at hl 0 rfl) ?_
  refine lv_bipush (v := 8) hx hb dX10_init_198 (by decide) ?_
  refine lv_iconst (v := 0) hx hb dX10_init_200 (by decide) ?_
  refine lv_iconst (v := 3) hx hb dX10_init_201 (by decide) ?_
  obtain ⟨r10, e10⟩ := st_r10
  obtain ⟨n10, r, h10, hrun, rfl, y10, f10⟩ := spX10_comes (d := 0) y9 8 0 3 e10
  refine g_call gx (N := 89) (ad := ae) (d := 4) (M' := mX10_comes) (na := 3) (ci := 9) (q := 73) (vs := [.int 8, .int 0, .int 3]) (rest := []) (i1 := 903) (i2 := 905) (i3 := 29) (i4 := 77) inj hAd (List.mem_of_getElem? (i := 132) rfl) dX10_init_202 (by decide +kernel) (by decide +kernel) (by decide +kernel) (by decide +kernel) (by decide +kernel) rfl rfl (by decide) y9.1 rfl (Nat.le_of_ble_eq_true rfl) (by decide) ⟨(Nat.le_of_ble_eq_true rfl), (Nat.le_of_ble_eq_true rfl)⟩ (Nat.le_of_ble_eq_true rfl) (Nat.le_of_ble_eq_true rfl) hrun hP hS hl.1 (fun H locs hP hS => ?_)
  have fM := fM.trans9 f10
  refine lv_pop hx hb dX10_init_205 rfl ?_
  have hPI : PI h10 := ⟨X, L, K, U, T, Dr, O, Pa, Ka, Kb, S, E, G, st_10, PX.wM px fM, y10, iv⟩
  exact W.vret hx hb hr (fun t ht hW => ⟨⟨(ae, h10), rfl, ⟨hPI, ea0, ea⟩, by rw [ht]; exact hP, ⟨fun i j x y hx hy he => (p_wm_D inj h10 (k := kc)).1 i j x y hx hy he, fun k q hq => by obtain ⟨j, hj, e⟩ := (p_wm_D inj h10 (k := kc)).2 k q hq; rw [e]; exact hAd j hj⟩⟩, hS.F ht⟩) hS.2.2 dX10_init_206 hlocks
