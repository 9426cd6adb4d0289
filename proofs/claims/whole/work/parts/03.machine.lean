/-! THE PURE MACHINE: cells by place, values with places for references, no making of cells; what it does, the machine does (part 04). -/
abbrev pE : Type := (Nat × (Nat → Int32)) ⊕ ((Nat × (Nat → Int64)) ⊕ ((Nat × (Nat → Option Nat)) ⊕ (Nat × List Value)))
abbrev pH : Type := Nat → pE
abbrev eI (n : Nat) (f : Nat → Int32) : pE := .inl (n, f)
abbrev eJ (n : Nat) (f : Nat → Int64) : pE := .inr (.inl (n, f))
abbrev eR (n : Nat) (f : Nat → Option Nat) : pE := .inr (.inr (.inl (n, f)))
abbrev eO (c : Nat) (fs : List Value) : pE := .inr (.inr (.inr (c, fs)))
def pu (h : pH) (k : Nat) (c : pE) : pH := fun j => if j = k then c else h j
abbrev pLv : Type := List (Nat × Value)
/-- heap, pc, locals, stack -/
abbrev pS : Type := pH × Nat × pLv × List Value
/-- an instruction's row: pc, instruction, length, what it stands for (a, b, c), the places of its words, the locals that are kept here (none named: all) -/
abbrev pI : Type := Nat × Instr × Nat × (Nat × Nat × Nat) × List Nat × List Nat
/-- a method: name, bytes, locals, answer, the place of its code word, its rows -/
abbrev pM : Type := MethodName × ByteArray × Nat × Option FieldType × Nat × List pI
abbrev pCi : Type := vw_C × (Nat → FieldType)
def p_isI : Value → Bool
  | .int _ => true
  | _ => false
def p_isL : Value → Bool
  | .long _ => true
  | _ => false
def p_isR : Value → Bool
  | .ref _ => true
  | _ => false
/-- put in by its number -/
def p_ins (i : Nat) (v : Value) : pLv → pLv
  | [] => [(i, v)]
  | q :: r => if i < q.1 then (i, v) :: q :: r else q :: p_ins i v r
def p_s1 (i : Nat) (v : Value) (lv : pLv) : pLv := p_ins i v (lv.filter (fun q => !(q.1 == i) && !(q.1 + 1 == i && q.2.category == 2)))
def p_s2 (i : Nat) (v : Value) (lv : pLv) : pLv := p_ins i v (lv.filter (fun q => !(q.1 == i) && (!(q.1 == i + 1) && !(q.1 + 1 == i && q.2.category == 2))))
/-- the locals that are kept -/
def p_live (ks : List Nat) (lv : pLv) : pLv :=
  match ks with
  | [] => lv
  | _ => lv.filter (fun q => ks.contains q.1)
def p_ld (t : Value → Bool) (i len : Nat) (s : pS) : Option pS :=
  match List.lookup i s.2.2.1 with
  | some v => if t v = true then some (s.1, s.2.1 + len, s.2.2.1, v :: s.2.2.2) else none
  | none => none
def p_st1 (t : Value → Bool) (mx i len : Nat) (s : pS) : Option pS :=
  match s.2.2.2 with
  | v :: r => if t v = true ∧ i < mx then some (s.1, s.2.1 + len, p_s1 i v s.2.2.1, r) else none
  | _ => none
def p_st2 (mx i len : Nat) (s : pS) : Option pS :=
  match s.2.2.2 with
  | v :: r => if p_isL v = true ∧ i + 1 < mx then some (s.1, s.2.1 + len, p_s2 i v s.2.2.1, r) else none
  | _ => none
def p_iinc (mx i : Nat) (n : Int) (len : Nat) (s : pS) : Option pS :=
  match List.lookup i s.2.2.1 with
  | some (.int x) => if i < mx then some (s.1, s.2.1 + len, p_s1 i (.int (x + Int32.ofInt n)) s.2.2.1, s.2.2.2) else none
  | _ => none
def p_push (v : Value) (len : Nat) (s : pS) : Option pS := some (s.1, s.2.1 + len, s.2.2.1, v :: s.2.2.2)
def p_bI (f : Int32 → Int32 → Int32) (len : Nat) (s : pS) : Option pS :=
  match s.2.2.2 with
  | .int y :: .int x :: r => some (s.1, s.2.1 + len, s.2.2.1, .int (f x y) :: r)
  | _ => none
def p_bD (f : Int32 → Int32 → Int32) (len : Nat) (s : pS) : Option pS :=
  match s.2.2.2 with
  | .int y :: .int x :: r => if y = 0 then none else some (s.1, s.2.1 + len, s.2.2.1, .int (f x y) :: r)
  | _ => none
def p_bL (f : Int64 → Int64 → Int64) (len : Nat) (s : pS) : Option pS :=
  match s.2.2.2 with
  | .long y :: .long x :: r => some (s.1, s.2.1 + len, s.2.2.1, .long (f x y) :: r)
  | _ => none
def p_cmpL (len : Nat) (s : pS) : Option pS :=
  match s.2.2.2 with
  | .long y :: .long x :: r => some (s.1, s.2.1 + len, s.2.2.1, .int (lg_cmp x y) :: r)
  | _ => none
def p_dup (len : Nat) (s : pS) : Option pS :=
  match s.2.2.2 with
  | v :: r => if v.category = 1 then some (s.1, s.2.1 + len, s.2.2.1, v :: v :: r) else none
  | _ => none
def p_dup2 (len : Nat) (s : pS) : Option pS :=
  match s.2.2.2 with
  | v :: w :: r => if v.category = 1 ∧ w.category = 1 then some (s.1, s.2.1 + len, s.2.2.1, v :: w :: v :: w :: r) else none
  | _ => none
def p_pop (len : Nat) (s : pS) : Option pS :=
  match s.2.2.2 with
  | v :: r => if v.category = 1 then some (s.1, s.2.1 + len, s.2.2.1, r) else none
  | _ => none
def p_cd (c : ClassFile.Cond) (x y : Int32) : Prop :=
  match c with
  | .eq => x = y
  | .ne => ¬ x = y
  | .lt => x < y
  | .ge => y ≤ x
  | .gt => y < x
  | .le => x ≤ y
def p_cb (c : ClassFile.Cond) (x y : Int32) : Bool :=
  match c with
  | .eq => decide (x = y)
  | .ne => decide (¬ x = y)
  | .lt => decide (x < y)
  | .ge => decide (y ≤ x)
  | .gt => decide (y < x)
  | .le => decide (x ≤ y)
theorem p_cb_iff (c : ClassFile.Cond) (x y : Int32) : p_cb c x y = true ↔ p_cd c x y := by
  cases c <;> simp [p_cb, p_cd]
def p_if1 (c : ClassFile.Cond) (tgt len : Nat) (s : pS) : Option pS :=
  match s.2.2.2 with
  | .int x :: r => if p_cb c x 0 = true then some (s.1, tgt, s.2.2.1, r) else some (s.1, s.2.1 + len, s.2.2.1, r)
  | _ => none
def p_if2 (c : ClassFile.Cond) (tgt len : Nat) (s : pS) : Option pS :=
  match s.2.2.2 with
  | .int y :: .int x :: r => if p_cb c x y = true then some (s.1, tgt, s.2.2.1, r) else some (s.1, s.2.1 + len, s.2.2.1, r)
  | _ => none
def p_tsw (dflt lo hi : Int) (offs : Array Int) (s : pS) : Option pS :=
  match s.2.2.2 with
  | .int x :: r =>
    if x.toInt < lo ∨ hi < x.toInt then
      (if 0 ≤ (s.2.1 : Int) + dflt then some (s.1, ((s.2.1 : Int) + dflt).toNat, s.2.2.1, r) else none)
    else match offs[(x.toInt - lo).toNat]? with
      | some off => if 0 ≤ (s.2.1 : Int) + off then some (s.1, ((s.2.1 : Int) + off).toNat, s.2.2.1, r) else none
      | none => none
  | _ => none
def p_lsw (dflt : Int) (ps : Array (Int × Int)) (s : pS) : Option pS :=
  match s.2.2.2 with
  | .int x :: r =>
    if (ps.toList.zip (ps.toList.drop 1)).all (fun (a, next) => a.1 < next.1) = true ∧ 0 ≤ (s.2.1 : Int) + Op.lookupswitch.offset ps.toList dflt x.toInt then
      some (s.1, ((s.2.1 : Int) + Op.lookupswitch.offset ps.toList dflt x.toInt).toNat, s.2.2.1, r)
    else none
  | _ => none
def p_get (N ci k len : Nat) (s : pS) : Option pS :=
  match s.2.2.2 with
  | .ref a :: r => if a < N then (match s.1 a with
    | .inr (.inr (.inr (c, fs))) => if c = ci then (match fs[k]? with
      | some v => some (s.1, s.2.1 + len, s.2.2.1, v :: r)
      | none => none) else none
    | _ => none) else none
  | _ => none
def p_put (N ci k : Nat) (ty : FieldType) (len : Nat) (s : pS) : Option pS :=
  match s.2.2.2 with
  | v :: .ref a :: r => if a < N then (match s.1 a with
    | .inr (.inr (.inr (c, fs))) => if c = ci ∧ k < fs.length ∧ narrow ty v = v ∧ fits ty v = true then some (pu s.1 a (eO c (fs.set k v)), s.2.1 + len, s.2.2.1, r) else none
    | _ => none) else none
  | _ => none
def p_iald (N len : Nat) (s : pS) : Option pS :=
  match s.2.2.2 with
  | .int i :: .ref a :: r => if a < N then (match s.1 a with
    | .inl (n, f) => if i < 0 ∨ n ≤ i.toNatClampNeg then none else some (s.1, s.2.1 + len, s.2.2.1, .int (f i.toNatClampNeg) :: r)
    | _ => none) else none
  | _ => none
def p_lald (N len : Nat) (s : pS) : Option pS :=
  match s.2.2.2 with
  | .int i :: .ref a :: r => if a < N then (match s.1 a with
    | .inr (.inl (n, f)) => if i < 0 ∨ n ≤ i.toNatClampNeg then none else some (s.1, s.2.1 + len, s.2.2.1, .long (f i.toNatClampNeg) :: r)
    | _ => none) else none
  | _ => none
def p_aald (N len : Nat) (s : pS) : Option pS :=
  match s.2.2.2 with
  | .int i :: .ref a :: r => if a < N then (match s.1 a with
    | .inr (.inr (.inl (n, f))) => if i < 0 ∨ n ≤ i.toNatClampNeg then none else (match f i.toNatClampNeg with
      | some b => some (s.1, s.2.1 + len, s.2.2.1, .ref b :: r)
      | none => none)
    | _ => none) else none
  | _ => none
def p_iast (N len : Nat) (s : pS) : Option pS :=
  match s.2.2.2 with
  | .int x :: .int i :: .ref a :: r => if a < N then (match s.1 a with
    | .inl (n, f) => if i < 0 ∨ n ≤ i.toNatClampNeg then none else some (pu s.1 a (eI n (upd f i.toNatClampNeg x)), s.2.1 + len, s.2.2.1, r)
    | _ => none) else none
  | _ => none
def p_last (N len : Nat) (s : pS) : Option pS :=
  match s.2.2.2 with
  | .long x :: .int i :: .ref a :: r => if a < N then (match s.1 a with
    | .inr (.inl (n, f)) => if i < 0 ∨ n ≤ i.toNatClampNeg then none else some (pu s.1 a (eJ n (vp_updL f i.toNatClampNeg x)), s.2.1 + len, s.2.2.1, r)
    | _ => none) else none
  | _ => none
def p_len (e : pE) : Option Nat :=
  match e with
  | .inl (n, _) => some n
  | .inr (.inl (n, _)) => some n
  | .inr (.inr (.inl (n, _))) => some n
  | _ => none
def p_alen (N len : Nat) (s : pS) : Option pS :=
  match s.2.2.2 with
  | .ref a :: r => if a < N then (match p_len (s.1 a) with
    | some n => some (s.1, s.2.1 + len, s.2.2.1, .int (Int32.ofNat n) :: r)
    | none => none) else none
  | _ => none
/-- System.arraycopy of ints -/
def p_copy (N : Nat) (s : pS) : Option pS :=
  match s.2.2.2 with
  | .int n :: .int dp :: .ref b :: .int sp :: .ref a :: r => if a < N ∧ b < N then (match s.1 a, s.1 b with
    | .inl (n0, f), .inl (n1, g) => if (sp < 0 ∨ dp < 0 ∨ n < 0) ∨ n0 < sp.toNatClampNeg + n.toNatClampNeg ∨ n1 < dp.toNatClampNeg + n.toNatClampNeg ∨ 8 < (r.map fun v => v.category).sum then none else
        some (pu s.1 b (eI n1 (va_cpy f g sp.toNatClampNeg dp.toNatClampNeg n.toNatClampNeg)), s.2.1 + 3, s.2.2.1, r)
    | _, _ => none) else none
  | _ => none
/-- Math.max, Math.min -/
def p_mm (b : Bool) (s : pS) : Option pS :=
  match s.2.2.2 with
  | .int y :: .int x :: r => if 8 < (r.map fun v => v.category).sum then none else some (s.1, s.2.1 + 3, s.2.2.1, .int (if b = true then (if x < y then y else x) else (if y < x then y else x)) :: r)
  | _ => none
/-- what isn't walked: 2 arraycopy, 3 max, 4 min -/
def p_nat (N c : Nat) (s : pS) : Option pS := if c = 2 then p_copy N s else if c = 3 then p_mm true s else if c = 4 then p_mm false s else none
def p_step (N : Nat) (Cs : List pCi) (mx : Nat) (i : Instr) (len : Nat) (a : Nat × Nat × Nat) (s : pS) : Option pS :=
  match i with
  | .aload_n k => p_ld p_isR k len s
  | .aload k => p_ld p_isR k len s
  | .iload_n k => p_ld p_isI k len s
  | .iload k => p_ld p_isI k len s
  | .lload_n k => p_ld p_isL k len s
  | .lload k => p_ld p_isL k len s
  | .istore_n k => p_st1 p_isI mx k len s
  | .istore k => p_st1 p_isI mx k len s
  | .astore_n k => p_st1 p_isR mx k len s
  | .lstore_n k => p_st2 mx k len s
  | .lstore k => p_st2 mx k len s
  | .iinc k n => p_iinc mx k n len s
  | .iconst n => p_push (.int (Int32.ofInt n)) len s
  | .bipush n => p_push (.int (Int8.ofInt n).toInt32) len s
  | .sipush n => p_push (.int (Int16.ofInt n).toInt32) len s
  | .lconst n => p_push (.long (Int64.ofNat (n : Nat))) len s
  | .ldc _ => p_push (.int (Int32.ofNat a.1)) len s
  | .ldc_w _ => p_push (.int (Int32.ofNat a.1)) len s
  | .ldc2_w _ => p_push (.long (if a.2.1 = 1 then -(Int64.ofNat a.1) else Int64.ofNat a.1)) len s
  | .iadd => p_bI (fun x y => x + y) len s
  | .isub => p_bI (fun x y => x - y) len s
  | .imul => p_bI (fun x y => x * y) len s
  | .iand => p_bI (fun x y => x &&& y) len s
  | .ior => p_bI (fun x y => x ||| y) len s
  | .ixor => p_bI (fun x y => x ^^^ y) len s
  | .idiv => p_bD (fun x y => x / y) len s
  | .irem => p_bD (fun x y => x - x / y * y) len s
  | .ishl => p_bI (fun x y => x <<< (y &&& 31)) len s
  | .ishr => p_bI (fun x y => x >>> (y &&& 31)) len s
  | .iushr => p_bI (fun x y => (x.toUInt32 >>> (y.toUInt32 &&& Int32.toUInt32 31)).toInt32) len s
  | .ladd => p_bL (fun x y => x + y) len s
  | .lmul => p_bL (fun x y => x * y) len s
  | .lcmp => p_cmpL len s
  | .dup => p_dup len s
  | .dup2 => p_dup2 len s
  | .pop => p_pop len s
  | .goto _ => some (s.1, a.1, s.2.2.1, s.2.2.2)
  | .ifCond c _ => p_if1 c a.1 len s
  | .if_icmp c _ => p_if2 c a.1 len s
  | .tableswitch d lo hi o => p_tsw d lo hi o s
  | .lookupswitch d ps => p_lsw d ps s
  | .getfield _ => p_get N a.1 a.2.1 len s
  | .putfield _ => (match Cs[a.1]? with
    | some q => p_put N a.1 a.2.1 (q.2 a.2.1) len s
    | none => none)
  | .iaload => p_iald N len s
  | .laload => p_lald N len s
  | .aaload => p_aald N len s
  | .iastore => p_iast N len s
  | .lastore => p_last N len s
  | .arraylength => p_alen N len s
  | _ => none
/-- 0: a step; 1: a return; 2: a call -/
def p_kd (i : Instr) : Nat :=
  match i with
  | .ireturn => 1
  | .lreturn => 1
  | .areturn => 1
  | .return_ => 1
  | .invokevirtual _ => 2
  | .invokestatic _ => 2
  | _ => 0
def p_ret (rt : Option FieldType) (i : Instr) (s : pS) : Option (Option Value × pH) :=
  match i, rt, s.2.2.2 with
  | .ireturn, some t, [.int v] => if narrow t (.int v) = .int v then some (some (.int v), s.1) else none
  | .lreturn, some .long, [.long v] => some (some (.long v), s.1)
  | .areturn, some (.object _), [.ref v] => some (some (.ref v), s.1)
  | .return_, none, [] => some (none, s.1)
  | _, _, _ => none
/-- the arguments of a call, what is left of the stack -/
def p_args (N : Nat) (i : Instr) (na ci : Nat) (s : pS) : Option (List Value × List Value) :=
  match i with
  | .invokevirtual _ => (match s.2.2.2.drop na with
    | .ref r :: rest => if r < N ∧ na ≤ s.2.2.2.length ∧ (rest.map fun v => v.category).sum ≤ 8 then (match s.1 r with
      | .inr (.inr (.inr (c, _))) => if c = ci then some (.ref r :: (s.2.2.2.take na).reverse, rest) else none
      | _ => none) else none
    | _ => none)
  | .invokestatic _ => if na ≤ s.2.2.2.length ∧ ((s.2.2.2.drop na).map fun v => v.category).sum ≤ 8 then some ((s.2.2.2.take na).reverse, s.2.2.2.drop na) else none
  | _ => none
/-- a call of what isn't walked: its row's c is 2 or more -/
def p_isCp (i : Instr) (c : Nat) : Bool :=
  match i with
  | .invokestatic _ => decide (2 ≤ c)
  | _ => false
def p_run (N : Nat) (Cs : List pCi) (Ms : List pM) : Nat → Nat → pM → pS → Option (Option Value × pH)
  | 0, _, _, _ => none
  | n + 1, d, M, s0 =>
    match List.lookup s0.2.1 M.2.2.2.2.2 with
    | none => none
    | some (i, len, a, _, ks) =>
      match (s0.1, s0.2.1, p_live ks s0.2.2.1, s0.2.2.2) with
      | s => match p_kd i with
        | 0 => (match p_step N Cs M.2.2.1 i len a s with
          | some s' => p_run N Cs Ms n d M s'
          | none => none)
        | 1 => p_ret M.2.2.2.1 i s
        | _ => (match d with
          | 0 => none
          | d' + 1 => if p_isCp i a.2.2 = true then (match p_nat N a.2.2 s with
              | some s' => p_run N Cs Ms n (d' + 1) M s'
              | none => none)
            else (match p_args N i a.2.1 a.2.2 s with
              | some (vs, rest) => (match Ms[a.1]? with
                | some M' => if (lg_sl vs).length ≤ M'.2.2.1 then (match p_run N Cs Ms n d' M' (s.1, 0, lv_args 0 vs, []) with
                  | some (r, h') => p_run N Cs Ms n (d' + 1) M (h', s.2.1 + 3, s.2.2.1, r.toList ++ rest)
                  | none => none) else none
                | none => none)
              | none => none))
