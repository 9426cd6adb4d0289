/-! MATHEMATICS (begun from kit/laws/BITS.to-paste, the family bt) -/
def bt (x : Int32) (i : Nat) : Bool := x.toBitVec.getLsbD i
theorem b_ext {x y : Int32} (h : ∀ i, i < 32 → bt x i = bt y i) : x = y := Int32.toBitVec_inj.mp (BitVec.eq_of_getLsbD_eq (fun i hi => h i hi))
theorem b_or (x y : Int32) (i : Nat) : bt (x ||| y) i = (bt x i || bt y i) := by unfold bt; rw [Int32.toBitVec_or, BitVec.getLsbD_or]
theorem b_and (x y : Int32) (i : Nat) : bt (x &&& y) i = (bt x i && bt y i) := by unfold bt; rw [Int32.toBitVec_and, BitVec.getLsbD_and]
theorem b_xor (x y : Int32) (i : Nat) : bt (x ^^^ y) i = (bt x i ^^ bt y i) := by unfold bt; rw [Int32.toBitVec_xor, BitVec.getLsbD_xor]
theorem b_big {x : Int32} {i : Nat} (h : 32 ≤ i) : bt x i = false := BitVec.getLsbD_of_ge _ _ h
theorem b_255 (i : Nat) : bt 255 i = decide (i < 8) := by
  rcases Nat.lt_or_ge i 32 with h | h
  · exact (by decide +kernel : ∀ i, i < 32 → bt 255 i = decide (i < 8)) i h
  · rw [b_big h, decide_eq_false (by omega)]
theorem b_65535 (i : Nat) : bt 65535 i = decide (i < 16) := by
  rcases Nat.lt_or_ge i 32 with h | h
  · exact (by decide +kernel : ∀ i, i < 32 → bt 65535 i = decide (i < 16)) i h
  · rw [b_big h, decide_eq_false (by omega)]
theorem b_m1 : ∀ i, i < 32 → bt (-1) i = true := by decide +kernel
theorem b_0 (i : Nat) : bt 0 i = false := BitVec.getLsbD_zero
theorem s_l : ∀ n, n < 32 → ((nI n &&& 31).toBitVec.smod 32).toNat = n := by decide +kernel
theorem s_u : ∀ n, n < 32 → (((nI n).toUInt32 &&& Int32.toUInt32 31).toBitVec % 32).toNat = n := by decide +kernel
theorem b_shl (n : Nat) (hn : n < 32) (x : Int32) {i : Nat} (hi : i < 32) : bt (x <<< (nI n &&& 31)) i = (decide (n ≤ i) && bt x (i - n)) := by
  unfold bt
  rw [Int32.toBitVec_shiftLeft]
  show (x.toBitVec <<< ((nI n &&& 31).toBitVec.smod 32).toNat).getLsbD i = _
  rw [s_l n hn, BitVec.getLsbD_shiftLeft]
  rcases Nat.lt_or_ge i n with h | h
  · simp [h, Nat.not_le.mpr h]
  · simp [hi, h, Nat.not_lt.mpr h]
theorem b_ushr (n : Nat) (hn : n < 32) (x : Int32) (i : Nat) : bt ((x.toUInt32 >>> ((nI n).toUInt32 &&& Int32.toUInt32 31)).toInt32) i = bt x (n + i) := by
  show (x.toUInt32 >>> ((nI n).toUInt32 &&& Int32.toUInt32 31)).toBitVec.getLsbD i = x.toUInt32.toBitVec.getLsbD (n + i)
  rw [UInt32.toBitVec_shiftRight]
  show (x.toUInt32.toBitVec >>> (((nI n).toUInt32 &&& Int32.toUInt32 31).toBitVec % 32).toNat).getLsbD i = _
  rw [s_u n hn, BitVec.getLsbD_ushiftRight]
theorem b_sshr (n : Nat) (hn : n < 32) (x : Int32) {i : Nat} (hi : i < 32) : bt (x >>> (nI n &&& 31)) i = if n + i < 32 then bt x (n + i) else bt x 31 := by
  unfold bt
  rw [Int32.toBitVec_shiftRight]
  show (x.toBitVec.sshiftRight ((nI n &&& 31).toBitVec.smod 32).toNat).getLsbD i = _
  rw [s_l n hn, BitVec.getLsbD_sshiftRight, BitVec.msb_eq_getLsbD_last]
  simp [hi]
theorem tb_iff (b : Int32) {v : Nat} (hv : v < 32) : ((b >>> (nI v &&& 31)) &&& 1) = 1 ↔ bt b v = true := by
  constructor
  · intro h
    have h1 := congrArg (fun x => bt x 0) h
    simp only [b_and, b_sshr v hv b (show 0 < 32 by decide), Nat.add_zero, if_pos hv] at h1
    rw [show bt 1 0 = true from rfl, Bool.and_true] at h1
    exact h1
  · intro h
    apply b_ext
    intro i hi
    rw [b_and, b_sshr v hv b hi]
    by_cases e : i = 0
    · subst e
      rw [Nat.add_zero, if_pos hv, h]
      rfl
    · have : bt 1 i = false := (by decide +kernel : ∀ i, i < 32 → i ≠ 0 → bt 1 i = false) i hi e
      rw [this, Bool.and_false]
theorem bt_set (b : Int32) {k v : Nat} (hk : k < 32) (hv : v < 32) : bt (b ||| (1 <<< (nI k &&& 31))) v = (bt b v || decide (v = k)) := by
  rw [b_or, b_shl k hk 1 hv]
  congr 1
  by_cases e : v = k
  · subst e
    simp
    rfl
  · rw [decide_eq_false e]
    by_cases h : k ≤ v
    · have : bt 1 (v - k) = false := (by decide +kernel : ∀ i, i < 32 → i ≠ 0 → bt 1 i = false) (v - k) (by omega) (by omega)
      rw [this, Bool.and_false]
    · rw [decide_eq_false h, Bool.false_and]
theorem bt_clear (b g : Int32) {v : Nat} (hv : v < 32) : bt (b &&& (g ^^^ (-1))) v = (bt b v && !bt g v) := by
  rw [b_and, b_xor, b_m1 v hv, Bool.xor_true]
/-- a tree by numbers: which nodes there are, parents, keys -/
def nkU (th : Nat → Bool) (pa ky : Nat → Nat) (p s : Nat) : Nat → Option Nat
  | 0 => none
  | k + 1 => if 1 ≤ k ∧ th k = true ∧ pa k = p ∧ s < ky k ∧ (∀ b ∈ nkU th pa ky p s k, ky k < ky b) then some k else nkU th pa ky p s k
def nk (th : Nat → Bool) (pa ky : Nat → Nat) (p s : Nat) : Option Nat := nkU th pa ky p s 24
/-- is a child of p with a key behind s -/
def kdB (th : Nat → Bool) (pa ky : Nat → Nat) (p s v : Nat) : Prop := 1 ≤ v ∧ th v = true ∧ pa v = p ∧ s < ky v
theorem nkU_spec (th : Nat → Bool) (pa ky : Nat → Nat) (p s : Nat) : ∀ k, (∀ v, nkU th pa ky p s k = some v → v < k ∧ kdB th pa ky p s v ∧ ∀ w, w < k → kdB th pa ky p s w → ky v ≤ ky w) ∧ (nkU th pa ky p s k = none → ∀ w, w < k → ¬ kdB th pa ky p s w)
  | 0 => ⟨fun v h => (by cases h), fun _ w h => absurd h (Nat.not_lt_zero w)⟩
  | k + 1 => by
    obtain ⟨h1, h2⟩ := nkU_spec th pa ky p s k
    unfold nkU
    split
    · rename_i c
      refine ⟨fun v h => ?_, fun h => by cases h⟩
      cases h
      refine ⟨Nat.lt_succ_self _, ⟨c.1, c.2.1, c.2.2.1, c.2.2.2.1⟩, fun w hw hk => ?_⟩
      rcases Nat.lt_succ_iff_lt_or_eq.mp hw with hw | hw
      · cases hb : nkU th pa ky p s k with
        | none => exact absurd hk (h2 hb w hw)
        | some b =>
          have := (h1 b hb).2.2 w hw hk
          have := c.2.2.2.2 b hb
          omega
      · rw [hw]
        exact Nat.le_refl _
    · rename_i c
      refine ⟨fun v h => ?_, fun h w hw hk => ?_⟩
      · obtain ⟨a1, a2, a3⟩ := h1 v h
        refine ⟨by omega, a2, fun w hw hk => ?_⟩
        rcases Nat.lt_succ_iff_lt_or_eq.mp hw with hw | hw
        · exact a3 w hw hk
        · subst hw
          rcases Nat.lt_or_ge (ky w) (ky v) with q | q
          · exact absurd ⟨hk.1, hk.2.1, hk.2.2.1, hk.2.2.2, fun b hb => by rw [h] at hb; cases hb; exact q⟩ c
          · exact q
      · rcases Nat.lt_succ_iff_lt_or_eq.mp hw with hw | hw
        · exact h2 h w hw hk
        · subst hw
          exact c ⟨hk.1, hk.2.1, hk.2.2.1, hk.2.2.2, fun b hb => by rw [h] at hb; cases hb⟩
/-- how many children, up to k -/
def kcU (th : Nat → Bool) (pa : Nat → Nat) (p : Nat) : Nat → Nat
  | 0 => 0
  | k + 1 => kcU th pa p k + (if 1 ≤ k ∧ th k = true ∧ pa k = p then 1 else 0)
def kc (th : Nat → Bool) (pa : Nat → Nat) (p : Nat) : Nat := kcU th pa p 24
theorem kcU_le (th : Nat → Bool) (pa : Nat → Nat) (p : Nat) : ∀ k, kcU th pa p k ≤ k
  | 0 => Nat.le_refl _
  | k + 1 => by
    have := kcU_le th pa p k
    unfold kcU
    split <;> omega
/-- the class's tree, the reference's tree -/
def RT (T : tT) (th : Nat → Bool) (pa ky : Nat → Nat) : Prop := (∀ v, v < 24 → th v = bt T.2.2.2.1 v) ∧ (∀ v, 24 ≤ v → th v = false) ∧ (∀ v, 1 ≤ v → th v = true → T.2.1 v = nI (pa v) ∧ T.2.2.1 v = nI (ky v) ∧ pa v < 24 ∧ 0 < ky v ∧ ky v < 1000000000) ∧ (th 0 = true → T.2.1 0 = -1 ∧ T.2.2.1 0 = 0)
def RM (M : tM) (th : Nat → Bool) (pa ky : Nat → Nat) : Prop := (∀ v, v < 24 → th v = bt (M.1 0) v) ∧ (∀ v, 24 ≤ v → th v = false) ∧ (∀ v, 1 ≤ v → th v = true → M.2.1 4 v = nI (pa v) ∧ M.2.1 5 v = nI (ky v) ∧ pa v < 24 ∧ 0 < ky v ∧ ky v < 1000000000) ∧ (th 0 = true → M.2.1 4 0 = -4 ∧ M.2.1 5 0 = 0)
def e1 (o : Option Nat) : Int32 := match o with
  | none => -1
  | some v => nI v
def e4 (o : Option Nat) : Int32 := match o with
  | none => -4
  | some v => nI v
theorem vi_nI {k : Nat} (h : k < 24) : ¬ (nI k < 0 ∨ 24 ≤ (nI k).toNatClampNeg) := nI_in h (by decide)
theorem nI24 : (24 : Int32) = nI 24 := rfl
theorem nI_c {k : Nat} (h : k < 24) : (nI k).toNatClampNeg = k := nI_clamp (by omega)
theorem le24 {k : Nat} (hk : k ≤ 24) : (24 : Int32) ≤ nI k ↔ k = 24 := by
  rw [nI24, nI_leI (by decide) (by omega)]
  omega
theorem X7_num {k : Nat} (h : k < 24) : fX7_isNumber (nI k) = 1 := by
  unfold fX7_isNumber
  rw [if_neg (nI_pos (by omega)), if_neg (by rw [le24 (by omega)]; omega)]
theorem X7_there {T : tT} {th : Nat → Bool} {pa ky : Nat → Nat} (R : RT T th pa ky) {k : Nat} (h : k < 24) : fX7_isThere T (nI k) = if th k = true then 1 else 0 := by
  unfold fX7_isThere
  rw [X7_num h, if_neg (by decide)]
  by_cases c : th k = true
  · rw [if_pos c, if_neg]
    rw [R.1 k h] at c
    exact fun q => q ((tb_iff _ (by omega)).mpr c)
  · rw [if_neg c, if_pos]
    rw [R.1 k h] at c
    exact fun q => c ((tb_iff _ (by omega)).mp q)
