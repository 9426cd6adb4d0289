/-! Integer.bitCount, byte by byte -/
def tn (x : Int32) : Nat := x.toBitVec.toNat
theorem tn_lt (x : Int32) : tn x < 4294967296 := x.toBitVec.isLt
theorem tn_and (x y : Int32) : tn (x &&& y) = tn x &&& tn y := by
  unfold tn
  rw [Int32.toBitVec_and, BitVec.toNat_and]
theorem tn_add {x y : Int32} (h : tn x + tn y < 4294967296) : tn (x + y) = tn x + tn y := by
  unfold tn at h ⊢
  rw [Int32.toBitVec_add, BitVec.toNat_add]
  exact Nat.mod_eq_of_lt h
theorem tn_sub {x y : Int32} (h : tn y ≤ tn x) : tn (x - y) = tn x - tn y := by
  have := tn_lt x
  unfold tn at h this ⊢
  rw [Int32.toBitVec_sub, BitVec.toNat_sub]
  omega
theorem and_split {w a m b c : Nat} (ha : a < 2 ^ w) (hm : m < 2 ^ w) : (2 ^ w * b + a) &&& (2 ^ w * c + m) = 2 ^ w * (b &&& c) + (a &&& m) := by
  apply Nat.eq_of_testBit_eq
  intro i
  rw [Nat.testBit_and, Nat.testBit_two_pow_mul_add _ ha, Nat.testBit_two_pow_mul_add _ hm, Nat.testBit_two_pow_mul_add _ (Nat.and_lt_two_pow _ hm)]
  split
  · rw [Nat.testBit_and]
  · rw [Nat.testBit_and]
theorem and8 {a m b c : Nat} (ha : a < 256) (hm : m < 256) : (256 * b + a) &&& (256 * c + m) = 256 * (b &&& c) + (a &&& m) := and_split (w := 8) ha hm
def y1 (a : Nat) : Nat := (a / 2) &&& 85
def y2 (a : Nat) : Nat := a &&& 51
def y3 (a : Nat) : Nat := (a / 4) &&& 51
def y4 (a : Nat) : Nat := (a + a / 16) &&& 15
theorem tb1 : ∀ a, a < 256 → ∀ e, e < 2 → (a / 2 + 128 * e) &&& 85 = y1 a := by decide +kernel
theorem tb3 : ∀ a, a < 256 → ∀ e, e < 4 → (a / 4 + 64 * e) &&& 51 = y3 a := by decide +kernel
theorem tb4 : ∀ a, a < 69 → ∀ e, e < 5 → (a + (a / 16 + 16 * e)) &&& 15 = y4 a := by decide +kernel
theorem st1 {h a c : Nat} (ha : a < 256) : ((256 * h + a) / 2) &&& (256 * c + 85) = 256 * ((h / 2) &&& c) + y1 a := by
  rw [show (256 * h + a) / 2 = 256 * (h / 2) + (a / 2 + 128 * (h % 2)) by omega, and8 (by omega) (by omega), tb1 a ha (h % 2) (by omega)]
theorem st3 {h a c : Nat} (ha : a < 256) : ((256 * h + a) / 4) &&& (256 * c + 51) = 256 * ((h / 4) &&& c) + y3 a := by
  rw [show (256 * h + a) / 4 = 256 * (h / 4) + (a / 4 + 64 * (h % 4)) by omega, and8 (by omega) (by omega), tb3 a ha (h % 4) (by omega)]
theorem st4 {h a c : Nat} (ha : a < 69) (he : h % 16 < 5) : ((256 * h + a) + (256 * h + a) / 16) &&& (256 * c + 15) = 256 * ((h + h / 16) &&& c) + y4 a := by
  rw [show (256 * h + a) + (256 * h + a) / 16 = 256 * (h + h / 16) + (a + (a / 16 + 16 * (h % 16))) by omega, and8 (by omega) (by omega), tb4 a ha (h % 16) he]
def z1 (a : Nat) : Nat := a - y1 a
def z2 (a : Nat) : Nat := y2 (z1 a) + y3 (z1 a)
def z3 (a : Nat) : Nat := y4 (z2 a)
theorem tbA : ∀ a, a < 256 → y1 a ≤ a ∧ z2 a < 69 ∧ z2 a % 16 < 5 ∧ z3 a ≤ 8 ∧ z3 a = cnt (fun i => a.testBit i) 8 := by decide +kernel
def by4 (a b c d : Nat) : Nat := 256 * (256 * (256 * d + c) + b) + a
def us (x s : Int32) : Int32 := (x.toUInt32 >>> (s.toUInt32 &&& Int32.toUInt32 31)).toInt32
def bc1 (i : Int32) : Int32 := i - (us i 1 &&& 1431655765)
def bc2 (i : Int32) : Int32 := (i &&& 858993459) + (us i 2 &&& 858993459)
def bc3 (i : Int32) : Int32 := (i + us i 4) &&& 252645135
def bc4 (i : Int32) : Int32 := i + us i 8
def bc5 (i : Int32) : Int32 := i + us i 16
theorem bc_eq (i : Int32) : fJ6_bitCount_0f7a4 i = bc5 (bc4 (bc3 (bc2 (bc1 i)))) &&& 63 := rfl
theorem tn_us (x s : Int32) (k : Nat) (hs : ((s.toUInt32 &&& Int32.toUInt32 31).toBitVec % 32).toNat = k) : tn (us x s) = tn x / 2 ^ k := pk_ushr x s k hs
theorem by4_end {p q r s : Nat} (hp : p ≤ 8) (hq : q ≤ 8) (hr : r ≤ 8) (hs : s ≤ 8) : (by4 p q r s + by4 p q r s / 256 + (by4 p q r s + by4 p q r s / 256) / 65536) % 2 ^ 6 = p + q + r + s := by
  have h1 : by4 p q r s / 256 = 256 * (256 * s + r) + q := by
    unfold by4
    omega
  have h2 : by4 p q r s + by4 p q r s / 256 = 65536 * (256 * s + (r + s)) + (256 * (q + r) + (p + q)) := by
    rw [h1]
    unfold by4
    omega
  rw [h2, show (65536 * (256 * s + (r + s)) + (256 * (q + r) + (p + q))) / 65536 = 256 * s + (r + s) by omega]
  omega
theorem bc_s {i : Int32} {a b c d : Nat} (ha : a < 256) (hb : b < 256) (hc : c < 256) (hd : d < 256) (hi : tn i = by4 a b c d) : fJ6_bitCount_0f7a4 i = nI (z3 a + z3 b + z3 c + z3 d) := by
  have A := tbA a ha
  have B := tbA b hb
  have C := tbA c hc
  have D := tbA d hd
  have h1 : tn (bc1 i) = by4 (z1 a) (z1 b) (z1 c) (z1 d) := by
    have q : tn (us i 1 &&& 1431655765) = by4 (y1 a) (y1 b) (y1 c) (y1 d) := by
      rw [tn_and, tn_us i 1 1 (by decide), hi]
      show (by4 a b c d / 2) &&& (256 * (256 * (256 * 85 + 85) + 85) + 85) = _
      unfold by4
      rw [st1 ha, st1 hb, st1 hc]
      rfl
    unfold bc1
    rw [tn_sub (by rw [q, hi]; unfold by4; omega), q, hi]
    unfold by4 z1
    omega
  have l1 : z1 a < 256 ∧ z1 b < 256 ∧ z1 c < 256 ∧ z1 d < 256 := by
    unfold z1
    omega
  have h2 : tn (bc2 (bc1 i)) = by4 (z2 a) (z2 b) (z2 c) (z2 d) := by
    have q1 : tn (bc1 i &&& 858993459) = by4 (y2 (z1 a)) (y2 (z1 b)) (y2 (z1 c)) (y2 (z1 d)) := by
      rw [tn_and, h1]
      show by4 (z1 a) (z1 b) (z1 c) (z1 d) &&& (256 * (256 * (256 * 51 + 51) + 51) + 51) = _
      unfold by4
      rw [and8 l1.1 (by omega), and8 l1.2.1 (by omega), and8 l1.2.2.1 (by omega)]
      rfl
    have q2 : tn (us (bc1 i) 2 &&& 858993459) = by4 (y3 (z1 a)) (y3 (z1 b)) (y3 (z1 c)) (y3 (z1 d)) := by
      rw [tn_and, tn_us (bc1 i) 2 2 (by decide), h1]
      show (by4 (z1 a) (z1 b) (z1 c) (z1 d) / 4) &&& (256 * (256 * (256 * 51 + 51) + 51) + 51) = _
      unfold by4
      rw [st3 l1.1, st3 l1.2.1, st3 l1.2.2.1]
      rfl
    have e : by4 (y2 (z1 a)) (y2 (z1 b)) (y2 (z1 c)) (y2 (z1 d)) + by4 (y3 (z1 a)) (y3 (z1 b)) (y3 (z1 c)) (y3 (z1 d)) = by4 (z2 a) (z2 b) (z2 c) (z2 d) := by
      unfold by4 z2
      omega
    unfold bc2
    rw [tn_add (by rw [q1, q2, e]; unfold by4; omega), q1, q2, e]
  have h3 : tn (bc3 (bc2 (bc1 i))) = by4 (z3 a) (z3 b) (z3 c) (z3 d) := by
    have q1 : tn (us (bc2 (bc1 i)) 4) = by4 (z2 a) (z2 b) (z2 c) (z2 d) / 16 := by
      rw [tn_us (bc2 (bc1 i)) 4 4 (by decide), h2]
    unfold bc3
    rw [tn_and, tn_add (by rw [q1, h2]; unfold by4; omega), q1, h2]
    show (by4 (z2 a) (z2 b) (z2 c) (z2 d) + by4 (z2 a) (z2 b) (z2 c) (z2 d) / 16) &&& (256 * (256 * (256 * 15 + 15) + 15) + 15) = _
    unfold by4
    rw [st4 A.2.1 (by omega), st4 B.2.1 (by omega), st4 C.2.1 (by omega)]
    rfl
  have h4 : tn (bc4 (bc3 (bc2 (bc1 i)))) = by4 (z3 a) (z3 b) (z3 c) (z3 d) + by4 (z3 a) (z3 b) (z3 c) (z3 d) / 256 := by
    have q1 : tn (us (bc3 (bc2 (bc1 i))) 8) = by4 (z3 a) (z3 b) (z3 c) (z3 d) / 256 := by
      rw [tn_us (bc3 (bc2 (bc1 i))) 8 8 (by decide), h3]
    rw [bc4, tn_add (by rw [q1, h3]; unfold by4; omega), q1, h3]
  have h5 : tn (bc5 (bc4 (bc3 (bc2 (bc1 i)))) &&& 63) = z3 a + z3 b + z3 c + z3 d := by
    have q1 : tn (us (bc4 (bc3 (bc2 (bc1 i)))) 16) = (by4 (z3 a) (z3 b) (z3 c) (z3 d) + by4 (z3 a) (z3 b) (z3 c) (z3 d) / 256) / 65536 := by
      rw [tn_us (bc4 (bc3 (bc2 (bc1 i)))) 16 16 (by decide), h4]
    rw [tn_and, bc5, tn_add (by rw [q1, h4]; unfold by4; omega), q1, h4]
    show (_ : Nat) &&& (2 ^ 6 - 1) = _
    rw [Nat.and_two_pow_sub_one_eq_mod]
    exact by4_end A.2.2.2.1 B.2.2.2.1 C.2.2.2.1 D.2.2.2.1
  rw [bc_eq]
  apply Int32.toBitVec_inj.mp
  apply BitVec.eq_of_toNat_eq
  have : tn (nI (z3 a + z3 b + z3 c + z3 d)) = z3 a + z3 b + z3 c + z3 d := pk_tn (by omega)
  exact h5.trans this.symm
theorem cnt_add (p : Nat → Bool) (k : Nat) : ∀ m, cnt p (k + m) = cnt p k + cnt (fun i => p (k + i)) m
  | 0 => rfl
  | m + 1 => by
    rw [← Nat.add_assoc, cnt_s, cnt_s, cnt_add p k m]
    omega
theorem cnt_congr {p q : Nat → Bool} {k : Nat} (h : ∀ x, x < k → p x = q x) : cnt p k = cnt q k := by
  unfold cnt
  rw [List.filter_congr (fun x hx => h x (List.mem_range.mp hx))]
theorem bt_tn (x : Int32) (i : Nat) : bt x i = (tn x).testBit i := rfl
/-- of a set of numbers below 24 -/
theorem bitCount_s {g : Int32} (h : ∀ i, 24 ≤ i → i < 32 → bt g i = false) : fJ6_bitCount_0f7a4 g = nI (cnt (bt g) 24) := by
  have hg : tn g < 16777216 := by
    apply Nat.lt_of_not_le
    intro q
    have e : tn g / 2 ^ 24 < 256 := by
      have := tn_lt g
      omega
    have z : ∀ x, x < 256 → (∀ i, i < 8 → x.testBit i = false) → x = 0 := by decide +kernel
    have := z (tn g / 2 ^ 24) e (fun i hi => by
      rw [Nat.testBit_div_two_pow]
      have := h (24 + i) (by omega) (by omega)
      rw [bt_tn] at this
      rw [Nat.add_comm]
      exact this)
    omega
  have hb : tn g = by4 (tn g % 256) (tn g / 256 % 256) (tn g / 65536 % 256) 0 := by
    unfold by4
    omega
  rw [bc_s (by omega) (by omega) (by omega) (by omega) hb]
  have m8 : ∀ k x, x < 8 → (tn g / 2 ^ k % 256).testBit x = bt g (k + x) := fun k x hx => by
    rw [show 256 = 2 ^ 8 from rfl, Nat.testBit_mod_two_pow, Nat.testBit_div_two_pow, decide_eq_true hx, Bool.true_and, bt_tn, Nat.add_comm]
  have e1 := (tbA (tn g % 256) (by omega)).2.2.2.2
  have e2 := (tbA (tn g / 256 % 256) (by omega)).2.2.2.2
  have e3 := (tbA (tn g / 65536 % 256) (by omega)).2.2.2.2
  have e4 : z3 0 = 0 := by decide
  rw [e1, e2, e3, e4, show (24 : Nat) = 8 + 8 + 8 from rfl, cnt_add, cnt_add]
  have f1 : cnt (fun i => (tn g % 256).testBit i) 8 = cnt (bt g) 8 := cnt_congr (fun x hx => by
    have := m8 0 x hx
    rw [Nat.pow_zero, Nat.div_one, Nat.zero_add] at this
    exact this)
  have f2 : cnt (fun i => (tn g / 256 % 256).testBit i) 8 = cnt (fun i => bt g (8 + i)) 8 := cnt_congr (fun x hx => m8 8 x hx)
  have f3 : cnt (fun i => (tn g / 65536 % 256).testBit i) 8 = cnt (fun i => bt g (8 + 8 + i)) 8 := cnt_congr (fun x hx => m8 16 x hx)
  rw [f1, f2, f3]
  rfl
