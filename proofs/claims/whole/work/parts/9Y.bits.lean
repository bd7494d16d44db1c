/-! law: bits -/
theorem wi_nat {a : Nat} (h : a < 2147483648) : (Int32.ofInt (a : Int)).toBitVec.toNat = a := by
  show (BitVec.ofInt 32 (a : Int)).toNat = a
  rw [BitVec.toNat_ofInt]
  simp only [Nat.reducePow]
  omega
theorem wl_nat {a : Nat} (h : a < 9223372036854775808) : (Int64.ofInt (a : Int)).toBitVec.toNat = a := by
  show (BitVec.ofInt 64 (a : Int)).toNat = a
  rw [BitVec.toNat_ofInt]
  simp only [Nat.reducePow]
  omega
theorem wi_int {X : BitVec 32} {n : Nat} (e : X.toNat = n) (h : n < 2147483648) : X.toInt = (n : Int) := by
  rw [BitVec.toInt_eq_toNat_of_lt (by rw [e]; omega), e]
theorem wl_int {X : BitVec 64} {n : Nat} (e : X.toNat = n) (h : n < 9223372036854775808) : X.toInt = (n : Int) := by
  rw [BitVec.toInt_eq_toNat_of_lt (by rw [e]; omega), e]
theorem wi_or {a b : Nat} (ha : a < 2 ^ 31) (hb : b < 2 ^ 31) : zo_or (a : Int) (b : Int) = ((a ||| b : Nat) : Int) := by
  show (Int32.ofInt (a : Int) ||| Int32.ofInt (b : Int)).toBitVec.toInt = _
  have := Nat.or_lt_two_pow ha hb
  refine wi_int ?_ (by omega)
  rw [Int32.toBitVec_or, BitVec.toNat_or, wi_nat (by omega), wi_nat (by omega)]
theorem wi_and {a b : Nat} (ha : a < 2 ^ 31) (hb : b < 2 ^ 31) : zo_and (a : Int) (b : Int) = ((a &&& b : Nat) : Int) := by
  show (Int32.ofInt (a : Int) &&& Int32.ofInt (b : Int)).toBitVec.toInt = _
  have : a &&& b ≤ a := Nat.and_le_left
  refine wi_int ?_ (by omega)
  rw [Int32.toBitVec_and, BitVec.toNat_and, wi_nat (by omega), wi_nat (by omega)]
theorem wi_shl {a k : Nat} (hk : k < 32) (h : a * 2 ^ k < 2 ^ 31) : zo_shl (a : Int) (k : Int) = ((a * 2 ^ k : Nat) : Int) := by
  have e : ∀ n : Nat, n < 32 → ((Int32.ofInt (n : Int) &&& 31).toBitVec.smod 32).toNat = n := by decide
  show (Int32.ofInt (a : Int) <<< (Int32.ofInt (k : Int) &&& 31)).toBitVec.toInt = _
  have h1 : a ≤ a * 2 ^ k := Nat.le_mul_of_pos_right a (Nat.two_pow_pos k)
  refine wi_int ?_ (by omega)
  rw [Int32.toBitVec_shiftLeft, BitVec.shiftLeft_eq', e k hk, BitVec.toNat_shiftLeft, wi_nat (by omega), Nat.shiftLeft_eq]
  omega
theorem wi_shr {a k : Nat} (hk : k < 32) (h : a < 2 ^ 31) : zo_shr (a : Int) (k : Int) = ((a / 2 ^ k : Nat) : Int) := by
  have e : ∀ n : Nat, n < 32 → ((Int32.ofInt (n : Int) &&& 31).toBitVec.smod 32).toNat = n := by decide
  show (Int32.ofInt (a : Int) >>> (Int32.ofInt (k : Int) &&& 31)).toBitVec.toInt = _
  rw [Int32.toBitVec_shiftRight, BitVec.sshiftRight', e k hk, BitVec.toInt_sshiftRight, Int.shiftRight_eq_div_pow, wi_int (n := a) (wi_nat (by omega)) (by omega)]
  rfl
/-- a step's number as the class packs it -/
theorem w_pack {v w s : Nat} (hv : v < 10000) (hw : w < 8) (hs : s < 3) : zo_or (zo_or (zo_shl (v : Int) 8) (zo_shl (w : Int) 4)) (s : Int) = ((v * 256 + w * 16 + s : Nat) : Int) := by
  have e1 := wi_shl (a := v) (k := 8) (by omega) (by omega)
  have e2 := wi_shl (a := w) (k := 4) (by omega) (by omega)
  rw [show (8 : Int) = ((8 : Nat) : Int) from rfl, show (4 : Int) = ((4 : Nat) : Int) from rfl, e1, e2, wi_or (by omega) (by omega)]
  have o1 : v * 2 ^ 8 ||| w * 2 ^ 4 = v * 256 + w * 16 := by
    have := Nat.two_pow_add_eq_or_of_lt (i := 8) (b := w * 2 ^ 4) (by omega) v
    rw [Nat.mul_comm v, ← this]
  rw [o1, wi_or (by omega) (by omega)]
  have o2 : v * 256 + w * 16 ||| s = v * 256 + w * 16 + s := by
    have := Nat.two_pow_add_eq_or_of_lt (i := 4) (b := s) (by omega) (v * 16 + w)
    rw [show v * 256 + w * 16 = 2 ^ 4 * (v * 16 + w) by omega, ← this]
  rw [o2]
theorem w_un {v w s : Nat} (hv : v < 10000) (hw : w < 8) (hs : s < 16) : zo_and ((v * 256 + w * 16 + s : Nat) : Int) 15 = (s : Int) ∧ zo_and (zo_shr ((v * 256 + w * 16 + s : Nat) : Int) 4) 7 = (w : Int) ∧ zo_shr ((v * 256 + w * 16 + s : Nat) : Int) 8 = (v : Int) := by
  refine ⟨?_, ?_, ?_⟩
  · rw [show (15 : Int) = ((15 : Nat) : Int) from rfl, wi_and (by omega) (by omega)]
    have := Nat.and_two_pow_sub_one_eq_mod (v * 256 + w * 16 + s) 4
    simp only [Nat.reducePow, Nat.reduceSub] at this
    rw [this]
    omega
  · rw [show (4 : Int) = ((4 : Nat) : Int) from rfl, wi_shr (by omega) (by omega), show (7 : Int) = ((7 : Nat) : Int) from rfl, wi_and (by omega) (by omega)]
    have := Nat.and_two_pow_sub_one_eq_mod ((v * 256 + w * 16 + s) / 2 ^ 4) 3
    simp only [Nat.reducePow, Nat.reduceSub] at this ⊢
    rw [this]
    omega
  · rw [show (8 : Int) = ((8 : Nat) : Int) from rfl, wi_shr (by omega) (by omega)]
    simp only [Nat.reducePow]
    omega
/-! a stack of bits -/
theorem wl_or {a b : Nat} (ha : a < 2 ^ 63) (hb : b < 2 ^ 63) : zo_lor (a : Int) (b : Int) = ((a ||| b : Nat) : Int) := by
  show (Int64.ofInt (a : Int) ||| Int64.ofInt (b : Int)).toBitVec.toInt = _
  have := Nat.or_lt_two_pow ha hb
  refine wl_int ?_ (by omega)
  rw [Int64.toBitVec_or, BitVec.toNat_or, wl_nat (by omega), wl_nat (by omega)]
theorem wl_and {a b : Nat} (ha : a < 2 ^ 63) (hb : b < 2 ^ 63) : zo_land (a : Int) (b : Int) = ((a &&& b : Nat) : Int) := by
  show (Int64.ofInt (a : Int) &&& Int64.ofInt (b : Int)).toBitVec.toInt = _
  have : a &&& b ≤ a := Nat.and_le_left
  refine wl_int ?_ (by omega)
  rw [Int64.toBitVec_and, BitVec.toNat_and, wl_nat (by omega), wl_nat (by omega)]
theorem wl_xor {a b : Nat} (ha : a < 2 ^ 63) (hb : b < 2 ^ 63) : zo_lxor (a : Int) (b : Int) = ((a ^^^ b : Nat) : Int) := by
  show (Int64.ofInt (a : Int) ^^^ Int64.ofInt (b : Int)).toBitVec.toInt = _
  have := Nat.xor_lt_two_pow ha hb
  refine wl_int ?_ (by omega)
  rw [Int64.toBitVec_xor, BitVec.toNat_xor, wl_nat (by omega), wl_nat (by omega)]
theorem wl_a1 {q v : Nat} (h : 2 * q + v < 2 ^ 63) (hv : v < 2) : zo_land ((2 * q + v : Nat) : Int) 1 = (v : Int) := by
  rw [show (1 : Int) = ((1 : Nat) : Int) from rfl, wl_and (by omega) (by omega)]
  have := Nat.and_two_pow_sub_one_eq_mod (2 * q + v) 1
  simp only [Nat.reducePow, Nat.reduceSub] at this
  rw [this]
  omega
theorem wl_o1 {q v : Nat} (h : 2 * q < 2 ^ 63) (hv : v < 2) : zo_lor ((2 * q : Nat) : Int) (v : Int) = ((2 * q + v : Nat) : Int) := by
  rw [wl_or (by omega) (by omega)]
  have := Nat.two_pow_add_eq_or_of_lt (i := 1) (b := v) (by omega) q
  rw [Nat.pow_one] at this
  rw [this]
theorem w_x1 {q v : Nat} (hv : v < 2) : (2 * q + v) ^^^ 1 = 2 * q + (1 - v) := by
  apply Nat.eq_of_testBit_eq
  intro i
  rw [Nat.testBit_xor]
  cases i with
  | zero => rcases (show v = 0 ∨ v = 1 by omega) with rfl | rfl <;> simp [Nat.testBit_zero]
  | succ i =>
    rw [Nat.testBit_succ, Nat.testBit_succ, Nat.testBit_succ, show (2 * q + v) / 2 = q by omega, show (1 : Nat) / 2 = 0 from rfl, show (2 * q + (1 - v)) / 2 = q by omega]
    simp
theorem wl_x1 {q v : Nat} (h : 2 * q + v < 2 ^ 63) (hv : v < 2) : zo_lxor ((2 * q + v : Nat) : Int) 1 = ((2 * q + (1 - v) : Nat) : Int) := by
  rw [show (1 : Int) = ((1 : Nat) : Int) from rfl, wl_xor (by omega) (by omega), w_x1 hv]
theorem wl_shl {a : Nat} (h : 2 * a < 2 ^ 63) : zo_lshl (a : Int) 1 = ((2 * a : Nat) : Int) := by
  show (Int64.ofInt (a : Int) <<< ((Int32.ofInt 1).toInt64 &&& 63)).toBitVec.toInt = _
  refine wl_int ?_ (by omega)
  have e : (((Int32.ofInt 1).toInt64 &&& 63).toBitVec.smod 64).toNat = 1 := by decide
  rw [Int64.toBitVec_shiftLeft, BitVec.shiftLeft_eq', e, BitVec.toNat_shiftLeft, wl_nat (by omega), Nat.shiftLeft_eq]
  omega
theorem wl_shr {a : Nat} (h : a < 2 ^ 63) : zo_lushr (a : Int) 1 = ((a / 2 : Nat) : Int) := by
  show ((Int64.ofInt (a : Int)).toUInt64 >>> ((Int32.ofInt 1).toInt64.toUInt64 &&& Int64.toUInt64 63)).toInt64.toBitVec.toInt = _
  refine wl_int ?_ (by omega)
  have e : (((Int32.ofInt 1).toInt64.toUInt64 &&& Int64.toUInt64 63)).toNat = 1 := by decide
  show ((Int64.ofInt (a : Int)).toUInt64 >>> ((Int32.ofInt 1).toInt64.toUInt64 &&& Int64.toUInt64 63)).toNat = _
  rw [UInt64.toNat_shiftRight, e, Nat.shiftRight_eq_div_pow]
  show (Int64.ofInt (a : Int)).toBitVec.toNat / 2 ^ (1 % 64) = _
  rw [wl_nat (by omega)]
theorem w_m2 {i : Nat} (h : i < 64) : (Int64.ofInt (-2)).toBitVec.getLsbD i = decide (1 ≤ i) := by
  have key : ∀ i, i < 64 → (Int64.ofInt (-2)).toBitVec.getLsbD i = decide (1 ≤ i) := by decide +kernel
  exact key i h
/-- and of the two on top -/
theorem wl_and2 {q u v : Nat} (h : 4 * q + 2 * u + v < 2 ^ 63) (hu : u < 2) (hv : v < 2) : zo_land (zo_lushr ((4 * q + 2 * u + v : Nat) : Int) 1) (zo_lor ((4 * q + 2 * u + v : Nat) : Int) (-2)) = ((2 * q + u * v : Nat) : Int) := by
  rw [wl_shr h, show (4 * q + 2 * u + v) / 2 = 2 * q + u by omega]
  have e : zo_lor ((4 * q + 2 * u + v : Nat) : Int) (-2) = if v = 1 then -1 else -2 := by
    show (Int64.ofInt ((4 * q + 2 * u + v : Nat) : Int) ||| Int64.ofInt (-2)).toBitVec.toInt = _
    have hx : (Int64.ofInt ((4 * q + 2 * u + v : Nat) : Int) ||| Int64.ofInt (-2)).toBitVec = if v = 1 then (Int64.ofInt (-1)).toBitVec else (Int64.ofInt (-2)).toBitVec := by
      apply BitVec.eq_of_getLsbD_eq
      intro i hi
      rw [Int64.toBitVec_or, BitVec.getLsbD_or, w_m2 hi]
      have m1 : ∀ i, i < 64 → (Int64.ofInt (-1)).toBitVec.getLsbD i = true := by decide +kernel
      cases i with
      | zero =>
        have t0 : (Int64.ofInt ((4 * q + 2 * u + v : Nat) : Int)).toBitVec.getLsbD 0 = decide (v = 1) := by
          show ((Int64.ofInt ((4 * q + 2 * u + v : Nat) : Int)).toBitVec.toNat).testBit 0 = _
          rw [wl_nat (by omega), Nat.testBit_zero]
          rcases (show v = 0 ∨ v = 1 by omega) with rfl | rfl
          · simp; omega
          · simp; omega
        rw [t0]
        by_cases c : v = 1
        · rw [if_pos c, m1 0 (by omega)]; simp [c]
        · rw [if_neg c, w_m2 (by omega)]; simp [c]
      | succ i =>
        by_cases c : v = 1
        · rw [if_pos c, m1 (i + 1) hi]; simp
        · rw [if_neg c, w_m2 hi]; simp
    rw [hx]
    by_cases c : v = 1
    · rw [if_pos c, if_pos c]; decide
    · rw [if_neg c, if_neg c]; decide
  rw [e]
  by_cases c : v = 1
  · rw [if_pos c]
    subst c
    rw [Nat.mul_one]
    show (Int64.ofInt ((2 * q + u : Nat) : Int) &&& Int64.ofInt (-1)).toBitVec.toInt = _
    refine wl_int ?_ (by omega)
    rw [Int64.toBitVec_and, show (Int64.ofInt (-1)).toBitVec = BitVec.allOnes 64 by decide, BitVec.and_allOnes, wl_nat (by omega)]
  · have c' : v = 0 := by omega
    subst c'
    rw [if_neg c, Nat.mul_zero, Nat.add_zero]
    show (Int64.ofInt ((2 * q + u : Nat) : Int) &&& Int64.ofInt (-2)).toBitVec.toInt = _
    refine wl_int ?_ (by omega)
    have hx : (Int64.ofInt ((2 * q + u : Nat) : Int) &&& Int64.ofInt (-2)).toBitVec = (Int64.ofInt ((2 * q : Nat) : Int)).toBitVec := by
      apply BitVec.eq_of_getLsbD_eq
      intro i hi
      rw [Int64.toBitVec_and, BitVec.getLsbD_and, w_m2 hi]
      show ((Int64.ofInt ((2 * q + u : Nat) : Int)).toBitVec.toNat.testBit i && decide (1 ≤ i)) = (Int64.ofInt ((2 * q : Nat) : Int)).toBitVec.toNat.testBit i
      rw [wl_nat (by omega), wl_nat (by omega)]
      cases i with
      | zero => simp [Nat.testBit_zero]
      | succ i =>
        rw [Nat.testBit_succ, Nat.testBit_succ, show (2 * q + u) / 2 = q by omega, show 2 * q / 2 = q by omega]
        simp
    rw [hx, wl_nat (by omega)]
/-- or of the two on top -/
theorem wl_or2 {q u v : Nat} (h : 4 * q + 2 * u + v < 2 ^ 63) (hu : u < 2) (hv : v < 2) : zo_lor (zo_lushr ((4 * q + 2 * u + v : Nat) : Int) 1) (zo_land ((4 * q + 2 * u + v : Nat) : Int) 1) = ((2 * q + (u + v - u * v) : Nat) : Int) := by
  rw [wl_shr h, show (4 * q + 2 * u + v) / 2 = 2 * q + u by omega, show 4 * q + 2 * u + v = 2 * (2 * q + u) + v by omega, wl_a1 (by omega) hv, wl_or (by omega) (by omega)]
  have := Nat.two_pow_add_eq_or_of_lt (i := 1) (b := u) (by omega) q
  rw [Nat.pow_one] at this
  have e : (2 * q + u) ||| v = 2 * q + (u ||| v) := by
    have h2 := Nat.two_pow_add_eq_or_of_lt (i := 1) (b := u ||| v) (by rcases (show u = 0 ∨ u = 1 by omega) with rfl | rfl <;> rcases (show v = 0 ∨ v = 1 by omega) with rfl | rfl <;> decide) q
    rw [Nat.pow_one] at h2
    rw [this, h2, Nat.or_assoc]
  rw [e]
  rcases (show u = 0 ∨ u = 1 by omega) with rfl | rfl <;> rcases (show v = 0 ∨ v = 1 by omega) with rfl | rfl <;> rfl
