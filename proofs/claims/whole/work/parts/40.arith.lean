/-! ===== numbers of 64 bits (begins with the family uN of the kit's BITS.to-paste) ===== -/
def uN (x : Int64) : Nat := x.toUInt64.toNat
theorem uN_lt (x : Int64) : uN x < 18446744073709551616 := x.toUInt64.toNat_lt
theorem uN_inj {x y : Int64} (h : uN x = uN y) : x = y := congrArg UInt64.toInt64 (UInt64.toNat_inj.mp h)
theorem uN_add (x y : Int64) : uN (x + y) = (uN x + uN y) % 18446744073709551616 := by
  show (x.toUInt64 + y.toUInt64).toNat = _
  exact UInt64.toNat_add _ _
theorem uN_mul (x y : Int64) : uN (x * y) = (uN x * uN y) % 18446744073709551616 := by
  show (x.toUInt64 * y.toUInt64).toNat = _
  exact UInt64.toNat_mul _ _
theorem uN_shl (x : Int64) : uN (x <<< ((1 : Int32).toInt64 &&& 63)) = (2 * uN x) % 18446744073709551616 := by
  have h : (((1 : Int32).toInt64 &&& 63).toBitVec.smod 64).toNat = 1 := by decide
  show (x.toBitVec <<< (((1 : Int32).toInt64 &&& 63).toBitVec.smod 64).toNat).toNat = _
  rw [h, BitVec.toNat_shiftLeft, Nat.shiftLeft_eq, Nat.mul_comm]
  rfl
theorem uN_shr (x : Int64) (s : UInt64) : uN (x.toUInt64 >>> s).toInt64 = uN x / 2 ^ (s.toNat % 64) := by
  show (x.toUInt64 >>> s).toNat = _
  rw [UInt64.toNat_shiftRight, Nat.shiftRight_eq_div_pow]
  rfl
theorem uN_s32 (x : Int64) : uN (x.toUInt64 >>> ((32 : Int32).toInt64.toUInt64 &&& Int64.toUInt64 63)).toInt64 = uN x / 4294967296 := by
  have h : ((32 : Int32).toInt64.toUInt64 &&& Int64.toUInt64 63).toNat % 64 = 32 := by decide
  rw [uN_shr, h]
theorem uN_s63 (x : Int64) : uN (x.toUInt64 >>> ((63 : Int32).toInt64.toUInt64 &&& Int64.toUInt64 63)).toInt64 = uN x / 9223372036854775808 := by
  have h : ((63 : Int32).toInt64.toUInt64 &&& Int64.toUInt64 63).toNat % 64 = 63 := by decide
  rw [uN_shr, h]
theorem uN_lo (x : Int64) : uN (x &&& 4294967295) = uN x % 4294967296 := by
  show (x.toUInt64 &&& Int64.toUInt64 4294967295).toNat = _
  rw [UInt64.toNat_and]
  exact Nat.and_two_pow_sub_one_eq_mod _ 32
theorem uN_bit (x : Int64) : (x &&& 1) = 0 ↔ uN x % 2 = 0 := by
  have h : uN (x &&& 1) = uN x % 2 := by
    show (x.toUInt64 &&& Int64.toUInt64 1).toNat = _
    rw [UInt64.toNat_and]
    exact Nat.and_two_pow_sub_one_eq_mod _ 1
  rw [← h]
  exact ⟨fun z => by rw [z]; rfl, fun z => uN_inj (z.trans rfl)⟩
theorem uN_or {x y : Int64} (hy : uN y < 2) : uN ((x <<< ((1 : Int32).toInt64 &&& 63)) ||| y) = (2 * uN x) % 18446744073709551616 + uN y := by
  have h1 : uN ((x <<< ((1 : Int32).toInt64 &&& 63)) ||| y) = uN (x <<< ((1 : Int32).toInt64 &&& 63)) ||| uN y := UInt64.toNat_or _ _
  have h2 : (2 * uN x) % 18446744073709551616 = 2 ^ 1 * (uN x % 9223372036854775808) := by omega
  rw [h1, uN_shl, h2]
  exact (Nat.two_pow_add_eq_or_of_lt (i := 1) hy _).symm
theorem nat_xor {a : Nat} (h : a < 18446744073709551616) : a ^^^ 2 ^ 63 = (a + 9223372036854775808) % 18446744073709551616 := by
  have h1 : (a ^^^ 2 ^ 63) % 2 ^ 63 = a % 2 ^ 63 := by rw [Nat.xor_mod_two_pow, Nat.mod_self, Nat.xor_zero]
  have h2 : (a ^^^ 2 ^ 63) / 2 ^ 63 = (a / 2 ^ 63) ^^^ 1 := by rw [Nat.xor_div_two_pow, Nat.div_self (Nat.two_pow_pos 63)]
  have h3 : a / 2 ^ 63 = 0 ∨ a / 2 ^ 63 = 1 := by omega
  generalize a ^^^ 2 ^ 63 = t at h1 h2
  rcases h3 with h3 | h3
  · rw [h3] at h2
    have h2 : t / 2 ^ 63 = 1 := h2
    omega
  · rw [h3] at h2
    have h2 : t / 2 ^ 63 = 0 := h2
    omega
theorem uN_xor (x : Int64) : uN (x ^^^ (-9223372036854775808)) = (uN x + 9223372036854775808) % 18446744073709551616 := by
  rw [← nat_xor (uN_lt x)]
  exact UInt64.toNat_xor _ _
theorem uN_int (x : Int64) : x.toInt = if 2 * uN x < 18446744073709551616 then (uN x : Int) else (uN x : Int) - 18446744073709551616 := BitVec.toInt_eq_toNat_cond _
theorem uN_le (x y : Int64) : (x ^^^ (-9223372036854775808)) ≤ (y ^^^ (-9223372036854775808)) ↔ uN x ≤ uN y := by
  have hx := uN_lt x
  have hy := uN_lt y
  rw [Int64.le_iff_toInt_le, uN_int, uN_int, uN_xor, uN_xor]
  omega
theorem uN_sk (x : Int64) {k : Nat} (hk : k < 64) : uN (x.toUInt64 >>> ((nI k).toInt64.toUInt64 &&& Int64.toUInt64 63)).toInt64 = uN x / 2 ^ k := by
  have h : ((nI k).toInt64.toUInt64 &&& Int64.toUInt64 63).toNat % 64 = k := by
    rw [nI_l (by omega), UInt64.toNat_and]
    have e : (lN k).toUInt64.toNat = k % 2 ^ 64 := rfl
    have e2 : (Int64.toUInt64 63).toNat = 2 ^ 6 - 1 := by decide
    rw [e, e2, Nat.and_two_pow_sub_one_eq_mod]
    omega
  rw [uN_shr, h]
/-- alike up to a multiple of 2 to the 64th -/
def cg (a b : Int) : Prop := ∃ k : Int, a = b + 18446744073709551616 * k
theorem cg.rf (a : Int) : cg a a := ⟨0, by omega⟩
theorem cg.sy {a b : Int} (h : cg a b) : cg b a := by obtain ⟨k, h⟩ := h; exact ⟨-k, by omega⟩
theorem cg.tr {a b c : Int} (h : cg a b) (h2 : cg b c) : cg a c := by obtain ⟨k, h⟩ := h; obtain ⟨k2, h2⟩ := h2; exact ⟨k + k2, by omega⟩
theorem cg.trans' {a b c : Int} (h : cg a b) (h2 : cg b c) : cg a c := h.tr h2
theorem cg.add {a b c d : Int} (h : cg a b) (h2 : cg c d) : cg (a + c) (b + d) := by obtain ⟨k, h⟩ := h; obtain ⟨k2, h2⟩ := h2; exact ⟨k + k2, by omega⟩
theorem cg.sub {a b c d : Int} (h : cg a b) (h2 : cg c d) : cg (a - c) (b - d) := by obtain ⟨k, h⟩ := h; obtain ⟨k2, h2⟩ := h2; exact ⟨k - k2, by omega⟩
theorem cg.mul {a b c d : Int} (h : cg a b) (h2 : cg c d) : cg (a * c) (b * d) := by
  obtain ⟨k, h⟩ := h; obtain ⟨k2, h2⟩ := h2
  exact ⟨k * d + b * k2 + 18446744073709551616 * (k * k2), by subst h; subst h2; grind⟩
theorem cg_bm (a : Int) : cg (a.bmod (2 ^ 64)) a := by
  refine ⟨-(a.bdiv (2 ^ 64)), ?_⟩
  have := Int.bmod_add_bdiv a (2 ^ 64)
  have e : ((2 ^ 64 : Nat) : Int) = 18446744073709551616 := by decide
  rw [e] at this
  omega
theorem cg_addL (a b : Int64) : cg (a + b).toInt (a.toInt + b.toInt) := by rw [Int64.toInt_add]; exact cg_bm _
theorem cg_subL (a b : Int64) : cg (a - b).toInt (a.toInt - b.toInt) := by rw [Int64.toInt_sub]; exact cg_bm _
theorem cg_mulL (a b : Int64) : cg (a * b).toInt (a.toInt * b.toInt) := by rw [Int64.toInt_mul]; exact cg_bm _
theorem cg_uN (a : Int64) : cg (uN a : Int) a.toInt := by
  rw [uN_int]
  split
  · exact cg.rf _
  · exact ⟨1, by omega⟩
/-- what is alike and small is the same -/
theorem cg_eq {x : Int64} {z : Int} (h : cg x.toInt z) (h1 : -9223372036854775808 ≤ z) (h2 : z < 9223372036854775808) : x.toInt = z := by
  obtain ⟨k, h⟩ := h
  have g1 := x.toInt_lt
  have g2 := x.le_toInt
  have : k = 0 := by omega
  subst this
  omega
theorem lx_mulE {a b : Int64} (h1 : -9223372036854775808 ≤ a.toInt * b.toInt) (h2 : a.toInt * b.toInt < 9223372036854775808) : (a * b).toInt = a.toInt * b.toInt := cg_eq (cg_mulL a b) h1 h2
theorem lx_addE {a b : Int64} (h1 : -9223372036854775808 ≤ a.toInt + b.toInt) (h2 : a.toInt + b.toInt < 9223372036854775808) : (a + b).toInt = a.toInt + b.toInt := cg_eq (cg_addL a b) h1 h2
theorem lx_subE {a b : Int64} (h1 : -9223372036854775808 ≤ a.toInt - b.toInt) (h2 : a.toInt - b.toInt < 9223372036854775808) : (a - b).toInt = a.toInt - b.toInt := cg_eq (cg_subL a b) h1 h2
theorem sr_int (x : Int64) {k : Nat} (hk : k < 64) : (sr x (nI k)).toInt = x.toInt / 2 ^ k := by
  unfold sr
  have h : ((nI k).toInt64 &&& 63).toBitVec.smod 64 = BitVec.ofNat 64 k := by
    have : ∀ k, k < 64 → ((nI k).toInt64 &&& 63).toBitVec.smod 64 = BitVec.ofNat 64 k := by decide +kernel
    exact this k hk
  show (x >>> ((nI k).toInt64 &&& 63)).toBitVec.toInt = _
  rw [Int64.toBitVec_shiftRight]
  show (x.toBitVec.sshiftRight' _).toInt = _
  rw [show (((nI k).toInt64 &&& 63).toBitVec.smod 64) = BitVec.ofNat 64 k from h]
  rw [BitVec.sshiftRight', BitVec.toInt_sshiftRight, Int.shiftRight_eq_div_pow]
  rw [show (BitVec.ofNat 64 k).toNat = k from by simp; omega]
  rfl
theorem ur_N (x : Int64) {k : Nat} (hk : k < 64) : uN (ur x (nI k)) = uN x / 2 ^ k := uN_sk x hk
theorem lo_int (x : Int64) : (x &&& 4294967295).toInt = x.toInt % 4294967296 := by
  have h1 := uN_lo x
  have h2 := uN_int (x &&& 4294967295)
  have h3 := uN_int x
  have h4 := uN_lt x
  rw [h1] at h2
  rw [if_pos (by omega)] at h2
  rw [h2, h3]
  split <;> omega
theorem mulB {x y X Y : Int} (h1 : -X ≤ x) (h2 : x ≤ X) (h3 : 0 ≤ y) (h4 : y ≤ Y) (hX : 0 ≤ X) : -(X * Y) ≤ x * y ∧ x * y ≤ X * Y := by
  have a1 : x * y ≤ X * y := Int.mul_le_mul_of_nonneg_right h2 h3
  have a2 : X * y ≤ X * Y := Int.mul_le_mul_of_nonneg_left h4 hX
  have a3 : -X * y ≤ x * y := Int.mul_le_mul_of_nonneg_right h1 h3
  have a4 : -X * y = -(X * y) := by grind
  omega
theorem mulU {x y X Y : Int} (h2 : x ≤ X) (h3 : 0 ≤ y) (h4 : y ≤ Y) (hX : 0 ≤ X) : x * y ≤ X * Y :=
  Int.le_trans (Int.mul_le_mul_of_nonneg_right h2 h3) (Int.mul_le_mul_of_nonneg_left h4 hX)
/-- the upper half of a product -/
theorem hpF_int (a b : Int64) : (hpF a b).toInt = a.toInt * b.toInt / 18446744073709551616 := by
  have a1 := a.toInt_lt
  have a2 := a.le_toInt
  have b1 := b.toInt_lt
  have b2 := b.le_toInt
  have hA := sr_int a (k := 32) (by omega)
  have hB := sr_int b (k := 32) (by omega)
  have lA := lo_int a
  have lB := lo_int b
  have eA : a.toInt = (a.toInt / 4294967296) * 4294967296 + a.toInt % 4294967296 := by omega
  have eB : b.toInt = (b.toInt / 4294967296) * 4294967296 + b.toInt % 4294967296 := by omega
  rw [show (2 : Int) ^ 32 = 4294967296 from by decide] at hA hB
  generalize hAH : a.toInt / 4294967296 = AH at hA eA
  generalize hBH : b.toInt / 4294967296 = BH at hB eB
  generalize hAL : a.toInt % 4294967296 = AL at lA eA
  generalize hBL : b.toInt % 4294967296 = BL at lB eB
  have rAH : -2147483648 ≤ AH ∧ AH ≤ 2147483647 := by omega
  have rBH : -2147483648 ≤ BH ∧ BH ≤ 2147483647 := by omega
  have rAL : 0 ≤ AL ∧ AL ≤ 4294967295 := by omega
  have rBL : 0 ≤ BL ∧ BL ≤ 4294967295 := by omega
  have p1 := mulB (x := AH) (y := BL) (X := 2147483648) (Y := 4294967295) (by omega) (by omega) rBL.1 rBL.2 (by omega)
  have p2 := mulB (x := BH) (y := AL) (X := 2147483648) (Y := 4294967295) (by omega) (by omega) rAL.1 rAL.2 (by omega)
  have p3 := mulB (x := AL) (y := BL) (X := 4294967295) (Y := 4294967295) (by omega) (by omega) rBL.1 rBL.2 (by omega)
  have p1' := mulU (x := AH) (y := BL) (X := 2147483647) (Y := 4294967295) (by omega) rBL.1 rBL.2 (by omega)
  have p2' := mulU (x := BH) (y := AL) (X := 2147483647) (Y := 4294967295) (by omega) rAL.1 rAL.2 (by omega)
  have p3' : 0 ≤ AL * BL := Int.mul_nonneg rAL.1 rBL.1
  -- the low product, without a sign
  have u1 : (uN ((a &&& 4294967295) * (b &&& 4294967295)) : Int) = AL * BL := by
    have h := (cg_uN ((a &&& 4294967295) * (b &&& 4294967295))).tr (cg_mulL (a &&& 4294967295) (b &&& 4294967295))
    rw [lA, lB] at h
    obtain ⟨k, h⟩ := h
    have := uN_lt ((a &&& 4294967295) * (b &&& 4294967295))
    omega
  have u2 : (ur ((a &&& 4294967295) * (b &&& 4294967295)) (nI 32)).toInt = AL * BL / 4294967296 := by
    have h1 := ur_N ((a &&& 4294967295) * (b &&& 4294967295)) (k := 32) (by omega)
    have h2 := uN_int (ur ((a &&& 4294967295) * (b &&& 4294967295)) (nI 32))
    rw [h1] at h2
    have h3 := uN_lt ((a &&& 4294967295) * (b &&& 4294967295))
    rw [if_pos (by omega)] at h2
    rw [h2, ← u1]
    omega
  have m1 : (sr a (nI 32) * (b &&& 4294967295)).toInt = AH * BL := by
    have := lx_mulE (a := sr a (nI 32)) (b := b &&& 4294967295) (by rw [hA, lB]; omega) (by rw [hA, lB]; omega)
    rw [hA, lB] at this
    exact this
  have m2 : (hpM a b).toInt = AH * BL + AL * BL / 4294967296 := by
    unfold hpM
    rw [lx_addE (by rw [m1, u2]; omega) (by rw [m1, u2]; omega), m1, u2]
  have m3 := lo_int (hpM a b)
  rw [m2] at m3
  have m4 : ((a &&& 4294967295) * sr b (nI 32)).toInt = AL * BH := by
    have h : AL * BH = BH * AL := Int.mul_comm _ _
    have := lx_mulE (a := a &&& 4294967295) (b := sr b (nI 32)) (by rw [hB, lA, h]; omega) (by rw [hB, lA, h]; omega)
    rw [hB, lA] at this
    exact this
  have hc : AL * BH = BH * AL := Int.mul_comm _ _
  have m5 : ((a &&& 4294967295) * sr b (nI 32) + (hpM a b &&& 4294967295)).toInt = AL * BH + (AH * BL + AL * BL / 4294967296) % 4294967296 := by
    rw [lx_addE (by rw [m4, m3, hc]; omega) (by rw [m4, m3, hc]; omega), m4, m3]
  have m6 := sr_int ((a &&& 4294967295) * sr b (nI 32) + (hpM a b &&& 4294967295)) (k := 32) (by omega)
  have m7 := sr_int (hpM a b) (k := 32) (by omega)
  rw [show (2 : Int) ^ 32 = 4294967296 from by decide] at m6 m7
  rw [m5] at m6
  rw [m2] at m7
  -- the answer, up to a multiple
  have hfin : cg (hpF a b).toInt (AH * BH + (AH * BL + AL * BL / 4294967296) / 4294967296 + (AL * BH + (AH * BL + AL * BL / 4294967296) % 4294967296) / 4294967296) := by
    unfold hpF
    have q1 := cg_mulL (sr a (nI 32)) (sr b (nI 32))
    rw [hA, hB] at q1
    have q2 := (cg_addL (sr a (nI 32) * sr b (nI 32)) (sr (hpM a b) (nI 32))).tr (q1.add (cg.rf _))
    rw [m7] at q2
    have q3 := (cg_addL (sr a (nI 32) * sr b (nI 32) + sr (hpM a b) (nI 32)) (sr ((a &&& 4294967295) * sr b (nI 32) + (hpM a b &&& 4294967295)) (nI 32))).tr (q2.add (cg.rf _))
    rw [m6] at q3
    exact q3
  have hval : a.toInt * b.toInt / 18446744073709551616 = AH * BH + (AH * BL + AL * BL / 4294967296) / 4294967296 + (AL * BH + (AH * BL + AL * BL / 4294967296) % 4294967296) / 4294967296 := by
    have e : a.toInt * b.toInt = (AH * BH) * 18446744073709551616 + (AH * BL + AL * BH) * 4294967296 + AL * BL := by rw [eA, eB]; grind
    rw [e]
    generalize AH * BH = X1
    generalize AH * BL = X2
    generalize AL * BH = X3
    generalize AL * BL = X4
    omega
  have rng : -9223372036854775808 ≤ a.toInt * b.toInt / 18446744073709551616 ∧ a.toInt * b.toInt / 18446744073709551616 < 9223372036854775808 := by
    have p4 : -(9223372036854775808 * 9223372036854775808) ≤ a.toInt * b.toInt ∧ a.toInt * b.toInt ≤ 9223372036854775808 * 9223372036854775808 := by
      rcases Int.le_total 0 b.toInt with q | q
      · have := mulB (x := a.toInt) (y := b.toInt) (X := 9223372036854775808) (Y := 9223372036854775808) (by omega) (by omega) q (by omega) (by omega)
        exact this
      · have := mulB (x := a.toInt) (y := -b.toInt) (X := 9223372036854775808) (Y := 9223372036854775808) (by omega) (by omega) (by omega) (by omega) (by omega)
        have e : a.toInt * -b.toInt = -(a.toInt * b.toInt) := by grind
        omega
    omega
  rw [← hval] at hfin
  exact cg_eq hfin rng.1 rng.2
