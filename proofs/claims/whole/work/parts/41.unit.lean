/-! ===== the unit's twos and inverse; differenceByUnit is the division ===== -/
theorem odd_part : ∀ n : Nat, 0 < n → ∃ t k, n = 2 ^ t * (2 * k + 1) := by
  intro n
  induction n using Nat.strongRecOn with
  | ind n ih =>
    intro hn
    by_cases q : n % 2 = 1
    · exact ⟨0, n / 2, by simp; omega⟩
    · obtain ⟨t, k, e⟩ := ih (n / 2) (by omega) (by omega)
      refine ⟨t + 1, k, ?_⟩
      rw [Nat.pow_succ]
      have : n = 2 * (n / 2) := by omega
      rw [this, e]
      grind
theorem and_compl {m k : Nat} (h : k < 2 ^ m) : k &&& (2 ^ m - (k + 1)) = 0 := by
  apply Nat.eq_of_testBit_eq
  intro i
  rw [Nat.testBit_and, Nat.testBit_two_pow_sub_succ h]
  cases k.testBit i <;> simp
theorem and_odd (a b : Nat) : (2 * a + 1) &&& (2 * b + 1) = 2 * (a &&& b) + 1 := by
  apply Nat.eq_of_testBit_eq
  intro i
  rw [Nat.testBit_and]
  cases i with
  | zero => simp [Nat.testBit_zero]
  | succ i =>
    rw [Nat.testBit_succ, Nat.testBit_succ, Nat.testBit_succ]
    rw [show (2 * a + 1) / 2 = a by omega, show (2 * b + 1) / 2 = b by omega, show (2 * (a &&& b) + 1) / 2 = (a &&& b) by omega, Nat.testBit_and]
theorem and_pow (t a b : Nat) : (2 ^ t * a) &&& (2 ^ t * b) = 2 ^ t * (a &&& b) := by
  rw [Nat.mul_comm _ a, Nat.mul_comm _ b, Nat.mul_comm _ (a &&& b), ← Nat.shiftLeft_eq, ← Nat.shiftLeft_eq, ← Nat.shiftLeft_eq, Nat.shiftLeft_and_distrib]
theorem uN_and (x y : Int64) : uN (x &&& y) = uN x &&& uN y := by
  show (x &&& y).toUInt64.toNat = _
  exact UInt64.toNat_and ..
theorem uN_lN {n : Nat} (h : n < 18446744073709551616) : uN (lN n) = n := by
  show (Int64.ofNat n).toUInt64.toNat = n
  exact Nat.mod_eq_of_lt h
/-- the lowest bit alone -/
theorem low_bit {y : Int64} (h : 0 < y.toInt) : ∃ t k : Nat, t < 63 ∧ y.toInt = 2 ^ t * (2 * k + 1) ∧ (y &&& -y) = lN (2 ^ t) := by
  have hu := uN_int y
  have hl := uN_lt y
  have hlt := y.toInt_lt
  rw [if_pos (by
    apply Classical.byContradiction
    intro q
    rw [if_neg q] at hu
    omega)] at hu
  obtain ⟨t, k, e⟩ := odd_part (uN y) (by omega)
  have ht : t < 63 := by
    apply Classical.byContradiction
    intro q
    have h1 : 2 ^ 63 ≤ 2 ^ t := Nat.pow_le_pow_right (by omega) (by omega)
    have h2 : 2 ^ t * 1 ≤ 2 ^ t * (2 * k + 1) := Nat.mul_le_mul_left _ (by omega)
    omega
  refine ⟨t, k, ht, ?_, ?_⟩
  · rw [hu, e]; simp
  · apply uN_inj
    rw [uN_and]
    have h64 : (18446744073709551616 : Nat) = 2 ^ t * (2 * 2 ^ (63 - t)) := by
      rw [show 2 * 2 ^ (63 - t) = 2 ^ (64 - t) by rw [show 64 - t = (63 - t) + 1 by omega, Nat.pow_succ]; omega, ← Nat.pow_add, show t + (64 - t) = 64 by omega]
    have hk : k < 2 ^ (63 - t) := by
      apply Classical.byContradiction
      intro q
      have h2 : 2 ^ t * (2 * 2 ^ (63 - t)) ≤ 2 ^ t * (2 * k + 1) := Nat.mul_le_mul_left _ (by omega)
      omega
    have hneg : uN (-y) = 2 ^ t * (2 * (2 ^ (63 - t) - (k + 1)) + 1) := by
      have h1 : cg (uN (-y) : Int) (-y.toInt) := (cg_uN (-y)).tr (by rw [Int64.toInt_neg]; exact cg_bm _)
      obtain ⟨z, h1⟩ := h1
      have h2 := uN_lt (-y)
      have h3 : 2 ^ t * (2 * (2 ^ (63 - t) - (k + 1)) + 1) = 18446744073709551616 - uN y := by
        rw [h64, e, ← Nat.mul_sub]
        congr 1
        omega
      rw [h3]
      omega
    rw [hneg, e, and_pow, and_odd, and_compl hk]
    rw [uN_lN (by
      have : 2 ^ t < 2 ^ 64 := Nat.pow_lt_pow_right (by omega) (by omega)
      omega)]
    simp
theorem bc_all : ∀ t, t < 64 → bcF (lN (2 ^ t) - 1) = nI t := by decide +kernel
/-- 1 - o times what is found, round by round -/
theorem nw_sq : ∀ (k : Nat) (o : Int64), ∃ y : Int, cg (nwF o k).toInt y ∧ 1 - o.toInt * y = (1 - o.toInt * o.toInt) ^ (2 ^ k)
  | 0, o => ⟨o.toInt, cg.rf _, by rw [show 2 ^ 0 = 1 from rfl, Int.pow_succ, Int.pow_zero, Int.one_mul]⟩
  | k + 1, o => by
    obtain ⟨y, h1, h2⟩ := nw_sq k o
    refine ⟨y * (2 - o.toInt * y), ?_, ?_⟩
    · show cg (nwF o k * (2 - o * nwF o k)).toInt _
      refine (cg_mulL _ _).tr (h1.mul ((cg_subL _ _).tr (cg.sub (cg.rf _) ((cg_mulL _ _).tr ((cg.rf _).mul h1)))))
    · rw [Nat.pow_succ, Int.pow_mul, ← h2]
      grind
theorem nw_inv {o : Int64} {k : Int} (h : o.toInt = 2 * k + 1) : cg (o.toInt * (nwF o 5).toInt) 1 := by
  obtain ⟨y, h1, h2⟩ := nw_sq 5 o
  refine ((cg.rf o.toInt).mul h1).tr ?_
  -- 8 goes into 1 - o o
  obtain ⟨q, hq⟩ : ∃ q, 1 - o.toInt * o.toInt = 8 * q := by
    have h3 : ∃ z, k * (k + 1) = 2 * z := by
      rcases (by omega : k % 2 = 0 ∨ k % 2 = 1) with e | e
      · exact ⟨(k / 2) * (k + 1), by
          have : k = 2 * (k / 2) := by omega
          generalize k / 2 = z at this
          subst this; grind⟩
      · exact ⟨k * ((k + 1) / 2), by
          have : k + 1 = 2 * ((k + 1) / 2) := by omega
          generalize (k + 1) / 2 = z at this
          rw [this]; grind⟩
    obtain ⟨z, hz⟩ := h3
    exact ⟨-z, by rw [h]; grind⟩
  rw [hq] at h2
  have h4 : (8 * q) ^ (2 ^ 5) = 18446744073709551616 * (4294967296 * q ^ 32) := by
    rw [show (2 : Nat) ^ 5 = 32 from rfl, Int.mul_pow]
    rw [show (8 : Int) ^ 32 = 18446744073709551616 * 4294967296 from by decide]
    grind
  exact ⟨-(4294967296 * q ^ 32), by omega⟩
/-- what takeUnit finds -/
def Unt (u : Int64) (tw : Int32) (iv : Int64) : Prop := 0 < u.toInt ∧ ∃ (t : Nat) (o : Int), t < 63 ∧ tw = nI t ∧ u.toInt = 2 ^ t * o ∧ cg (o * iv.toInt) 1
theorem Unt_take {y : Int64} (h : 0 < y.toInt) : Unt y (bcF ((y &&& -y) - 1)) (nwF (sr y (bcF ((y &&& -y) - 1))) 5) := by
  obtain ⟨t, k, ht, e, hb⟩ := low_bit h
  have hbc : bcF ((y &&& -y) - 1) = nI t := by rw [hb]; exact bc_all t (by omega)
  have ho : (sr y (nI t)).toInt = 2 * k + 1 := by
    rw [sr_int y (by omega), e]
    exact Int.mul_ediv_cancel_left _ (by
      have : (0 : Int) < 2 ^ t := Int.pow_pos (by omega)
      omega)
  rw [hbc]
  refine ⟨h, t, 2 * k + 1, ht, rfl, e, ?_⟩
  have := nw_inv (o := sr y (nI t)) (k := k) ho
  rw [ho] at this
  exact this
theorem Unt_1 : Unt 1 (bcF ((1 &&& -1) - 1)) (nwF (sr 1 (bcF ((1 &&& -1) - 1))) 5) := Unt_take (by decide)
theorem uN_or2 (x y : Int64) : uN (x ||| y) = uN x ||| uN y := by
  show (x ||| y).toUInt64.toNat = _
  exact UInt64.toNat_or ..
theorem sl_N (x : Int64) {k : Nat} (hk : k < 64) : uN (sl x (nI k)) = uN x * 2 ^ k % 18446744073709551616 := by
  unfold sl
  have h : ((nI k).toInt64 &&& 63).toBitVec.smod 64 = BitVec.ofNat 64 k := by
    have : ∀ k, k < 64 → ((nI k).toInt64 &&& 63).toBitVec.smod 64 = BitVec.ofNat 64 k := by decide +kernel
    exact this k hk
  show (x <<< ((nI k).toInt64 &&& 63)).toBitVec.toNat = x.toBitVec.toNat * 2 ^ k % 18446744073709551616
  rw [Int64.toBitVec_shiftLeft, h]
  rw [BitVec.shiftLeft_eq', BitVec.toNat_shiftLeft, Nat.shiftLeft_eq]
  rw [show (BitVec.ofNat 64 k).toNat = k from by simp; omega]
/-- the division by the unit -/
theorem dbF_int {u : Int64} {tw : Int32} {iv : Int64} (hU : Unt u tw iv) {a b c d : Int64} {z : Int} (hz : a.toInt * b.toInt - c.toInt * d.toInt = u.toInt * z) (h1 : -9223372036854775808 ≤ z) (h2 : z < 9223372036854775808) : (dbF tw iv a b c d).toInt = z := by
  obtain ⟨-, t, o, ht, rfl, hu, hiv⟩ := hU
  refine cg_eq ?_ h1 h2
  generalize hX : a.toInt * b.toInt = X at hz
  generalize hY : c.toInt * d.toInt = Y at hz
  -- low words
  have fX : (uN (a * b) : Int) = X % 18446744073709551616 := by
    obtain ⟨k, h⟩ := (cg_uN (a * b)).tr (cg_mulL a b)
    rw [hX] at h
    have := uN_lt (a * b)
    omega
  have fY : (uN (c * d) : Int) = Y % 18446744073709551616 := by
    obtain ⟨k, h⟩ := (cg_uN (c * d)).tr (cg_mulL c d)
    rw [hY] at h
    have := uN_lt (c * d)
    omega
  have fL : (uN (a * b - c * d) : Int) = (X - Y) % 18446744073709551616 := by
    obtain ⟨k, h⟩ := (cg_uN (a * b - c * d)).tr ((cg_subL (a * b) (c * d)).tr ((cg_uN (a * b)).sy.sub (cg_uN (c * d)).sy))
    rw [fX, fY] at h
    have := uN_lt (a * b - c * d)
    omega
  -- the upper word
  have hlt : (a * b + (-9223372036854775808) < c * d + (-9223372036854775808)) ↔ uN (a * b) < uN (c * d) := by
    rw [Int64.lt_iff_toInt_lt]
    have key : ∀ x : Int64, (x + (-9223372036854775808)).toInt = (uN x : Int) - 9223372036854775808 := fun x => by
      refine cg_eq ((cg_addL _ _).trans' ?_) (by omega) (by have := uN_lt x; omega)
      obtain ⟨k, h⟩ := cg_uN x
      rw [show (-9223372036854775808 : Int64).toInt = -9223372036854775808 from by decide]
      exact ⟨-k, by omega⟩
    rw [key, key]
    omega
  have fH : cg (dbH a b c d).toInt ((X - Y) / 18446744073709551616) := by
    have hp1 := hpF_int a b
    have hp2 := hpF_int c d
    rw [hX] at hp1
    rw [hY] at hp2
    unfold dbH
    split
    · rename_i q
      rw [hlt] at q
      refine (cg_subL _ _).tr ?_
      refine ((cg_subL (hpF a b) (hpF c d)).sub (cg.rf (1 : Int64).toInt)).tr ?_
      rw [hp1, hp2, show (1 : Int64).toInt = 1 from by decide]
      refine (cg.rf _).trans' ?_
      rw [show X / 18446744073709551616 - Y / 18446744073709551616 - 1 = (X - Y) / 18446744073709551616 by omega]
      exact cg.rf _
    · rename_i q
      rw [hlt] at q
      refine (cg_subL (hpF a b) (hpF c d)).tr ?_
      rw [hp1, hp2]
      rw [show X / 18446744073709551616 - Y / 18446744073709551616 = (X - Y) / 18446744073709551616 by omega]
      exact cg.rf _
  rw [hz, hu] at fL fH
  -- the two shifts
  have hT : (0 : Nat) < 2 ^ t := Nat.pow_pos (by omega)
  have h64 : (18446744073709551616 : Nat) = 2 ^ t * 2 ^ (64 - t) := by rw [← Nat.pow_add, show t + (64 - t) = 64 by omega]
  have s1 := ur_N (a * b - c * d) (k := t) (by omega)
  have s2 : uN (sl (sl (dbH a b c d) (nI 1)) (nI 63 - nI t)) = uN (dbH a b c d) % 2 ^ t * 2 ^ (64 - t) := by
    rw [show nI 63 - nI t = nI (63 - t) from pk_sub (by omega), sl_N _ (by omega), sl_N _ (by omega)]
    rw [Nat.mod_mul_mod, show uN (dbH a b c d) * 2 ^ 1 * 2 ^ (63 - t) = uN (dbH a b c d) * 2 ^ (64 - t) by rw [Nat.mul_assoc, ← Nat.pow_add, show 1 + (63 - t) = 64 - t by omega]]
    rw [h64, Nat.mul_mod_mul_right]
  have hlow : uN (a * b - c * d) / 2 ^ t < 2 ^ (64 - t) := by
    rw [Nat.div_lt_iff_lt_mul hT, Nat.mul_comm, ← h64]
    exact uN_lt _
  have s3 : uN (ur (a * b - c * d) (nI t) ||| sl (sl (dbH a b c d) (nI 1)) (nI 63 - nI t)) = uN (dbH a b c d) % 2 ^ t * 2 ^ (64 - t) + uN (a * b - c * d) / 2 ^ t := by
    rw [uN_or2, s1, s2, Nat.or_comm, ← Nat.shiftLeft_eq, Nat.shiftLeft_add_eq_or_of_lt hlow]
  -- as whole numbers
  have hQ : (2 : Int) ^ t * 2 ^ (64 - t) = 18446744073709551616 := by
    have := congrArg (Int.ofNat) h64
    simp at this
    omega
  have hTi : (0 : Int) < 2 ^ t := Int.pow_pos (by omega)
  have hSi : (0 : Int) < 2 ^ (64 - t) := Int.pow_pos (by omega)
  have s4 : cg (ur (a * b - c * d) (nI t) ||| sl (sl (dbH a b c d) (nI 1)) (nI 63 - nI t)).toInt (o * z) := by
    refine (cg_uN _).sy.tr ?_
    rw [s3]
    obtain ⟨kh, hkh⟩ := (cg_uN (dbH a b c d)).tr fH
    -- the number split
    have e1 : 2 ^ t * o * z = (2 ^ t * o * z / 18446744073709551616) * 18446744073709551616 + 2 ^ t * o * z % 18446744073709551616 := by omega
    have e2 : ((uN (dbH a b c d) % 2 ^ t * 2 ^ (64 - t) + uN (a * b - c * d) / 2 ^ t : Nat) : Int) = (uN (dbH a b c d) : Int) % 2 ^ t * 2 ^ (64 - t) + (uN (a * b - c * d) : Int) / 2 ^ t := by
      simp
    rw [e2, fL]
    generalize hN : 2 ^ t * o * z / 18446744073709551616 = N at e1 hkh
    generalize hL : 2 ^ t * o * z % 18446744073709551616 = L at e1
    generalize (uN (dbH a b c d) : Int) = V at hkh
    -- L is a multiple of 2^t
    have e3 : L = 2 ^ t * (o * z - N * 2 ^ (64 - t)) := by
      have : 2 ^ t * (o * z - N * 2 ^ (64 - t)) = 2 ^ t * o * z - N * (2 ^ t * 2 ^ (64 - t)) := by grind
      rw [this, hQ]; omega
    have e4 : L / 2 ^ t = o * z - N * 2 ^ (64 - t) := by
      rw [e3, Int.mul_ediv_cancel_left _ (by omega)]
    rw [e4]
    have e5 := Int.emod_add_mul_ediv V (2 ^ t)
    refine ⟨kh * 2 ^ (64 - t) - V / 2 ^ t, ?_⟩
    rw [← hQ]
    have e6 : V % 2 ^ t = V - 2 ^ t * (V / 2 ^ t) := by omega
    rw [e6]
    rw [show V = N + 18446744073709551616 * kh from hkh] at *
    generalize (N + 18446744073709551616 * kh) / 2 ^ t = D
    rw [← hQ]
    grind
  unfold dbF
  refine (cg_mulL _ _).tr ?_
  refine (s4.mul (cg.rf _)).tr ?_
  have := hiv.mul (cg.rf z)
  rw [show o * iv.toInt * z = o * z * iv.toInt by grind, Int.one_mul] at this
  exact this
