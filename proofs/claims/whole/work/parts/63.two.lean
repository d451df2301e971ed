/-! ===== numbers of two words ===== -/
def w2 (h l : Int64) : Nat := uN h * 18446744073709551616 + uN l
theorem w2_0 {h l : Int64} : w2 h l = 0 ↔ h = 0 ∧ l = 0 := by
  unfold w2
  constructor
  · intro e
    exact ⟨uN_inj (by show _ = 0; omega), uN_inj (by show _ = 0; omega)⟩
  · rintro ⟨rfl, rfl⟩; rfl
theorem w2_odd {h l : Int64} : (l &&& 1) = 0 ↔ w2 h l % 2 = 0 := by
  rw [uN_bit]; unfold w2; omega
theorem w2_odd2 {h l g k : Int64} : ((l ||| k) &&& 1) = 0 ↔ w2 h l % 2 = 0 ∧ w2 g k % 2 = 0 := by
  rw [uN_bit, uN_or2]
  have : (uN l ||| uN k) % 2 = (uN l % 2) ||| (uN k % 2) := Nat.or_mod_two_pow (n := 1)
  rw [this]; unfold w2
  rcases Nat.mod_two_eq_zero_or_one (uN l) with e | e <;> rcases Nat.mod_two_eq_zero_or_one (uN k) with e2 | e2 <;> rw [e, e2] <;> simp <;> omega
theorem w2_half (h l : Int64) : w2 (ur h (nI 1)) (ur l (nI 1) ||| sl h (nI 63)) = w2 h l / 2 := by
  unfold w2
  have hl := uN_lt l
  rw [uN_or2, ur_N _ (by decide), ur_N _ (by decide), sl_N _ (by decide)]
  have e : uN h * 2 ^ 63 % 18446744073709551616 = 2 ^ 63 * (uN h % 2) := by omega
  rw [e, Nat.or_comm, ← Nat.two_pow_add_eq_or_of_lt (i := 63) (by omega)]
  omega
theorem w2_dbl {h l : Int64} (hb : w2 h l < 170141183460469231731687303715884105728) : w2 (sl h (nI 1) ||| ur l (nI 63)) (sl l (nI 1)) = 2 * w2 h l := by
  unfold w2 at *
  have hl := uN_lt l
  rw [uN_or2, ur_N _ (by decide), sl_N _ (by decide), sl_N _ (by decide)]
  have e : uN h * 2 ^ 1 % 18446744073709551616 = 2 ^ 1 * (uN h % 9223372036854775808) := by omega
  rw [e, ← Nat.two_pow_add_eq_or_of_lt (i := 1) (by omega)]
  omega
theorem w2_dblb {h l b : Int64} (hb : w2 h l < 170141183460469231731687303715884105728) (h2 : uN b < 2) : w2 (sl h (nI 1) ||| ur l (nI 63)) (sl l (nI 1) ||| b) = 2 * w2 h l + uN b := by
  unfold w2 at *
  have hl := uN_lt l
  rw [uN_or2, uN_or2, ur_N _ (by decide), sl_N _ (by decide), sl_N _ (by decide)]
  have e : uN h * 2 ^ 1 % 18446744073709551616 = 2 ^ 1 * (uN h % 9223372036854775808) := by omega
  have e3 : uN l * 2 ^ 1 % 18446744073709551616 = 2 ^ 1 * (uN l % 9223372036854775808) := by omega
  rw [e, e3, ← Nat.two_pow_add_eq_or_of_lt (i := 1) (by omega), ← Nat.two_pow_add_eq_or_of_lt (i := 1) (by omega)]
  omega
theorem uN_sub (x y : Int64) : uN (x - y) = (uN x + (18446744073709551616 - uN y)) % 18446744073709551616 := by
  show (x - y).toUInt64.toNat = _
  rw [show (x - y).toUInt64 = x.toUInt64 - y.toUInt64 from rfl, UInt64.toNat_sub]
  unfold uN
  congr 1
  omega
theorem w2_sub {h l g k b : Int64} (hle : w2 g k ≤ w2 h l) (hb : b = if uN l < uN k then 1 else 0) : w2 (h - g - b) (l - k) = w2 h l - w2 g k := by
  unfold w2 at *
  have h1 := uN_lt l
  have h2 := uN_lt k
  have h3 := uN_lt g
  have h4 := uN_lt h
  have e1 : uN 1 = 1 := rfl
  have e0 : uN 0 = 0 := rfl
  rw [uN_sub, uN_sub, uN_sub]
  by_cases q : uN l < uN k
  · rw [if_pos q] at hb; subst hb; rw [e1]; omega
  · rw [if_neg q] at hb; subst hb; rw [e0]; omega
theorem uN_slt {a b : Int64} (ha : uN a < 9223372036854775808) (hb : uN b < 9223372036854775808) : a < b ↔ uN a < uN b := by
  rw [Int64.lt_iff_toInt_lt, uN_int, uN_int, if_pos (by omega), if_pos (by omega)]; omega
theorem w2_hi {h l : Int64} (hb : w2 h l < 170141183460469231731687303715884105728) : uN h < 9223372036854775808 := by unfold w2 at hb; omega
theorem w2_lt1 {h l g k : Int64} (hb : w2 h l < 170141183460469231731687303715884105728) (hb2 : w2 g k < 170141183460469231731687303715884105728) (q : h < g) : w2 h l < w2 g k := by
  rw [uN_slt (w2_hi hb) (w2_hi hb2)] at q
  unfold w2
  have := uN_lt l
  omega
theorem w2_lt2 {h l k : Int64} (q : uN l < uN k) : w2 h l < w2 h k := by unfold w2; omega
theorem w2_le2 {h l k : Int64} (q : ¬ uN l < uN k) : w2 h k ≤ w2 h l := by unfold w2; omega
theorem w2_le1 {h l g k : Int64} (hb : w2 h l < 170141183460469231731687303715884105728) (hb2 : w2 g k < 170141183460469231731687303715884105728) (q : ¬ h < g) (q2 : h ≠ g) : w2 g k ≤ w2 h l := by
  rw [uN_slt (w2_hi hb) (w2_hi hb2)] at q
  have : uN h ≠ uN g := fun e => q2 (uN_inj e)
  unfold w2
  have := uN_lt k
  omega
theorem gcd_half {u v : Nat} (h : u % 2 = 0) (h2 : v % 2 = 1) : Nat.gcd (u / 2) v = Nat.gcd u v := by
  have : Nat.Coprime 2 v := by
    show Nat.gcd 2 v = 1
    rw [Nat.gcd_rec, h2]; rfl
  have e := Nat.Coprime.gcd_mul_left_cancel (u / 2) this
  rw [show 2 * (u / 2) = u by omega] at e
  exact e.symm
theorem gcd_half2 {u v : Nat} (h : u % 2 = 0) (h2 : v % 2 = 0) : 2 * Nat.gcd (u / 2) (v / 2) = Nat.gcd u v := by
  rw [← Nat.gcd_mul_left, show 2 * (u / 2) = u by omega, show 2 * (v / 2) = v by omega]
theorem gcd_sub {u v : Nat} (h : u ≤ v) : Nat.gcd u (v - u) = Nat.gcd u v := Nat.gcd_sub_self_right h
