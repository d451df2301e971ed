/-! ===== the reference: what combine makes, in numbers ===== -/
def gcdN (e : Nat → Int) : Nat → Nat
  | 0 => 0
  | j + 1 => Nat.gcd (gcdN e j) (e j).natAbs
theorem gcdN_dvd {e : Nat → Int} {j : Nat} : ∀ {n : Nat}, j < n → gcdN e n ∣ (e j).natAbs
  | n + 1, h => by
    by_cases q : j = n
    · subst q; exact Nat.gcd_dvd_right _ _
    · exact Nat.dvd_trans (Nat.gcd_dvd_left _ _) (gcdN_dvd (by omega))
theorem gcdN_lt {e : Nat → Int} {B : Nat} (hB : 0 < B) : ∀ {n : Nat}, (∀ j, j < n → (e j).natAbs < B) → gcdN e n < B
  | 0, _ => hB
  | n + 1, h => by
    have h1 := gcdN_lt hB (fun j hj => h j (by omega) : ∀ j, j < n → (e j).natAbs < B)
    have h2 := h n (by omega)
    show Nat.gcd (gcdN e n) (e n).natAbs < B
    rcases Nat.eq_zero_or_pos (gcdN e n) with q | q
    · rw [q, Nat.gcd_zero_left]; exact h2
    · exact Nat.lt_of_le_of_lt (Nat.gcd_le_left _ q) h1
theorem hi_lo (a b : Int64) : (hpF a b).toInt * 18446744073709551616 + (uN (a * b) : Int) = a.toInt * b.toInt := by
  rw [hpF_int]
  obtain ⟨k, hk⟩ := (cg_uN (a * b)).tr (cg_mulL a b)
  have h := uN_lt (a * b)
  generalize a.toInt * b.toInt = z at *
  omega
theorem mk_int {a b c d : Int64} (h1 : -170141183460469231731687303715884105728 ≤ a.toInt * b.toInt + c.toInt * d.toInt) (h2 : a.toInt * b.toInt + c.toInt * d.toInt < 170141183460469231731687303715884105728) :
    (mkH a b c d).toInt * 18446744073709551616 + (uN (a * b + c * d) : Int) = a.toInt * b.toInt + c.toInt * d.toInt := by
  have e1 := hi_lo a b
  have e2 := hi_lo c d
  have l1 := uN_lt (a * b)
  have l2 := uN_lt (c * d)
  have es := uN_add (a * b) (c * d)
  have key : (mkH a b c d).toInt = (hpF a b).toInt + (hpF c d).toInt + (if uN (a * b + c * d) < uN (a * b) then 1 else 0) := by
    refine cg_eq ?_ ?_ ?_
    · unfold mkH
      refine (cg_addL _ _).tr (((cg_addL _ _).add ?_))
      by_cases q : uN (a * b + c * d) < uN (a * b)
      · rw [if_pos q, if_pos q]; exact cg.rf _
      · rw [if_neg q, if_neg q]; exact cg.rf _
    · split <;> omega
    · split <;> omega
  rw [key]
  generalize a.toInt * b.toInt = z at *
  generalize c.toInt * d.toInt = y at *
  split <;> omega
theorem uN_neg (x : Int64) : uN (-x) = (18446744073709551616 - uN x) % 18446744073709551616 := by
  rw [show -x = 0 - x by grind, uN_sub]
  show (0 + _) % _ = _
  rw [Nat.zero_add]
theorem int_neg {h : Int64} : h < 0 ↔ 18446744073709551616 ≤ 2 * uN h := by
  rw [Int64.lt_iff_toInt_lt, uN_int, show (0 : Int64).toInt = 0 from rfl]
  have := uN_lt h
  split <;> omega
theorem sg_pos {h l : Int64} {e : Int} (he : h.toInt * 18446744073709551616 + (uN l : Int) = e) (q : 0 ≤ h) : w2 h l = e.natAbs ∧ 0 ≤ e := by
  have q2 : ¬ h < 0 := Int64.not_lt.mpr q
  rw [int_neg] at q2
  rw [uN_int, if_pos (by omega)] at he
  unfold w2
  have := uN_lt l
  omega
theorem sg_neg {h l b : Int64} {e : Int} (he : h.toInt * 18446744073709551616 + (uN l : Int) = e) (q : h < 0) (hb : b = if -l = 0 then 0 else 1) : w2 (-h - b) (-l) = e.natAbs ∧ e < 0 := by
  rw [int_neg] at q
  rw [uN_int, if_neg (by omega)] at he
  have h1 := uN_lt l
  have h2 := uN_lt h
  have e1 : uN 1 = 1 := rfl
  have e0 : uN 0 = 0 := rfl
  have en := uN_neg l
  unfold w2
  rw [uN_sub, uN_neg h]
  by_cases z : -l = 0
  · rw [if_pos z] at hb; subst hb; rw [z, e0] at en ⊢; omega
  · rw [if_neg z] at hb; subst hb; rw [e1]
    have : uN (-l) ≠ 0 := fun q => z (uN_inj (q.trans e0.symm))
    omega
theorem sh_fin {x : Int64} {e : Int} {G : Nat} (hG : 0 < G) (hd : G ∣ e.natAbs) (hf : e.natAbs ≤ 9223372036854775807 * G) (hx : uN x = e.natAbs / G % 18446744073709551616) : x.toInt * (G : Int) = (e.natAbs : Int) ∧ 0 ≤ x.toInt := by
  have h1 : e.natAbs / G ≤ 9223372036854775807 := by
    rw [Nat.mul_comm] at hf
    exact Nat.div_le_of_le_mul hf
  have h3 := Nat.div_mul_cancel hd
  generalize e.natAbs / G = t at h1 h3 hx
  have h2 : x.toInt = (t : Int) := by
    rw [uN_int, if_pos (by omega)]; omega
  rw [h2]
  refine ⟨?_, by omega⟩
  rw [← h3, Int.natCast_mul]
/-- what combine works on -/
def cbE (rw : Nat → Int64) (a b u j : Nat) : Int := (rw (11 * a + j)).toInt * (-(rw (11 * b + u)).toInt) + (rw (11 * b + j)).toInt * (rw (11 * a + u)).toInt
def rwB (rw : Nat → Int64) (a : Nat) : Prop := ∀ j, j < 11 → -4611686018427387904 < (rw (11 * a + j)).toInt ∧ (rw (11 * a + j)).toInt < 4611686018427387904
theorem prodB {x y : Int} (h1 : -4611686018427387904 < x) (h2 : x < 4611686018427387904) (h3 : -4611686018427387904 < y) (h4 : y < 4611686018427387904) : -21267647932558653966460912964485513216 < x * y ∧ x * y < 21267647932558653966460912964485513216 := by
  have a1 := Int.mul_nonneg (show 0 ≤ 4611686018427387904 - x by omega) (show 0 ≤ 4611686018427387904 - y by omega)
  have a2 := Int.mul_nonneg (show 0 ≤ 4611686018427387904 + x by omega) (show 0 ≤ 4611686018427387904 + y by omega)
  have a3 := Int.mul_nonneg (show 0 ≤ 4611686018427387904 - x by omega) (show 0 ≤ 4611686018427387904 + y by omega)
  have a4 := Int.mul_nonneg (show 0 ≤ 4611686018427387904 + x by omega) (show 0 ≤ 4611686018427387904 - y by omega)
  have b1 := Int.mul_nonneg (show 0 ≤ 4611686018427387903 - x by omega) (show 0 ≤ 4611686018427387903 - y by omega)
  have b2 := Int.mul_nonneg (show 0 ≤ 4611686018427387903 + x by omega) (show 0 ≤ 4611686018427387903 + y by omega)
  have b3 := Int.mul_nonneg (show 0 ≤ 4611686018427387903 - x by omega) (show 0 ≤ 4611686018427387903 + y by omega)
  have b4 := Int.mul_nonneg (show 0 ≤ 4611686018427387903 + x by omega) (show 0 ≤ 4611686018427387903 - y by omega)
  grind
theorem cbE_b {rw : Nat → Int64} {a b u j : Nat} (ha : rwB rw a) (hb : rwB rw b) (hu : u < 11) (hj : j < 11) : (cbE rw a b u j).natAbs < 42535295865117307932921825928971026432 := by
  have h1 := ha j hj
  have h2 := ha u hu
  have h3 := hb j hj
  have h4 := hb u hu
  have p1 := prodB h1.1 h1.2 (show -4611686018427387904 < -(rw (11 * b + u)).toInt by omega) (by omega)
  have p2 := prodB h3.1 h3.2 h2.1 h2.2
  unfold cbE
  omega
