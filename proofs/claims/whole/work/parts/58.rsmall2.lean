/-! ===== RankFinder: ranks, least ===== -/
def gl3 (gl : Nat → Int32) (k : Nat) (x1 x2 x3 : Int32) : Nat → Int32 := upd (upd (upd gl k x1) (k + 1) x2) (k + 2) x3
theorem inR_int {a : Int32} {n : Nat} (hn : n < 1000000) : inR a (nI n) ↔ (-(n : Int) ≤ a.toInt ∧ a.toInt ≤ n) := by
  have e1 : (nI n).toInt = n := nI_toInt (by omega)
  have e2 : (-(nI n)).toInt = -(n : Int) := by rw [neg32 (by omega) (by omega), e1]
  unfold inR
  rw [Int32.lt_iff_toInt_lt, Int32.lt_iff_toInt_lt, e1, e2]
  omega
theorem gl3_at {gl : Nat → Int32} {k : Nat} {x1 x2 x3 : Int32} (i : Nat) : gl3 gl k x1 x2 x3 i = if i = k + 2 then x3 else if i = k + 1 then x2 else if i = k then x1 else gl i := rfl
theorem okG_3 {gl : Nat → Int32} {p0 p1 p2 q0 q1 q2 : Int32} (h1 : ∀ x, x = p0 ∨ x = p1 ∨ x = p2 ∨ x = q0 ∨ x = q1 ∨ x = q2 → -999 ≤ x.toInt ∧ x.toInt ≤ 999) : okG (gl3 (gl3 gl 0 p0 p1 p2) 3 q0 q1 q2) := fun i hi => by
  rcases (by omega : i = 0 ∨ i = 1 ∨ i = 2 ∨ i = 3 ∨ i = 4 ∨ i = 5) with e | e | e | e | e | e <;> subst e <;> simp [gl3_at] <;> apply h1 <;> simp
/-- corner and unit are small -/
theorem Gd_small {T : Nat → Nat → Int32} {gl : Nat → Int32} {vn ct : Nat} (hT : okT T ct) (hg : okG gl) (hv1 : 1 ≤ vn) (hv : vn ≤ 3) {M : Nat → Nat → Int64} {hd : Nat → Int32} {u : Int64} {tw : Int32} {iv : Int64} {h : Nat → Option Nat} {R : Nat → Nat → Rat} (G : Gd (2 * vn) ct (CG T gl vn ct) M hd u tw iv h R) :
    (-17592186044416 < (M (2 * vn) ct).toInt ∧ (M (2 * vn) ct).toInt < 17592186044416) ∧ 0 < u.toInt ∧ u.toInt < 268435456 := by
  have c1 := CG_col (b := 23) (g := 107) hT hg hv (by grind) (by grind) (by grind) (by grind)
  obtain ⟨G1, G2, ⟨g, hg1, hdt⟩, G4, G5⟩ := G
  have key : ∀ {z q : Int}, 0 ≤ q → (z : Rat) * (z : Rat) ≤ (q : Rat) * (q : Rat) → -q ≤ z ∧ z ≤ q := fun {z q} hq h => by
    have h1 : z * z ≤ q * q := by
      have e : ((z * z : Int) : Rat) ≤ ((q * q : Int) : Rat) := by rw [Rat.intCast_mul, Rat.intCast_mul]; exact h
      exact Rat.intCast_le_intCast.mp e
    refine ⟨?_, ?_⟩
    · apply Classical.byContradiction
      intro q2
      have := Int.mul_le_mul (show q + 1 ≤ -z by omega) (show q + 1 ≤ -z by omega) (by omega) (by omega)
      have e : -z * -z = z * z := by grind
      have e2 : (q + 1) * (q + 1) = q * q + 2 * q + 1 := by grind
      omega
    · apply Classical.byContradiction
      intro q2
      have := Int.mul_le_mul (show q + 1 ≤ z by omega) (show q + 1 ≤ z by omega) (by omega) (by omega)
      have e2 : (q + 1) * (q + 1) = q * q + 2 * q + 1 := by grind
      omega
  have d2 := (ColB_dt c1 G1.2 (Nat.le_refl (2 * vn)) (Nat.le_refl ct)).2 rfl
  rw [if_pos rfl, dt_cd G1.1 (by omega), hdt] at d2
  have e4 := G4 (2 * vn) ct (by omega) (by omega)
  -- the unit: the determinant of what is held
  have hbs : ∀ k, (0 : Rat) ≤ bsq 23 (23 * 1) 0 k := fun k => by unfold bsq; split <;> grind
  have hl : ∀ t, t < 2 * vn → hB (2 * vn) (clm (CG T gl vn ct)) h (2 * vn) t = 0 := fun t ht => by rw [hB_m]; simp [un]; omega
  have hl1 : hB (2 * vn) (clm (CG T gl vn ct)) h (2 * vn) (2 * vn) = 1 := by rw [hB_m]; simp [un]
  have d1 := dt_b1 (n := 2 * vn) (col := hB (2 * vn) (clm (CG T gl vn ct)) h) hbs (fun k hk => by
    rw [show bsq 23 (23 * 1) 0 k = 23 from by unfold bsq; split <;> grind]
    cases q2 : h k with
    | none => rw [hB_n q2]; have := exN_un k (2 * vn); grind
    | some j2 => rw [hB_s hk q2]; exact (c1.2.2.2.1 j2 (G1.2 k j2 hk q2)).1)
  rw [dt_last hl hl1] at hdt
  rw [hdt] at d1
  have d3 := pB_le (b := 23) (g := 1) (by grind) (by grind) 0 (2 * vn)
  have d4 := pB_pos hbs (2 * vn)
  have hpow : ((23 : Rat) ^ (2 * vn)) ≤ 148035889 := by
    rcases (by omega : vn = 1 ∨ vn = 2 ∨ vn = 3) with e | e | e <;> subst e
    · show (23 : Rat) ^ 2 ≤ _; grind
    · show (23 : Rat) ^ 4 ≤ _; grind
    · show (23 : Rat) ^ 6 ≤ _; grind
  have hn7 : ((2 * vn + 1 : Nat) : Rat) ≤ 7 := by
    have : ((2 * vn + 1 : Nat) : Rat) ≤ ((7 : Nat) : Rat) := Rat.natCast_le_natCast.mpr (by omega)
    exact this
  have hn0 : (0 : Rat) ≤ ((2 * vn + 1 : Nat) : Rat) := Rat.natCast_nonneg
  have hp0 := rat_pow_pos (b := 23) (by grind) (2 * vn)
  refine ⟨?_, G2.1, ?_⟩
  · have q1 : ((M (2 * vn) ct).toInt : Rat) * ((M (2 * vn) ct).toInt : Rat) ≤ ((10977009205239 : Int) : Rat) * ((10977009205239 : Int) : Rat) := by
      rw [e4]
      rw [Rat.pow_succ] at d2
      generalize cd (2 * vn + 1) R (clm (CG T gl vn ct) ct) (2 * vn) = x at d2 ⊢
      generalize (u.toInt : Rat) = y at d2 ⊢
      generalize ((2 * vn + 1 : Nat) : Rat) = m1 at d2 hn7 hn0
      generalize (23 : Rat) ^ (2 * vn) = p at d2 hpow hp0
      have z1 : m1 * p ≤ 7 * 148035889 := by
        have a1 := Rat.mul_le_mul_of_nonneg_left hpow hn0
        have a2 := Rat.mul_le_mul_of_nonneg_right hn7 (show (0 : Rat) ≤ 148035889 by grind)
        grind
      have z0 := Rat.mul_nonneg hn0 hp0
      have z2 : 99 * (m1 * (p * 23 * 107)) ≤ 10977009205239 * 23 := by grind
      have z3 : 0 ≤ 99 * (m1 * (p * 23 * 107)) := by grind
      have z4 := Rat.mul_le_mul_of_nonneg_left z2 z3
      have z5 := Rat.mul_le_mul_of_nonneg_right z2 (show (0 : Rat) ≤ 10977009205239 * 23 by grind)
      rw [show ((10977009205239 : Int) : Rat) = 10977009205239 from rfl]
      have z6 : (x * (g * y) * 23) * (x * (g * y) * 23) = (y * x) * (y * x) * (23 * 23) * (g * g) := by grind
      rw [z6, hg1] at d2
      grind
    have := key (by omega) q1
    omega
  · have q1 : (u.toInt : Rat) * (u.toInt : Rat) ≤ ((148035889 : Int) : Rat) * ((148035889 : Int) : Rat) := by
      rw [show ((148035889 : Int) : Rat) = 148035889 from rfl]
      generalize (u.toInt : Rat) = y at d1 ⊢
      generalize pB (bsq 23 (23 * 1) 0) (2 * vn) = P at d1 d3 d4
      have z1 : P ≤ 148035889 := by
        split at d3 <;> grind
      have z2 := Rat.mul_le_mul_of_nonneg_left z1 d4
      have z3 := Rat.mul_le_mul_of_nonneg_right z1 (show (0 : Rat) ≤ 148035889 by grind)
      have z4 : g * y * (g * y) = y * y * (g * g) := by grind
      rw [z4, hg1] at d1
      grind
    have := key (by omega) q1
    omega
