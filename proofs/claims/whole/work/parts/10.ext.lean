/-! ===== PURE: exterior algebra over the rationals by pairs; determinants, Cramer's rule, Hadamard's bound ===== -/
theorem rq_1 (x a y : Rat) : x * (a * y) = a * (x * y) := by grind
theorem rq_2 (x y : Rat) : 0 * y = x * 0 := by grind
theorem rq_3 (x : Rat) : (0 : Rat) ≤ x * x := by
  rcases Rat.le_total (a := 0) (b := x) with h | h
  · exact Rat.mul_nonneg h h
  · have : (0 : Rat) ≤ (-x) * (-x) := Rat.mul_nonneg (by grind) (by grind)
    grind
/-- the exterior algebra of n coordinates: x = x.1 + e_n x.2 -/
def Ex : Nat → Type
  | 0 => Rat
  | n + 1 => Ex n × Ex n
def exZ : (n : Nat) → Ex n
  | 0 => (0 : Rat)
  | n + 1 => (exZ n, exZ n)
def exO : (n : Nat) → Ex n
  | 0 => (1 : Rat)
  | n + 1 => (exO n, exZ n)
def exA : (n : Nat) → Ex n → Ex n → Ex n
  | 0, x, y => Rat.add x y
  | n + 1, x, y => (exA n x.1 y.1, exA n x.2 y.2)
def exS : (n : Nat) → Rat → Ex n → Ex n
  | 0, a, x => Rat.mul a x
  | n + 1, a, x => (exS n a x.1, exS n a x.2)
def exP : (n : Nat) → Ex n → Ex n → Rat
  | 0, x, y => Rat.mul x y
  | n + 1, x, y => exP n x.1 y.1 + exP n x.2 y.2
def exW : (n : Nat) → (Nat → Rat) → Ex n → Ex n
  | 0, _, _ => (0 : Rat)
  | n + 1, v, x => (exW n v x.1, exA n (exS n (v n) x.1) (exS n (-1) (exW n v x.2)))
def exC : (n : Nat) → (Nat → Rat) → Ex n → Ex n
  | 0, _, _ => (0 : Rat)
  | n + 1, v, x => (exA n (exC n v x.1) (exS n (v n) x.2), exS n (-1) (exC n v x.2))
def exT : (n : Nat) → Ex n → Rat
  | 0, x => x
  | n + 1, x => exT n x.2
def exN : Nat → (Nat → Rat) → Rat
  | 0, _ => 0
  | n + 1, v => exN n v + v n * v n
theorem exA_comm : ∀ (n : Nat) (x y : Ex n), exA n x y = exA n y x
  | 0, x, y => Rat.add_comm x y
  | n + 1, x, y => by show (_, _) = (_, _); rw [exA_comm n x.1, exA_comm n x.2]
theorem exA_assoc : ∀ (n : Nat) (x y z : Ex n), exA n (exA n x y) z = exA n x (exA n y z)
  | 0, x, y, z => Rat.add_assoc x y z
  | n + 1, x, y, z => by show (_, _) = (_, _); simp only [exA]; rw [exA_assoc n x.1, exA_assoc n x.2]
theorem exA_Z : ∀ (n : Nat) (x : Ex n), exA n x (exZ n) = x
  | 0, x => Rat.add_zero x
  | n + 1, x => by show (_, _) = (x.1, x.2); rw [show (exZ (n+1)).1 = exZ n from rfl, show (exZ (n+1)).2 = exZ n from rfl, exA_Z n, exA_Z n]
theorem exZ_A (n : Nat) (x : Ex n) : exA n (exZ n) x = x := by rw [exA_comm, exA_Z]
theorem exS_A : ∀ (n : Nat) (a : Rat) (x y : Ex n), exS n a (exA n x y) = exA n (exS n a x) (exS n a y)
  | 0, a, x, y => Rat.mul_add a x y
  | n + 1, a, x, y => by show (_, _) = (_, _); simp only [exA]; rw [exS_A n, exS_A n]; rfl
theorem exA_S : ∀ (n : Nat) (a b : Rat) (x : Ex n), exS n (a + b) x = exA n (exS n a x) (exS n b x)
  | 0, a, b, x => Rat.add_mul a b x
  | n + 1, a, b, x => by show (_, _) = (_, _); rw [exA_S n, exA_S n]; rfl
theorem exS_S : ∀ (n : Nat) (a b : Rat) (x : Ex n), exS n a (exS n b x) = exS n (a * b) x
  | 0, a, b, x => (Rat.mul_assoc a b x).symm
  | n + 1, a, b, x => by show (_, _) = (_, _); simp only [exS]; rw [exS_S n, exS_S n]
theorem exS_1 : ∀ (n : Nat) (x : Ex n), exS n 1 x = x
  | 0, x => Rat.one_mul x
  | n + 1, x => by show (_, _) = (x.1, x.2); rw [exS_1 n, exS_1 n]
theorem exS_0 : ∀ (n : Nat) (x : Ex n), exS n 0 x = exZ n
  | 0, x => Rat.zero_mul x
  | n + 1, x => by show (_, _) = (_, _); rw [exS_0 n, exS_0 n]
theorem exS_Z : ∀ (n : Nat) (a : Rat), exS n a (exZ n) = exZ n
  | 0, a => Rat.mul_zero a
  | n + 1, a => by show (_, _) = (_, _); simp only [exZ]; rw [exS_Z n]
/-- four summands, the inner two change places -/
theorem exA_4 (n : Nat) (a b c d : Ex n) : exA n (exA n a b) (exA n c d) = exA n (exA n a c) (exA n b d) := by
  rw [exA_assoc, ← exA_assoc n b c d, exA_comm n b c, exA_assoc n c b d, ← exA_assoc]
theorem exW_A : ∀ (n : Nat) (v : Nat → Rat) (x y : Ex n), exW n v (exA n x y) = exA n (exW n v x) (exW n v y)
  | 0, _, _, _ => (Rat.add_zero 0).symm
  | n + 1, v, x, y => by
    show (_, _) = (_, _)
    simp only [exA, exW]
    rw [exW_A n, exW_A n, exS_A, exS_A, exA_4]
theorem exW_S : ∀ (n : Nat) (v : Nat → Rat) (a : Rat) (x : Ex n), exW n v (exS n a x) = exS n a (exW n v x)
  | 0, _, a, _ => (Rat.mul_zero a).symm
  | n + 1, v, a, x => by
    show (_, _) = (_, _)
    simp only [exS, exW]
    rw [exW_S n, exW_S n, exS_A, exS_S, exS_S, exS_S, exS_S, Rat.mul_comm (v n) a, Rat.mul_comm (-1) a]
theorem exW_Z (n : Nat) (v : Nat → Rat) : exW n v (exZ n) = exZ n := by
  have h := exW_S n v 0 (exZ n)
  rw [exS_0, exS_0] at h
  exact h
theorem exW_Av : ∀ (n : Nat) (v w : Nat → Rat) (x : Ex n), exW n (fun k => v k + w k) x = exA n (exW n v x) (exW n w x)
  | 0, _, _, _ => (Rat.add_zero 0).symm
  | n + 1, v, w, x => by
    show (_, _) = (_, _)
    simp only [exA, exW]
    rw [exW_Av n, exW_Av n, exA_S, exS_A, exA_4]
theorem exW_Sv : ∀ (n : Nat) (a : Rat) (v : Nat → Rat) (x : Ex n), exW n (fun k => a * v k) x = exS n a (exW n v x)
  | 0, a, _, _ => (Rat.mul_zero a).symm
  | n + 1, a, v, x => by
    show (_, _) = (_, _)
    simp only [exS, exW]
    rw [exW_Sv n, exW_Sv n, exS_A, exS_S, exS_S, exS_S, Rat.mul_comm (-1) a]
theorem exA_n (n : Nat) (x : Ex n) : exA n x (exS n (-1) x) = exZ n := by
  have h := exA_S n 1 (-1) x
  rw [show (1 : Rat) + -1 = 0 from by grind, exS_0, exS_1] at h
  exact h.symm
/-- twice the same: nothing -/
theorem exW_2 : ∀ (n : Nat) (v : Nat → Rat) (x : Ex n), exW n v (exW n v x) = exZ n
  | 0, _, _ => rfl
  | n + 1, v, x => by
    show (_, _) = (_, _)
    simp only [exW]
    rw [exW_2 n, exW_A, exW_S, exW_S, exW_2 n, exS_Z, exA_Z, exA_n]
theorem exW_n (n : Nat) (v w : Nat → Rat) (x : Ex n) : exW n v (exW n w x) = exS n (-1) (exW n w (exW n v x)) := by
  have h := exW_2 n (fun k => v k + w k) x
  rw [exW_Av, exW_Av, exW_A, exW_A, exW_2, exW_2, exZ_A, exA_Z] at h
  have h2 : exA n (exA n (exW n w (exW n v x)) (exW n v (exW n w x))) (exS n (-1) (exW n w (exW n v x))) = exA n (exZ n) (exS n (-1) (exW n w (exW n v x))) := by
    rw [exA_comm n (exW n w (exW n v x)), h]
  rw [exZ_A, exA_comm n (exW n w (exW n v x)), exA_assoc, exA_n, exA_Z] at h2
  exact h2
theorem exP_comm : ∀ (n : Nat) (x y : Ex n), exP n x y = exP n y x
  | 0, x, y => Rat.mul_comm x y
  | n + 1, x, y => by simp only [exP]; rw [exP_comm n x.1, exP_comm n x.2]
theorem exP_A : ∀ (n : Nat) (x y z : Ex n), exP n x (exA n y z) = exP n x y + exP n x z
  | 0, x, y, z => Rat.mul_add x y z
  | n + 1, x, y, z => by simp only [exP, exA]; rw [exP_A n, exP_A n]; grind
theorem exP_S : ∀ (n : Nat) (a : Rat) (x y : Ex n), exP n x (exS n a y) = a * exP n x y
  | 0, a, x, y => rq_1 x a y
  | n + 1, a, x, y => by simp only [exP, exS]; rw [exP_S n, exP_S n]; grind
theorem exP_Al (n : Nat) (x y z : Ex n) : exP n (exA n x y) z = exP n x z + exP n y z := by
  rw [exP_comm, exP_A, exP_comm n z x, exP_comm n z y]
theorem exP_Sl (n : Nat) (a : Rat) (x y : Ex n) : exP n (exS n a x) y = a * exP n x y := by
  rw [exP_comm, exP_S, exP_comm n y x]
/-- the two are adjoint -/
theorem exP_W : ∀ (n : Nat) (v : Nat → Rat) (x y : Ex n), exP n (exW n v x) y = exP n x (exC n v y)
  | 0, _, x, y => rq_2 x y
  | n + 1, v, x, y => by
    simp only [exP, exW, exC]
    rw [exP_Al, exP_Sl, exP_Sl, exP_W n, exP_W n, exP_A, exP_S, exP_S]
    grind
theorem exP_WC : ∀ (n : Nat) (v : Nat → Rat) (x : Ex n), exP n (exW n v x) (exW n v x) + exP n (exC n v x) (exC n v x) = exN n v * exP n x x
  | 0, _, x => by show (0 : Rat) * 0 + (0 : Rat) * 0 = 0 * _; grind
  | n + 1, v, x => by
    have h1 := exP_WC n v x.1
    have h2 := exP_WC n v x.2
    have h3 := exP_W n v x.2 x.1
    have h4 := exP_comm n (exW n v x.2) x.1
    have h5 := exP_comm n (exC n v x.1) x.2
    simp only [exP, exW, exC, exN, exP_A, exP_S, exP_Al, exP_Sl]
    grind
theorem exP_pos : ∀ (n : Nat) (x : Ex n), 0 ≤ exP n x x
  | 0, x => rq_3 x
  | n + 1, x => by
    have h1 := exP_pos n x.1
    have h2 := exP_pos n x.2
    simp only [exP]
    grind
theorem exW_le (n : Nat) (v : Nat → Rat) (x : Ex n) : exP n (exW n v x) (exW n v x) ≤ exN n v * exP n x x := by
  have h1 := exP_WC n v x
  have h2 := exP_pos n (exC n v x)
  grind
