/-! ===== PURE: determinants of whole numbers are whole; bounds with the last coordinate apart ===== -/
theorem rq_7 {x : Rat} (h : x * x ≤ 0) : x = 0 := by
  have h2 : x * x = 0 := Rat.le_antisymm h (rq_3 x)
  rcases Rat.mul_eq_zero.mp h2 with q | q <;> exact q
theorem ex_zero : ∀ (n : Nat) (x : Ex n), exP n x x ≤ 0 → x = exZ n
  | 0, x, h => rq_7 h
  | n + 1, x, h => by
    have h1 := exP_pos n x.1
    have h2 := exP_pos n x.2
    have h3 : exP n x.1 x.1 + exP n x.2 x.2 ≤ 0 := h
    have e1 := ex_zero n x.1 (by grind)
    have e2 := ex_zero n x.2 (by grind)
    show (x.1, x.2) = (exZ n, exZ n)
    rw [e1, e2]
theorem ex_cs {n : Nat} {x y : Ex n} {a b : Rat} (ha : 0 < a) (hb : 0 < b) (hx : exP n x x ≤ a * a) (hy : exP n y y ≤ b * b) : exP n x y ≤ a * b := by
  have h1 := exP_pos n (exA n (exS n b x) (exS n (-a) y))
  rw [exP_A, exP_Al, exP_Al, exP_S, exP_S, exP_S, exP_S, exP_Sl, exP_Sl, exP_Sl, exP_Sl, exP_comm n y x] at h1
  have h2 := Rat.mul_le_mul_of_nonneg_left hx (show 0 ≤ b * b by exact rq_3 b)
  have h3 := Rat.mul_le_mul_of_nonneg_left hy (show 0 ≤ a * a by exact rq_3 a)
  have hab := Rat.mul_pos ha hb
  apply Rat.le_of_mul_le_mul_left (c := a * b) _ hab
  grind
theorem ex_tri {n : Nat} {x y : Ex n} {a b : Rat} (ha : 0 ≤ a) (hb : 0 ≤ b) (hx : exP n x x ≤ a * a) (hy : exP n y y ≤ b * b) : exP n (exA n x y) (exA n x y) ≤ (a + b) * (a + b) := by
  by_cases qa : a = 0
  · subst qa
    have e := ex_zero n x (by grind)
    subst e
    rw [exZ_A]; grind
  · by_cases qb : b = 0
    · subst qb
      have e := ex_zero n y (by grind)
      subst e
      rw [exA_Z]; grind
    · have h1 := ex_cs (show 0 < a by grind) (show 0 < b by grind) hx hy
      rw [exP_A, exP_Al, exP_Al, exP_comm n y x]
      grind
theorem ex_sc {n : Nat} {x : Ex n} {k K a : Rat} (hK : k * k ≤ K * K) (hx : exP n x x ≤ a * a) : exP n (exS n k x) (exS n k x) ≤ (K * a) * (K * a) := by
  rw [exP_S, exP_Sl]
  have h1 := Rat.mul_le_mul_of_nonneg_left hx (show 0 ≤ k * k by exact rq_3 k)
  have h2 := Rat.mul_le_mul_of_nonneg_right hK (show 0 ≤ a * a by exact rq_3 a)
  grind
/-- the product of the bounds, and the sum of the products that leave one out -/
def pB (b : Nat → Rat) : Nat → Rat
  | 0 => 1
  | k + 1 => pB b k * b k
def sB (b : Nat → Rat) : Nat → Rat
  | 0 => 0
  | k + 1 => pB b k + sB b k * b k
theorem pB_pos {b : Nat → Rat} (h : ∀ k, 0 ≤ b k) : ∀ k, 0 ≤ pB b k
  | 0 => by simp only [pB]; grind
  | k + 1 => Rat.mul_nonneg (pB_pos h k) (h k)
theorem sB_pos {b : Nat → Rat} (h : ∀ k, 0 ≤ b k) : ∀ k, 0 ≤ sB b k
  | 0 => by simp only [sB]; grind
  | k + 1 => by
    have h1 := Rat.mul_nonneg (sB_pos h k) (h k)
    have h2 := pB_pos h k
    simp only [sB]; grind
theorem exD_fst (n : Nat) (col : Nat → Nat → Rat) : ∀ k, (exD (n + 1) k col).1 = exD n k col
  | 0 => rfl
  | k + 1 => by
    show exW n (col k) (exD (n + 1) k col).1 = exW n (col k) (exD n k col)
    rw [exD_fst n col k]
theorem exD_b {n : Nat} {col : Nat → Nat → Rat} {b : Nat → Rat} (hb : ∀ k, 0 ≤ b k) : ∀ k, (∀ i, i < k → exN n (col i) ≤ b i * b i) → exP n (exD n k col) (exD n k col) ≤ pB b k * pB b k
  | 0, _ => by simp only [exD, pB]; rw [exO_1]; grind
  | k + 1, h => by
    have h1 := exD_b hb k (fun i hi => h i (by omega))
    have h2 := exW_le n (col k) (exD n k col)
    have h3 := h k (by omega)
    have h4 := Rat.mul_le_mul_of_nonneg_right h3 (exP_pos n (exD n k col))
    have h5 := Rat.mul_le_mul_of_nonneg_left h1 (show 0 ≤ b k * b k from rq_3 _)
    simp only [exD, pB]
    grind
theorem exD_s {n : Nat} {col : Nat → Nat → Rat} {b : Nat → Rat} {K : Rat} (hb : ∀ k, 0 ≤ b k) (hK : 0 ≤ K) : ∀ k, (∀ i, i < k → exN n (col i) ≤ b i * b i) → (∀ i, i < k → col i n * col i n ≤ K * K) → exP n (exD (n + 1) k col).2 (exD (n + 1) k col).2 ≤ (K * sB b k) * (K * sB b k)
  | 0, _, _ => by
    show exP n (exZ n) (exZ n) ≤ _
    rw [← exS_0 n (exZ n), exP_S, Rat.zero_mul]
    exact rq_3 _
  | k + 1, h, h9 => by
    have h1 := exD_s hb hK k (fun i hi => h i (by omega)) (fun i hi => h9 i (by omega))
    have h2 := exD_b hb k (fun i hi => h i (by omega))
    have h3 := exW_le n (col k) (exD (n + 1) k col).2
    have h4 := h k (by omega)
    have h5 := Rat.mul_le_mul_of_nonneg_right h4 (exP_pos n (exD (n + 1) k col).2)
    have h6 := Rat.mul_le_mul_of_nonneg_left h1 (show 0 ≤ b k * b k from rq_3 _)
    show exP n (exA n (exS n (col k n) (exD (n + 1) k col).1) (exS n (-1) (exW n (col k) (exD (n + 1) k col).2))) (exA n (exS n (col k n) (exD (n + 1) k col).1) (exS n (-1) (exW n (col k) (exD (n + 1) k col).2))) ≤ _
    rw [exD_fst]
    have h7 := ex_sc (h9 k (by omega)) h2
    have h8 : exP n (exS n (-1) (exW n (col k) (exD (n + 1) k col).2)) (exS n (-1) (exW n (col k) (exD (n + 1) k col).2)) ≤ (K * (sB b k * b k)) * (K * (sB b k * b k)) := by
      rw [exP_S, exP_Sl]
      grind
    have h10 := ex_tri (Rat.mul_nonneg hK (pB_pos hb k)) (Rat.mul_nonneg hK (Rat.mul_nonneg (sB_pos hb k) (hb k))) h7 h8
    have e : K * pB b k + K * (sB b k * b k) = K * sB b (k + 1) := by simp only [sB]; grind
    rw [e] at h10
    exact h10
/-- with the last coordinate's unit column last, it is the determinant of the rest -/
theorem dt_last {n : Nat} {col : Nat → Nat → Rat} (h : ∀ t, t < n → col n t = 0) (h1 : col n n = 1) : dt (n + 1) col = dt n col := by
  unfold dt
  show exT n (exA n (exS n (col n n) (exD (n + 1) n col).1) (exS n (-1) (exW n (col n) (exD (n + 1) n col).2))) = _
  rw [exD_fst, h1, exS_1, exW_low n (col n) h, exS_Z, exA_Z]
theorem dt_b1 {n : Nat} {col : Nat → Nat → Rat} {b : Nat → Rat} (hb : ∀ k, 0 ≤ b k) (h : ∀ i, i < n → exN n (col i) ≤ b i * b i) : dt n col * dt n col ≤ pB b n * pB b n := by
  have h1 := exT_sq n (exD n n col)
  have h2 := exD_b hb n h
  unfold dt
  grind
theorem dt_b2 {n : Nat} {col : Nat → Nat → Rat} {b : Nat → Rat} {K : Rat} (hb : ∀ k, 0 ≤ b k) (hK : 0 ≤ K) (h : ∀ i, i < n + 1 → exN n (col i) ≤ b i * b i) (h9 : ∀ i, i < n + 1 → col i n * col i n ≤ K * K) : dt (n + 1) col * dt (n + 1) col ≤ (K * sB b (n + 1)) * (K * sB b (n + 1)) := by
  have h1 := exT_sq n (exD (n + 1) (n + 1) col).2
  have h2 := exD_s hb hK (n + 1) h h9
  show exT n (exD (n + 1) (n + 1) col).2 * exT n (exD (n + 1) (n + 1) col).2 ≤ _
  grind
/-- whole numbers -/
def isZ (q : Rat) : Prop := ∃ z : Int, q = (z : Rat)
theorem isZ_add {a b : Rat} (h : isZ a) (h2 : isZ b) : isZ (a + b) := by
  obtain ⟨x, rfl⟩ := h; obtain ⟨y, rfl⟩ := h2
  exact ⟨x + y, by rw [Rat.intCast_add]⟩
theorem isZ_mul {a b : Rat} (h : isZ a) (h2 : isZ b) : isZ (a * b) := by
  obtain ⟨x, rfl⟩ := h; obtain ⟨y, rfl⟩ := h2
  exact ⟨x * y, by rw [Rat.intCast_mul]⟩
def exI : (n : Nat) → Ex n → Prop
  | 0, x => isZ x
  | n + 1, x => exI n x.1 ∧ exI n x.2
theorem exI_Z : ∀ n, exI n (exZ n)
  | 0 => ⟨0, rfl⟩
  | n + 1 => ⟨exI_Z n, exI_Z n⟩
theorem exI_O : ∀ n, exI n (exO n)
  | 0 => ⟨1, rfl⟩
  | n + 1 => ⟨exI_O n, exI_Z n⟩
theorem exI_A : ∀ (n : Nat) (x y : Ex n), exI n x → exI n y → exI n (exA n x y)
  | 0, _, _, h, h2 => isZ_add h h2
  | n + 1, x, y, h, h2 => ⟨exI_A n x.1 y.1 h.1 h2.1, exI_A n x.2 y.2 h.2 h2.2⟩
theorem exI_S : ∀ (n : Nat) (a : Rat) (x : Ex n), isZ a → exI n x → exI n (exS n a x)
  | 0, _, _, h, h2 => isZ_mul h h2
  | n + 1, a, x, h, h2 => ⟨exI_S n a x.1 h h2.1, exI_S n a x.2 h h2.2⟩
theorem exI_W : ∀ (n : Nat) (v : Nat → Rat) (x : Ex n), (∀ t, isZ (v t)) → exI n x → exI n (exW n v x)
  | 0, _, _, _, _ => ⟨0, rfl⟩
  | n + 1, v, x, h, h2 => ⟨exI_W n v x.1 h h2.1, exI_A n _ _ (exI_S n _ _ (h n) h2.1) (exI_S n _ _ ⟨-1, by rfl⟩ (exI_W n v x.2 h h2.2))⟩
theorem exI_D (n : Nat) (col : Nat → Nat → Rat) (h : ∀ i t, isZ (col i t)) : ∀ k, exI n (exD n k col)
  | 0 => exI_O n
  | k + 1 => exI_W n _ _ (h k) (exI_D n col h k)
theorem exI_T : ∀ (n : Nat) (x : Ex n), exI n x → isZ (exT n x)
  | 0, _, h => h
  | n + 1, x, h => exI_T n x.2 h.2
theorem dt_int {n : Nat} {col : Nat → Nat → Rat} (h : ∀ i t, isZ (col i t)) : isZ (dt n col) := exI_T n _ (exI_D n col h n)
