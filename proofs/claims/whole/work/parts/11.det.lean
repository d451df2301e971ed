/-! ===== PURE: wedges of columns, determinants ===== -/
/-- col 0 .. col (k-1), wedged -/
def exD (n : Nat) : Nat → (Nat → Nat → Rat) → Ex n
  | 0, _ => exO n
  | k + 1, col => exW n (col k) (exD n k col)
/-- a family with one member put anew -/
def fup {α : Type} (f : Nat → α) (i : Nat) (v : α) : Nat → α := fun j => if j = i then v else f j
theorem fup_s {α : Type} (f : Nat → α) (i : Nat) (v : α) : fup f i v i = v := by simp [fup]
theorem fup_n {α : Type} (f : Nat → α) {i j : Nat} (v : α) (h : j ≠ i) : fup f i v j = f j := by simp [fup, h]
theorem fup_id {α : Type} (f : Nat → α) (i : Nat) : fup f i (f i) = f := by
  funext j; by_cases h : j = i <;> simp [fup, h]
theorem fup_2 {α : Type} (f : Nat → α) (i : Nat) (v w : α) : fup (fup f i v) i w = fup f i w := by
  funext j; by_cases h : j = i <;> simp [fup, h]
theorem exD_congr (n : Nat) : ∀ (k : Nat) (c d : Nat → Nat → Rat), (∀ i, i < k → c i = d i) → exD n k c = exD n k d
  | 0, _, _, _ => rfl
  | k + 1, c, d, h => by
    simp only [exD]
    rw [exD_congr n k c d (fun i hi => h i (by omega)), h k (by omega)]
/-- a member that is among those wedged adds nothing -/
theorem exD_in (n : Nat) (v : Nat → Rat) : ∀ (k : Nat) (c : Nat → Nat → Rat) (i : Nat), i < k → c i = v → exW n v (exD n k c) = exZ n
  | 0, _, _, h, _ => by omega
  | k + 1, c, i, h, e => by
    simp only [exD]
    by_cases hk : i = k
    · subst hk
      rw [e, exW_2]
    · rw [exW_n, exD_in n v k c i (by omega) e, exW_Z, exS_Z]
theorem exD_same (n : Nat) : ∀ (k : Nat) (c : Nat → Nat → Rat) (i j : Nat), i < j → j < k → c i = c j → exD n k c = exZ n
  | 0, _, _, _, _, h, _ => by omega
  | k + 1, c, i, j, hij, h, e => by
    simp only [exD]
    by_cases hk : j = k
    · subst hk
      exact exD_in n (c j) j c i hij e
    · rw [exD_same n k c i j hij (by omega) e, exW_Z]
theorem exD_add (n : Nat) (i : Nat) (v w : Nat → Rat) : ∀ (k : Nat) (c : Nat → Nat → Rat), i < k → exD n k (fup c i (fun t => v t + w t)) = exA n (exD n k (fup c i v)) (exD n k (fup c i w))
  | 0, _, h => by omega
  | k + 1, c, h => by
    simp only [exD]
    by_cases hk : i = k
    · subst hk
      rw [fup_s, fup_s, fup_s, exW_Av]
      rw [exD_congr n i (fup c i (fun t => v t + w t)) c (fun j hj => fup_n _ _ (by omega)), exD_congr n i (fup c i v) c (fun j hj => fup_n _ _ (by omega)), exD_congr n i (fup c i w) c (fun j hj => fup_n _ _ (by omega))]
    · rw [exD_add n i v w k c (by omega), exW_A, fup_n _ _ (fun q => hk q.symm), fup_n _ _ (fun q => hk q.symm), fup_n _ _ (fun q => hk q.symm)]
theorem exD_smul (n : Nat) (i : Nat) (a : Rat) (v : Nat → Rat) : ∀ (k : Nat) (c : Nat → Nat → Rat), i < k → exD n k (fup c i (fun t => a * v t)) = exS n a (exD n k (fup c i v))
  | 0, _, h => by omega
  | k + 1, c, h => by
    simp only [exD]
    by_cases hk : i = k
    · subst hk
      rw [fup_s, fup_s, exW_Sv]
      rw [exD_congr n i (fup c i (fun t => a * v t)) c (fun j hj => fup_n _ _ (by omega)), exD_congr n i (fup c i v) c (fun j hj => fup_n _ _ (by omega))]
    · rw [exD_smul n i a v k c (by omega), exW_S, fup_n _ _ (fun q => hk q.symm), fup_n _ _ (fun q => hk q.symm)]
theorem exT_A : ∀ (n : Nat) (x y : Ex n), exT n (exA n x y) = exT n x + exT n y
  | 0, _, _ => rfl
  | n + 1, x, y => exT_A n x.2 y.2
theorem exT_S : ∀ (n : Nat) (a : Rat) (x : Ex n), exT n (exS n a x) = a * exT n x
  | 0, _, _ => rfl
  | n + 1, a, x => exT_S n a x.2
theorem exT_Z : ∀ (n : Nat), exT n (exZ n) = 0
  | 0 => rfl
  | n + 1 => exT_Z n
theorem exT_sq : ∀ (n : Nat) (x : Ex n), exT n x * exT n x ≤ exP n x x
  | 0, x => Rat.le_refl (a := Rat.mul x x)
  | n + 1, x => by
    have h1 := exT_sq n x.2
    have h2 := exP_pos n x.1
    simp only [exP, exT]
    grind
/-- the determinant of the columns 0 .. n-1 -/
def dt (n : Nat) (c : Nat → Nat → Rat) : Rat := exT n (exD n n c)
theorem dt_congr {n : Nat} {c d : Nat → Nat → Rat} (h : ∀ i, i < n → c i = d i) : dt n c = dt n d := by
  unfold dt; rw [exD_congr n n c d h]
theorem dt_add {n : Nat} {c : Nat → Nat → Rat} {i : Nat} (h : i < n) (v w : Nat → Rat) : dt n (fup c i (fun t => v t + w t)) = dt n (fup c i v) + dt n (fup c i w) := by
  unfold dt; rw [exD_add n i v w n c h, exT_A]
theorem dt_smul {n : Nat} {c : Nat → Nat → Rat} {i : Nat} (h : i < n) (a : Rat) (v : Nat → Rat) : dt n (fup c i (fun t => a * v t)) = a * dt n (fup c i v) := by
  unfold dt; rw [exD_smul n i a v n c h, exT_S]
theorem dt_same {n : Nat} {c : Nat → Nat → Rat} {i j : Nat} (hi : i < n) (hj : j < n) (hij : i ≠ j) (e : c i = c j) : dt n c = 0 := by
  unfold dt
  rcases Nat.lt_or_gt_of_ne hij with h | h
  · rw [exD_same n n c i j h hj e, exT_Z]
  · rw [exD_same n n c j i h hi e.symm, exT_Z]
/-- a sum of the first k members -/
def sm : Nat → (Nat → Rat) → Rat
  | 0, _ => 0
  | k + 1, f => sm k f + f k
theorem dt_zero {n : Nat} {c : Nat → Nat → Rat} {i : Nat} (h : i < n) : dt n (fup c i (fun _ => 0)) = 0 := by
  have := dt_smul (c := c) h 0 (fun _ => 0)
  simp only [Rat.zero_mul] at this
  exact this
theorem dt_sum {n : Nat} {c : Nat → Nat → Rat} {i : Nat} (h : i < n) (x : Nat → Rat) (w : Nat → Nat → Rat) : ∀ k, dt n (fup c i (fun t => sm k (fun a => x a * w a t))) = sm k (fun a => x a * dt n (fup c i (w a)))
  | 0 => dt_zero h
  | k + 1 => by
    simp only [sm]
    rw [dt_add h, dt_sum h x w k, dt_smul h]
theorem sm_congr {f g : Nat → Rat} : ∀ {k : Nat}, (∀ i, i < k → f i = g i) → sm k f = sm k g
  | 0, _ => rfl
  | k + 1, h => by simp only [sm]; rw [sm_congr (fun i hi => h i (by omega)), h k (by omega)]
theorem sm_zero {f : Nat → Rat} : ∀ {k : Nat}, (∀ i, i < k → f i = 0) → sm k f = 0
  | 0, _ => rfl
  | k + 1, h => by simp only [sm]; rw [sm_zero (fun i hi => h i (by omega)), h k (by omega)]; exact Rat.add_zero 0
theorem sm_one {f : Nat → Rat} {i : Nat} : ∀ {k : Nat}, i < k → (∀ j, j < k → j ≠ i → f j = 0) → sm k f = f i
  | 0, h, _ => by omega
  | k + 1, h, h2 => by
    simp only [sm]
    by_cases hk : i = k
    · subst hk
      rw [sm_zero (fun j hj => h2 j (by omega) (by omega))]
      exact Rat.zero_add _
    · rw [sm_one (by omega) (fun j hj hn => h2 j (by omega) hn), h2 k (by omega) (fun q => hk q.symm)]
      exact Rat.add_zero _
/-- Cramer's rule -/
theorem dt_cramer {n : Nat} {c : Nat → Nat → Rat} {i : Nat} (h : i < n) (x : Nat → Rat) : dt n (fup c i (fun t => sm n (fun a => x a * c a t))) = x i * dt n c := by
  rw [dt_sum h x c n, sm_one h, fup_id]
  intro j hj hn
  rw [dt_same (i := i) (j := j) h hj (fun q => hn q.symm), Rat.mul_zero]
  rw [fup_s, fup_n _ _ hn]
/-- the unit columns -/
def un (i : Nat) : Nat → Rat := fun t => if t = i then 1 else 0
theorem exW_low : ∀ (n : Nat) (v : Nat → Rat), (∀ t, t < n → v t = 0) → ∀ x : Ex n, exW n v x = exZ n
  | 0, _, _, _ => rfl
  | n + 1, v, h, x => by
    show (exW n v x.1, exA n (exS n (v n) x.1) (exS n (-1) (exW n v x.2))) = (exZ n, exZ n)
    rw [exW_low n v (fun t ht => h t (by omega)), exW_low n v (fun t ht => h t (by omega)), h n (by omega), exS_0, exS_Z, exA_Z]
theorem exD_low (n : Nat) : ∀ (k : Nat) (c : Nat → Nat → Rat), (∀ i, i < k → c i n = 0) → exD (n + 1) k c = (exD n k c, exZ n)
  | 0, _, _ => rfl
  | k + 1, c, h => by
    simp only [exD]
    rw [exD_low n k c (fun i hi => h i (by omega))]
    show (_, _) = (_, _)
    simp only
    rw [h k (by omega), exS_0, exW_Z, exS_Z, exA_Z]
theorem dt_un : ∀ n, dt n un = 1
  | 0 => rfl
  | n + 1 => by
    unfold dt
    simp only [exD]
    rw [exD_low n n un (fun i hi => by simp [un]; omega)]
    show exT n (exA n (exS n (un n n) (exD n n un)) (exS n (-1) (exW n (un n) (exZ n)))) = 1
    rw [exW_Z, exS_Z, exA_Z, exT_S, show un n n = 1 from by simp [un], Rat.one_mul]
    exact dt_un n
/-- the product of the squared lengths -/
def pN (n : Nat) : Nat → (Nat → Nat → Rat) → Rat
  | 0, _ => 1
  | k + 1, c => exN n (c k) * pN n k c
theorem exN_pos : ∀ (n : Nat) (v : Nat → Rat), 0 ≤ exN n v
  | 0, _ => by show (0 : Rat) ≤ 0; grind
  | n + 1, v => by
    have h1 := exN_pos n v
    have h2 : (0 : Rat) ≤ v n * v n := exP_pos 0 (v n)
    simp only [exN]
    grind
theorem exO_1 : ∀ n, exP n (exO n) (exO n) = 1
  | 0 => by show (1 : Rat) * 1 = 1; grind
  | n + 1 => by
    simp only [exP, exO]
    rw [exO_1 n, show exP n (exZ n) (exZ n) = 0 from by rw [← exS_0 n (exZ n), exP_S, Rat.zero_mul]]
    exact Rat.add_zero 1
theorem exD_le (n : Nat) : ∀ (k : Nat) (c : Nat → Nat → Rat), exP n (exD n k c) (exD n k c) ≤ pN n k c
  | 0, _ => by simp only [exD, pN]; rw [exO_1]; grind
  | k + 1, c => by
    have h1 := exD_le n k c
    have h2 := exW_le n (c k) (exD n k c)
    have h3 := exN_pos n (c k)
    simp only [exD, pN]
    have h4 := Rat.mul_le_mul_of_nonneg_left h1 h3
    grind
/-- Hadamard's bound -/
theorem dt_had (n : Nat) (c : Nat → Nat → Rat) : dt n c * dt n c ≤ pN n n c := by
  have h1 := exT_sq n (exD n n c)
  have h2 := exD_le n n c
  unfold dt
  grind
