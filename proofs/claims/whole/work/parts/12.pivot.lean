/-! ===== PURE: sums; coordinates in a basis; one exchange ===== -/
theorem sm_add (f g : Nat → Rat) : ∀ k, sm k (fun i => f i + g i) = sm k f + sm k g
  | 0 => by simp only [sm]; grind
  | k + 1 => by simp only [sm]; rw [sm_add f g k]; grind
theorem sm_mul (a : Rat) (f : Nat → Rat) : ∀ k, sm k (fun i => a * f i) = a * sm k f
  | 0 => by simp only [sm]; grind
  | k + 1 => by simp only [sm]; rw [sm_mul a f k]; grind
theorem sm_mulr (a : Rat) (f : Nat → Rat) (k : Nat) : sm k (fun i => f i * a) = sm k f * a := by
  rw [Rat.mul_comm, ← sm_mul]; exact sm_congr (fun i _ => Rat.mul_comm _ _)
theorem sm_sub (f g : Nat → Rat) (k : Nat) : sm k (fun i => f i - g i) = sm k f - sm k g := by
  have h : sm k (fun i => f i - g i) = sm k (fun i => f i + (-1) * g i) := sm_congr (fun i _ => by grind)
  rw [h, sm_add, sm_mul]; grind
theorem sm_swap (f : Nat → Nat → Rat) (b : Nat) : ∀ a, sm a (fun i => sm b (fun j => f i j)) = sm b (fun j => sm a (fun i => f i j))
  | 0 => by simp only [sm]; exact (sm_zero (fun _ _ => rfl)).symm
  | a + 1 => by simp only [sm]; rw [sm_swap f b a, ← sm_add]
theorem sm_nonneg {f : Nat → Rat} : ∀ {k : Nat}, (∀ i, i < k → 0 ≤ f i) → 0 ≤ sm k f
  | 0, _ => by simp only [sm]; grind
  | k + 1, h => by
    have h1 := sm_nonneg (fun i hi => h i (by omega) : ∀ i, i < k → 0 ≤ f i)
    have h2 := h k (by omega)
    simp only [sm]; grind
theorem sm_le {f g : Nat → Rat} : ∀ {k : Nat}, (∀ i, i < k → f i ≤ g i) → sm k f ≤ sm k g
  | 0, _ => by simp only [sm]; grind
  | k + 1, h => by
    have h1 := sm_le (fun i hi => h i (by omega) : ∀ i, i < k → f i ≤ g i)
    have h2 := h k (by omega)
    simp only [sm]; grind
/-- nothing but zeros, where a sum of what is 0 or more is 0 -/
theorem sm_nil {f : Nat → Rat} : ∀ {k : Nat}, (∀ i, i < k → 0 ≤ f i) → sm k f ≤ 0 → ∀ i, i < k → f i = 0
  | 0, _, _, _, hi => by omega
  | k + 1, h, h0, i, hi => by
    have h1 := sm_nonneg (fun j hj => h j (by omega) : ∀ j, j < k → 0 ≤ f j)
    have h2 := h k (by omega)
    simp only [sm] at h0
    by_cases hk : i = k
    · subst hk; grind
    · exact sm_nil (k := k) (fun j hj => h j (by omega)) (by grind) i (by omega)
theorem sm_split {f : Nat → Rat} {r k : Nat} (h : r < k) (g : Nat → Rat) (hg : ∀ i, i < k → i ≠ r → g i = f i) (h0 : g r = 0) : sm k f = sm k g + f r := by
  have h1 : sm k f = sm k (fun i => g i + if i = r then f r else 0) := sm_congr (fun i hi => by
    by_cases e : i = r
    · subst e; simp [h0]; grind
    · simp [e, hg i hi e]; grind)
  rw [h1, sm_add, sm_one (f := fun i => if i = r then f r else 0) h (fun j _ hj => by simp [hj])]
  simp
/-- the coordinates of v -/
def cd (D : Nat) (R : Nat → Nat → Rat) (v : Nat → Rat) (i : Nat) : Rat := sm D (fun k => R i k * v k)
theorem cd_add (D : Nat) (R : Nat → Nat → Rat) (v w : Nat → Rat) (i : Nat) : cd D R (fun t => v t + w t) i = cd D R v i + cd D R w i := by
  unfold cd; rw [← sm_add]; exact sm_congr (fun k _ => by grind)
theorem cd_smul (D : Nat) (R : Nat → Nat → Rat) (a : Rat) (v : Nat → Rat) (i : Nat) : cd D R (fun t => a * v t) i = a * cd D R v i := by
  unfold cd; rw [← sm_mul]; exact sm_congr (fun k _ => by grind)
theorem cd_sum (D : Nat) (R : Nat → Nat → Rat) (x : Nat → Rat) (w : Nat → Nat → Rat) (i : Nat) (k : Nat) : cd D R (fun t => sm k (fun a => x a * w a t)) i = sm k (fun a => x a * cd D R (w a) i) := by
  unfold cd
  have h1 : sm D (fun t => R i t * sm k (fun a => x a * w a t)) = sm D (fun t => sm k (fun a => x a * (R i t * w a t))) := sm_congr (fun t _ => by
    rw [← sm_mul]; exact sm_congr (fun a _ => by grind))
  rw [h1, sm_swap]
  exact sm_congr (fun a _ => by rw [sm_mul])
theorem cd_congr {D : Nat} {R : Nat → Nat → Rat} {v w : Nat → Rat} (h : ∀ t, t < D → v t = w t) (i : Nat) : cd D R v i = cd D R w i := by
  unfold cd; exact sm_congr (fun k hk => by rw [h k hk])
theorem cd_un {D : Nat} {R : Nat → Nat → Rat} {i k : Nat} (hk : k < D) : cd D R (un k) i = R i k := by
  unfold cd
  rw [sm_one hk (fun j _ hj => by simp [un, hj])]
  simp [un]
/-- R gives the coordinates in the columns B -/
def Bs (D : Nat) (B R : Nat → Nat → Rat) : Prop :=
  (∀ (v : Nat → Rat) (t : Nat), t < D → sm D (fun i => cd D R v i * B i t) = v t) ∧ (∀ i j : Nat, i < D → j < D → cd D R (B j) i = if i = j then 1 else 0)
/-- the exchange of column r for w -/
def pv (D : Nat) (R : Nat → Nat → Rat) (r : Nat) (w : Nat → Rat) : Nat → Nat → Rat := fun i k => if i = r then R r k / cd D R w r else R i k - cd D R w i / cd D R w r * R r k
theorem pv_r (D : Nat) (R : Nat → Nat → Rat) (r : Nat) (w v : Nat → Rat) : cd D (pv D R r w) v r = cd D R v r / cd D R w r := by
  have h : cd D (pv D R r w) v r = sm D (fun k => (1 / cd D R w r) * (R r k * v k)) := by
    show sm D _ = _
    exact sm_congr (fun k _ => by simp only [pv, if_true]; grind)
  rw [h, sm_mul]
  show _ * cd D R v r = _
  grind
theorem pv_o (D : Nat) (R : Nat → Nat → Rat) {r i : Nat} (hi : i ≠ r) (w v : Nat → Rat) : cd D (pv D R r w) v i = cd D R v i - cd D R w i / cd D R w r * cd D R v r := by
  have h : cd D (pv D R r w) v i = sm D (fun k => R i k * v k + (-(cd D R w i / cd D R w r)) * (R r k * v k)) := by
    show sm D _ = _
    exact sm_congr (fun k _ => by simp only [pv, if_neg hi]; grind)
  rw [h, sm_add, sm_mul]
  show cd D R v i + _ * cd D R v r = _
  grind
theorem Bs_un (D : Nat) : Bs D un un := by
  have hc : ∀ (v : Nat → Rat) (i : Nat), i < D → cd D un v i = v i := fun v i hi => by
    unfold cd
    rw [sm_one hi (fun j _ hj => by simp [un, hj])]
    simp [un]
  refine ⟨fun v t ht => ?_, fun i j hi hj => ?_⟩
  · rw [sm_one ht (fun j hj hn => by rw [hc v j hj]; show v j * (if t = j then 1 else 0) = 0; rw [if_neg (fun q : t = j => hn q.symm)]; exact Rat.mul_zero _)]
    rw [hc v t ht]; simp [un]
  · rw [hc _ i hi]; simp [un]
theorem Bs_pv {D : Nat} {B R : Nat → Nat → Rat} (h : Bs D B R) {r : Nat} (hr : r < D) {w : Nat → Rat} (hp : cd D R w r ≠ 0) : Bs D (fup B r w) (pv D R r w) := by
  obtain ⟨h1, h2⟩ := h
  refine ⟨fun v t ht => ?_, fun i j hi hj => ?_⟩
  · have hv := h1 v t ht
    have hw := h1 w t ht
    rw [sm_split hr (fun i => if i = r then 0 else (cd D R v i - cd D R w i / cd D R w r * cd D R v r) * B i t) (fun i _ hn => by simp only [if_neg hn]; rw [pv_o D R hn, fup_n _ _ hn]) (by simp)]
    rw [pv_r, fup_s]
    rw [sm_split hr (fun i => if i = r then 0 else cd D R v i * B i t) (fun i _ hn => by simp [hn]) (by simp)] at hv
    rw [sm_split hr (fun i => if i = r then 0 else cd D R w i * B i t) (fun i _ hn => by simp [hn]) (by simp)] at hw
    have hs : sm D (fun i => if i = r then 0 else (cd D R v i - cd D R w i / cd D R w r * cd D R v r) * B i t) = sm D (fun i => (if i = r then 0 else cd D R v i * B i t) + (-(cd D R v r / cd D R w r)) * (if i = r then 0 else cd D R w i * B i t)) := sm_congr (fun i _ => by
      by_cases e : i = r
      · simp [e]; grind
      · simp only [if_neg e]; grind)
    rw [hs, sm_add, sm_mul]
    generalize sm D (fun i => if i = r then 0 else cd D R v i * B i t) = sv at hv ⊢
    generalize sm D (fun i => if i = r then 0 else cd D R w i * B i t) = sw at hw ⊢
    generalize cd D R v r = a at hv ⊢
    generalize cd D R w r = p at hw hp ⊢
    generalize B r t = x at hv hw ⊢
    rw [← hv, ← hw]
    grind
  · by_cases ej : j = r
    · subst ej
      rw [fup_s]
      by_cases ei : i = j
      · subst ei
        rw [pv_r]; simp; grind
      · rw [pv_o D R ei, if_neg ei]; grind
    · rw [fup_n _ _ ej]
      have hz := h2 r j hr hj
      rw [if_neg (fun q : r = j => ej q.symm)] at hz
      by_cases ei : i = r
      · subst ei
        rw [pv_r, hz, if_neg (fun q : i = j => ej q.symm)]; grind
      · rw [pv_o D R ei, hz, h2 i j hi hj]; grind
/-- a cell is a determinant: that with its column in the basis, over that of the basis -/
theorem dt_cd {D : Nat} {B R : Nat → Nat → Rat} (h : Bs D B R) {i : Nat} (hi : i < D) (v : Nat → Rat) : dt D (fup B i v) = cd D R v i * dt D B := by
  rw [← dt_cramer hi (cd D R v)]
  unfold dt
  have key : ∀ v w : Nat → Rat, (∀ t, t < D → v t = w t) → ∀ (k : Nat) (c : Nat → Nat → Rat), exD D k (fup c i v) = exD D k (fup c i w) := by
    intro v w e k c
    have hW : ∀ (n : Nat) (v w : Nat → Rat), (∀ t, t < n → v t = w t) → ∀ x : Ex n, exW n v x = exW n w x := by
      intro n
      induction n with
      | zero => intro _ _ _ _; rfl
      | succ n ih =>
        intro v w e x
        show (exW n v x.1, exA n (exS n (v n) x.1) (exS n (-1) (exW n v x.2))) = (exW n w x.1, exA n (exS n (w n) x.1) (exS n (-1) (exW n w x.2)))
        rw [ih v w (fun t ht => e t (by omega)), ih v w (fun t ht => e t (by omega)), e n (by omega)]
    induction k with
    | zero => rfl
    | succ k ih =>
      simp only [exD]
      rw [ih]
      by_cases hk : k = i
      · subst hk; rw [fup_s, fup_s]; exact hW D v w e _
      · rw [fup_n _ _ hk, fup_n _ _ hk]
  rw [key v (fun t => sm D (fun a => cd D R v a * B a t)) (fun t ht => (h.1 v t ht).symm)]
