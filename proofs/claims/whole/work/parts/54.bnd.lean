/-! ===== PURE: the tables' determinants are small enough ===== -/
theorem exN_le {q : Rat} (v : Nat → Rat) : ∀ n : Nat, (∀ t, t < n → v t * v t ≤ q) → exN n v ≤ (n : Rat) * q
  | 0, _ => by simp only [exN]; rw [show ((0 : Nat) : Rat) = 0 from rfl]; grind
  | n + 1, h => by
    have h1 := exN_le v n (fun t ht => h t (by omega))
    have h2 := h n (by omega)
    simp only [exN]
    rw [Rat.natCast_add, show ((1 : Nat) : Rat) = 1 from rfl]
    grind
theorem rat_pow_pos {b : Rat} (h : 0 ≤ b) : ∀ k : Nat, 0 ≤ b ^ k
  | 0 => by rw [Rat.pow_zero]; grind
  | k + 1 => by rw [Rat.pow_succ]; exact Rat.mul_nonneg (rat_pow_pos h k) h
/-- all bounds b, but for one -/
def bsq (b y : Rat) (i0 : Nat) : Nat → Rat := fun k => if k = i0 then y else b
theorem pB_le {b g : Rat} (hb : 0 ≤ b) (hg : 1 ≤ g) (i0 : Nat) : ∀ k, pB (bsq b (b * g) i0) k ≤ b ^ k * (if i0 < k then g else 1)
  | 0 => by simp only [pB]; rw [Rat.pow_zero, if_neg (by omega)]; grind
  | k + 1 => by
    have h1 := pB_le hb hg i0 k
    have h2 := rat_pow_pos hb k
    have h3 := pB_pos (b := bsq b (b * g) i0) (fun j => by unfold bsq; split; exact Rat.mul_nonneg hb (by grind); exact hb) k
    simp only [pB]
    rw [Rat.pow_succ]
    by_cases e : k = i0
    · rw [if_neg (by omega)] at h1
      rw [if_pos (by omega), show bsq b (b * g) i0 k = b * g from by simp [bsq, e]]
      have := Rat.mul_le_mul_of_nonneg_right h1 (Rat.mul_nonneg hb (show 0 ≤ g by grind))
      grind
    · rw [show bsq b (b * g) i0 k = b from by simp [bsq, e]]
      have := Rat.mul_le_mul_of_nonneg_right h1 hb
      by_cases q : i0 < k
      · rw [if_pos q] at this; rw [if_pos (by omega)]; grind
      · rw [if_neg q] at this; rw [if_neg (by omega)]; grind
theorem sB_le {b g : Rat} (hb : 0 ≤ b) (hg : 1 ≤ g) (i0 : Nat) : ∀ k : Nat, sB (bsq b (b * g) i0) k * b ≤ (k : Rat) * (b ^ k * (if i0 < k then g else 1))
  | 0 => by simp only [sB]; rw [show ((0 : Nat) : Rat) = 0 from rfl]; grind
  | k + 1 => by
    have h1 := sB_le hb hg i0 k
    have h2 := pB_le hb hg i0 k
    have h3 := rat_pow_pos hb k
    have h4 := Rat.mul_le_mul_of_nonneg_right h2 hb
    simp only [sB]
    rw [Rat.pow_succ, Rat.natCast_add, show ((1 : Nat) : Rat) = 1 from rfl]
    by_cases e : k = i0
    · rw [if_neg (by omega)] at h1 h2 h4
      rw [if_pos (by omega), show bsq b (b * g) i0 k = b * g from by simp [bsq, e]]
      have h5 := Rat.mul_le_mul_of_nonneg_right h1 (Rat.mul_nonneg hb (show 0 ≤ g by grind))
      have h6 := Rat.mul_le_mul_of_nonneg_left hg (Rat.mul_nonneg h3 hb)
      grind
    · rw [show bsq b (b * g) i0 k = b from by simp [bsq, e]]
      have h5 := Rat.mul_le_mul_of_nonneg_right h1 hb
      by_cases q : i0 < k
      · rw [if_pos q] at h1 h2 h4 h5; rw [if_pos (by omega)]; grind
      · rw [if_neg q] at h1 h2 h4 h5; rw [if_neg (by omega)]; grind
theorem exN_un_me (me : Nat) : ∀ n, n ≤ me → exN n (un me) = 0
  | 0, _ => rfl
  | n + 1, h => by
    simp only [exN]
    rw [exN_un_me me n (by omega), show un me n = 0 from by simp [un]; omega]
    grind
theorem exN_un (i : Nat) : ∀ n, exN n (un i) ≤ 1
  | 0 => by simp only [exN]; grind
  | n + 1 => by
    by_cases e : n = i
    · subst e
      simp only [exN]
      rw [exN_un_me n n (Nat.le_refl n), show un n n = 1 from by simp [un]]
      grind
    · have := exN_un i n
      simp only [exN]
      rw [show un i n = 0 from by simp [un, e]]
      grind
/-- the columns within their bounds -/
def ColB (me nw : Nat) (C : Nat → Nat → Int) (b g K : Rat) : Prop := 1 ≤ b ∧ 1 ≤ g ∧ 1 ≤ K ∧ (∀ j, j < nw → exN me (clm C j) ≤ b * b ∧ clm C j me * clm C j me ≤ K * K) ∧ exN me (clm C nw) ≤ (b * g) * (b * g) ∧ clm C nw me * clm C nw me ≤ K * K
theorem ColB_dt {me nw : Nat} {C : Nat → Nat → Int} {b g K : Rat} (H : ColB me nw C b g K) {h : Nat → Option Nat} (hh : ∀ i j, i < me → h i = some j → j < nw) {i j : Nat} (hi : i ≤ me) (hj : j ≤ nw) :
    (i < me → dt (me + 1) (fup (hB me (clm C) h) i (clm C j)) * dt (me + 1) (fup (hB me (clm C) h) i (clm C j)) ≤ (b ^ me * (if j = nw then g else 1)) * (b ^ me * (if j = nw then g else 1))) ∧
    (i = me → (dt (me + 1) (fup (hB me (clm C) h) i (clm C j)) * b) * (dt (me + 1) (fup (hB me (clm C) h) i (clm C j)) * b) ≤ (K * (((me + 1 : Nat) : Rat) * (b ^ (me + 1) * (if j = nw then g else 1)))) * (K * (((me + 1 : Nat) : Rat) * (b ^ (me + 1) * (if j = nw then g else 1))))) := by
  obtain ⟨hb, hg, hK, hcol, hr1, hr2⟩ := H
  have hb0 : 0 ≤ b := by grind
  have hbb : 1 ≤ b * b := by
    have := Rat.mul_le_mul_of_nonneg_left hb hb0
    grind
  -- the bound of the column that is put in
  obtain ⟨y, hy1, hy2, hyN, hyK⟩ : ∃ y : Rat, 1 ≤ y ∧ y = (if j = nw then g else 1) ∧ exN me (clm C j) ≤ (b * y) * (b * y) ∧ clm C j me * clm C j me ≤ K * K := by
    by_cases e : j = nw
    · subst e; exact ⟨g, hg, by simp, hr1, hr2⟩
    · have := hcol j (by omega)
      exact ⟨1, by grind, by simp [e], by grind, this.2⟩
  rw [← hy2]
  have hbs0 : ∀ k, 0 ≤ bsq b (b * y) i k := fun k => by
    unfold bsq; split
    · exact Rat.mul_nonneg hb0 (by grind)
    · exact hb0
  have hN : ∀ k, k < me + 1 → exN me (fup (hB me (clm C) h) i (clm C j) k) ≤ bsq b (b * y) i k * bsq b (b * y) i k := fun k hk => by
    by_cases e : k = i
    · subst e; rw [fup_s, show bsq b (b * y) k k = b * y from by simp [bsq]]; exact hyN
    · rw [fup_n _ _ e, show bsq b (b * y) i k = b from by simp [bsq, e]]
      by_cases q : k < me
      · cases q2 : h k with
        | none => rw [hB_n q2]; have := exN_un k me; grind
        | some j2 => rw [hB_s q q2]; exact (hcol j2 (hh k j2 q q2)).1
      · have : k = me := by omega
        subst this
        rw [hB_m, exN_un_me k k (Nat.le_refl k)]; grind
  refine ⟨fun hi2 => ?_, fun e => ?_⟩
  · have hl : ∀ t, t < me → fup (hB me (clm C) h) i (clm C j) me t = 0 := fun t ht => by
      rw [fup_n _ _ (by omega), hB_m]; simp [un]; omega
    have hl1 : fup (hB me (clm C) h) i (clm C j) me me = 1 := by rw [fup_n _ _ (by omega), hB_m]; simp [un]
    rw [dt_last hl hl1]
    have h1 := dt_b1 hbs0 (fun k hk => hN k (by omega))
    have h2 := pB_le hb0 hy1 i me
    rw [if_pos hi2] at h2
    have h3 := pB_pos hbs0 me
    have h4 := Rat.mul_le_mul_of_nonneg_left h2 h3
    have h5 := Rat.mul_le_mul_of_nonneg_right h2 (show 0 ≤ b ^ me * y from Rat.mul_nonneg (rat_pow_pos hb0 me) (by grind))
    grind
  · subst e
    have hKK : 1 ≤ K * K := by
      have := Rat.mul_le_mul_of_nonneg_left hK (show 0 ≤ K by grind)
      grind
    have h1 := dt_b2 (n := i) (K := K) hbs0 (by grind) hN (fun k hk => by
      by_cases e : k = i
      · subst e; rw [fup_s]; exact hyK
      · rw [fup_n _ _ e]
        cases q2 : h k with
        | none => rw [hB_n q2, show un k i = 0 from by simp [un]; omega]; grind
        | some j2 => rw [hB_s (by omega) q2]; exact (hcol j2 (hh k j2 (by omega) q2)).2)
    have h2 := sB_le hb0 hy1 i (i + 1)
    rw [if_pos (by omega)] at h2
    have h3 := Rat.mul_nonneg (sB_pos hbs0 (i + 1)) hb0
    have h4 := Rat.mul_le_mul_of_nonneg_left h2 (show 0 ≤ K by grind)
    have h5 := Rat.mul_nonneg (show 0 ≤ K by grind) h3
    generalize sB (bsq b (b * y) i) (i + 1) = S at h1 h2 h3 h4 h5
    generalize (((i + 1 : Nat) : Rat) * (b ^ (i + 1) * y)) = Z at h2 h4 ⊢
    generalize dt (i + 1) (fup (hB i (clm C) h) i (clm C j)) = x at h1 ⊢
    have h6 := Rat.mul_le_mul_of_nonneg_left h4 h5
    have h7 := Rat.mul_le_mul_of_nonneg_right h4 (show 0 ≤ K * Z by grind)
    have h8 := Rat.mul_le_mul_of_nonneg_right h1 (show 0 ≤ b * b by grind)
    grind
