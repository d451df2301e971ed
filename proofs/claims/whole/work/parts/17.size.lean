/-! ===== PURE: how large a least support is ===== -/
theorem rq_4 {a x : Rat} (h : 0 < a - x * 0) : 0 < a := by grind
theorem rq_6 {a b i : Rat} (h : b * i = 1) (h2 : 0 < a - a * i * b) : False := by
  have e : a - a * i * b = 0 := by grind
  rw [e] at h2
  exact absurd h2 (by grind)
theorem sz_ct (w : Nat → Rat) : ∀ n, sz w n = ct (fun k => decide (0 < w k)) n
  | 0 => rfl
  | n + 1 => by simp only [sz, ct]; rw [sz_ct w n]; simp
/-- one of least support has one more than there are columns, at most -/
theorem Mn.size {n : Nat} {A : Nat → Nat → Rat} {t : Nat} {w : Nat → Rat} (h : Mn n A t w) : sz w n ≤ t + 1 := by
  apply Classical.byContradiction
  intro q
  obtain ⟨k0, hk0, hp0⟩ := h.2.1
  have h1 := ct_without (P := fun k => decide (0 < w k)) hk0 (by simpa using hp0)
  rw [← sz_ct] at h1
  obtain ⟨c, ⟨i, hi, hci⟩, hcP, hs⟩ := dependP t n (fun k => decide (0 < w k) && !(k == k0)) (by omega) A
  -- one of c, -c has a member above 0
  have key : ∀ u : Nat → Rat, (∃ i, i < n ∧ 0 < u i) → (∀ i, (decide (0 < w i) && !(i == k0)) = false → u i = 0) → (∀ j, j < t → sm n (fun i => u i * A i j) = 0) → False := by
    intro u hu huP hus
    obtain ⟨k, hk, hp, hm⟩ := qmin w u n hu
    have hwk : 0 < w k := by
      apply Classical.byContradiction
      intro q9
      have := huP k (by simp [q9])
      grind
    have hkk : k ≠ k0 := fun e => by
      subst e
      have := huP k (by simp)
      grind
    have hi : 0 < (u k)⁻¹ := Rat.inv_pos.mpr hp
    have hii : u k * (u k)⁻¹ = 1 := Rat.mul_inv_cancel _ (by grind)
    have hr : 0 < w k * (u k)⁻¹ := Rat.mul_pos hwk hi
    have hC : Cn n A t (fun j => w j - w k * (u k)⁻¹ * u j) := by
      refine ⟨fun j hj => ?_, fun j hj => ?_⟩
      · have hw := h.1.1 j hj
        by_cases q : 0 < u j
        · have h1 := hm j hj q
          have h2 := Rat.mul_le_mul_of_nonneg_right h1 (Rat.le_of_lt hi)
          have h3 : w j * u k * (u k)⁻¹ = w j := by rw [Rat.mul_assoc, hii, Rat.mul_one]
          grind
        · have := Rat.mul_nonneg (Rat.le_of_lt hr) (show 0 ≤ -u j by grind)
          grind
      · rw [show sm n (fun i => (w i - w k * (u k)⁻¹ * u i) * A i j) = sm n (fun i => w i * A i j + (-(w k * (u k)⁻¹)) * (u i * A i j)) from sm_congr (fun i _ => by grind), sm_add, sm_mul, h.1.2 j hj, hus j hj]
        grind
    have hz : Nz n (fun j => w j - w k * (u k)⁻¹ * u j) := ⟨k0, hk0, by
      have := huP k0 (by simp)
      show 0 < w k0 - w k * (u k)⁻¹ * u k0
      rw [this]; grind⟩
    have hsub : Sb n (fun j => w j - w k * (u k)⁻¹ * u j) w := fun j hj q9 => by
      apply Classical.byContradiction
      intro q8
      have e1 := huP j (by simp [q8])
      have e2 := h.1.1 j hj
      have q7 : 0 < w j - w k * (u k)⁻¹ * u j := q9
      rw [e1] at q7
      exact q8 (rq_4 q7)
    have q6 : 0 < w k - w k * (u k)⁻¹ * u k := h.2.2 _ hC hz hsub k hk hwk
    exact rq_6 hii q6
  by_cases hpos : ∃ i, i < n ∧ 0 < c i
  · exact key c hpos hcP hs
  · refine key (fun i => -c i) ⟨i, hi, ?_⟩ (fun i hi => ?_) (fun j hj => ?_)
    · have : ¬ 0 < c i := fun q => hpos ⟨i, hi, q⟩
      grind
    · rw [hcP i hi]; grind
    · rw [show sm n (fun i => -c i * A i j) = sm n (fun i => (-1) * (c i * A i j)) from sm_congr (fun i _ => by grind), sm_mul, hs j hj]; grind
