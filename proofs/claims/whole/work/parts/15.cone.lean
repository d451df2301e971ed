/-! ===== PURE: cones of weights, their least supports ===== -/
/-- how many of the places below n are such -/
def ct (P : Nat → Bool) : Nat → Nat
  | 0 => 0
  | n + 1 => ct P n + if P n then 1 else 0
theorem ct_pos {P : Nat → Bool} : ∀ {n : Nat}, 0 < ct P n → ∃ k, k < n ∧ P k = true
  | 0, h => by simp [ct] at h
  | n + 1, h => by
    by_cases q : P n = true
    · exact ⟨n, by omega, q⟩
    · simp [ct, q] at h
      obtain ⟨k, hk, hp⟩ := ct_pos h
      exact ⟨k, by omega, hp⟩
theorem ct_congr {P Q : Nat → Bool} : ∀ {n : Nat}, (∀ k, k < n → P k = Q k) → ct P n = ct Q n
  | 0, _ => rfl
  | n + 1, h => by simp only [ct]; rw [ct_congr (fun k hk => h k (by omega)), h n (by omega)]
/-- without one that is such -/
theorem ct_without {P : Nat → Bool} {i0 : Nat} : ∀ {n : Nat}, i0 < n → P i0 = true → ct P n = ct (fun k => P k && !(k == i0)) n + 1
  | 0, h, _ => by omega
  | n + 1, h, hp => by
    by_cases q : i0 = n
    · subst q
      simp only [ct]
      rw [ct_congr (P := P) (Q := fun k => P k && !(k == i0)) (fun k hk => by simp [show k ≠ i0 by omega])]
      simp [hp]
    · simp only [ct]
      rw [ct_without (by omega) hp]
      simp [show n ≠ i0 from fun e => q e.symm]
      omega
/-- more vectors than places: they depend -/
theorem dependP : ∀ (t n : Nat) (P : Nat → Bool), t < ct P n → ∀ V : Nat → Nat → Rat, ∃ c : Nat → Rat, (∃ i, i < n ∧ c i ≠ 0) ∧ (∀ i, P i = false → c i = 0) ∧ ∀ j, j < t → sm n (fun i => c i * V i j) = 0
  | 0, n, P, h, V => by
    obtain ⟨k, hk, hp⟩ := ct_pos h
    refine ⟨fun i => if i = k then 1 else 0, ⟨k, hk, by simp⟩, fun i hi => ?_, fun j hj => by omega⟩
    by_cases e : i = k
    · subst e; rw [hp] at hi; cases hi
    · simp [e]
  | t + 1, n, P, h, V => by
    by_cases hx : ∃ i, i < n ∧ P i = true ∧ V i t ≠ 0
    · obtain ⟨i0, hi0, hp0, hv⟩ := hx
      have hct := ct_without hi0 hp0
      obtain ⟨c, ⟨i, hi, hci⟩, hcP, hs⟩ := dependP t n (fun k => P k && !(k == i0)) (by omega) (fun i j => V i j - V i t / V i0 t * V i0 j)
      have hc0 : c i0 = 0 := hcP i0 (by simp)
      refine ⟨fun k => if k = i0 then -(sm n (fun i => c i * V i t) / V i0 t) else c k, ⟨i, hi, ?_⟩, fun k hk => ?_, fun j hj => ?_⟩
      · have : i ≠ i0 := fun e => by subst e; exact hci hc0
        simp [this]; exact hci
      · by_cases e : k = i0
        · subst e; rw [hp0] at hk; cases hk
        · simp only [if_neg e]
          exact hcP k (by simp [hk])
      · rw [sm_split hi0 (fun k => c k * V k j) (fun k _ hk => by simp [hk]) (by rw [hc0]; grind)]
        simp only [if_true]
        by_cases q : j = t
        · subst q
          grind
        · have h1 := hs j (by omega)
          rw [show sm n (fun i => c i * (V i j - V i t / V i0 t * V i0 j)) = sm n (fun i => c i * V i j + (-(V i0 j / V i0 t)) * (c i * V i t)) from sm_congr (fun i _ => by grind), sm_add, sm_mul] at h1
          grind
    · obtain ⟨c, hc, hcP, hs⟩ := dependP t n P (by omega) V
      refine ⟨c, hc, hcP, fun j hj => ?_⟩
      by_cases q : j = t
      · subst q
        exact sm_zero (fun i hi => by
          by_cases hp : P i = true
          · have : V i j = 0 := Classical.byContradiction (fun q => hx ⟨i, hi, hp, q⟩)
            rw [this]; grind
          · rw [hcP i (by simpa using hp)]; grind)
      · exact hs j (by omega)
/-- weights of 0 or more that make the first t columns 0 -/
def Cn (n : Nat) (A : Nat → Nat → Rat) (t : Nat) (w : Nat → Rat) : Prop := (∀ k, k < n → 0 ≤ w k) ∧ ∀ j, j < t → sm n (fun k => w k * A k j) = 0
def Nz (n : Nat) (w : Nat → Rat) : Prop := ∃ k, k < n ∧ 0 < w k
def Sb (n : Nat) (w w' : Nat → Rat) : Prop := ∀ k, k < n → 0 < w k → 0 < w' k
/-- of least support -/
def Mn (n : Nat) (A : Nat → Nat → Rat) (t : Nat) (w : Nat → Rat) : Prop := Cn n A t w ∧ Nz n w ∧ ∀ w', Cn n A t w' → Nz n w' → Sb n w' w → Sb n w w'
theorem Sb.tr {n : Nat} {a b c : Nat → Rat} (h : Sb n a b) (h2 : Sb n b c) : Sb n a c := fun k hk q => h2 k hk (h k hk q)
theorem Sb.rf {n : Nat} {a : Nat → Rat} : Sb n a a := fun _ _ q => q
theorem Cn.add {n : Nat} {A : Nat → Nat → Rat} {t : Nat} {w w' : Nat → Rat} (h : Cn n A t w) (h' : Cn n A t w') {a b : Rat} (ha : 0 ≤ a) (hb : 0 ≤ b) : Cn n A t (fun k => a * w k + b * w' k) := by
  refine ⟨fun k hk => ?_, fun j hj => ?_⟩
  · have h1 := Rat.mul_nonneg ha (h.1 k hk)
    have h2 := Rat.mul_nonneg hb (h'.1 k hk)
    grind
  · rw [show sm n (fun k => (a * w k + b * w' k) * A k j) = sm n (fun k => a * (w k * A k j) + b * (w' k * A k j)) from sm_congr (fun k _ => by grind), sm_add, sm_mul, sm_mul, h.2 j hj, h'.2 j hj]
    grind
/-- how many there are -/
def sz (w : Nat → Rat) : Nat → Nat
  | 0 => 0
  | n + 1 => sz w n + if 0 < w n then 1 else 0
theorem sz_le {w w' : Nat → Rat} : ∀ {n : Nat}, Sb n w w' → sz w n ≤ sz w' n
  | 0, _ => Nat.le_refl _
  | n + 1, h => by
    have h1 := sz_le (fun k hk q => h k (by omega) q : Sb n w w')
    have h2 := h n (by omega)
    simp only [sz]
    split
    · rename_i q; rw [if_pos (h2 q)]; omega
    · omega
theorem sz_lt {w w' : Nat → Rat} : ∀ {n : Nat}, Sb n w w' → (∃ k, k < n ∧ 0 < w' k ∧ ¬ 0 < w k) → sz w n < sz w' n
  | 0, _, ⟨k, hk, _⟩ => by omega
  | n + 1, h, ⟨k, hk, h1, h2⟩ => by
    have h3 := sz_le (fun k hk q => h k (by omega) q : Sb n w w')
    have h4 := h n (by omega)
    simp only [sz]
    by_cases q : k = n
    · subst q
      rw [if_neg h2, if_pos h1]; omega
    · have h5 := sz_lt (fun k hk q => h k (by omega) q : Sb n w w') ⟨k, by omega, h1, h2⟩
      split
      · rename_i q; rw [if_pos (h4 q)]; omega
      · omega
/-- the least of a quotient -/
theorem qmin (w w' : Nat → Rat) : ∀ n : Nat, (∃ k, k < n ∧ 0 < w' k) → ∃ k, k < n ∧ 0 < w' k ∧ ∀ j, j < n → 0 < w' j → w k * w' j ≤ w j * w' k
  | 0, ⟨k, hk, _⟩ => by omega
  | n + 1, hx => by
    by_cases hn : ∃ k, k < n ∧ 0 < w' k
    · obtain ⟨k, hk, hp, hm⟩ := qmin w w' n hn
      by_cases hq : 0 < w' n ∧ w n * w' k < w k * w' n
      · refine ⟨n, by omega, hq.1, fun j hj hjp => ?_⟩
        by_cases e : j = n
        · subst e; grind
        · have h1 := hm j (by omega) hjp
          have h2 := Rat.mul_le_mul_of_nonneg_left h1 (Rat.le_of_lt hq.1)
          have h3 := Rat.mul_le_mul_of_nonneg_left (Rat.le_of_lt hq.2) (Rat.le_of_lt hjp)
          have h4 : w' k * (w n * w' j) ≤ w' k * (w j * w' n) := by grind
          exact Rat.le_of_mul_le_mul_left h4 hp
      · refine ⟨k, by omega, hp, fun j hj hjp => ?_⟩
        by_cases e : j = n
        · subst e
          exact Rat.not_lt.mp (fun q => hq ⟨hjp, q⟩)
        · exact hm j (by omega) hjp
    · obtain ⟨k, hk, hp⟩ := hx
      have : k = n := by
        apply Classical.byContradiction
        intro q
        exact hn ⟨k, by omega, hp⟩
      subst this
      exact ⟨k, hk, hp, fun j hj hjp => by
        have : j = k := by
          apply Classical.byContradiction
          intro q
          exact hn ⟨j, by omega, hjp⟩
        subst this; grind⟩
/-- as much of w' as there is in w -/
theorem reduce {n : Nat} {A : Nat → Nat → Rat} {t : Nat} {w w' : Nat → Rat} (h : Cn n A t w) (h' : Cn n A t w') (hz : Nz n w') (hs : Sb n w' w) : ∃ r : Rat, 0 < r ∧ Cn n A t (fun k => w k - r * w' k) ∧ ∃ k, k < n ∧ 0 < w' k ∧ w k - r * w' k = 0 := by
  obtain ⟨k, hk, hp, hm⟩ := qmin w w' n hz
  have hwk := hs k hk hp
  have hi : 0 < (w' k)⁻¹ := Rat.inv_pos.mpr hp
  have hii : w' k * (w' k)⁻¹ = 1 := Rat.mul_inv_cancel _ (by grind)
  refine ⟨w k * (w' k)⁻¹, Rat.mul_pos hwk hi, ⟨fun j hj => ?_, fun j hj => ?_⟩, k, hk, hp, by grind⟩
  · by_cases q : 0 < w' j
    · have h1 := hm j hj q
      have h2 := Rat.mul_le_mul_of_nonneg_right h1 (Rat.le_of_lt hi)
      have h3 : w j * w' k * (w' k)⁻¹ = w j := by rw [Rat.mul_assoc, hii, Rat.mul_one]
      grind
    · have h1 := h'.1 j hj
      have h2 := h.1 j hj
      have h3 : w' j = 0 := by grind
      show 0 ≤ w j - w k * (w' k)⁻¹ * w' j
      rw [h3]; grind
  · rw [show sm n (fun i => (w i - w k * (w' k)⁻¹ * w' i) * A i j) = sm n (fun i => w i * A i j + (-(w k * (w' k)⁻¹)) * (w' i * A i j)) from sm_congr (fun i _ => by grind), sm_add, sm_mul, h.2 j hj, h'.2 j hj]
    grind
/-- there is one of least support within -/
theorem least_sup {n : Nat} {A : Nat → Nat → Rat} {t : Nat} : ∀ (d : Nat) (w : Nat → Rat), sz w n ≤ d → Cn n A t w → Nz n w → ∃ w', Mn n A t w' ∧ Sb n w' w := by
  intro d
  induction d with
  | zero =>
    intro w hd h hz
    obtain ⟨k, hk, hp⟩ := hz
    have := sz_lt (w := fun _ => 0) (w' := w) (n := n) (fun k _ q => by simp at q) ⟨k, hk, hp, by simp⟩
    omega
  | succ d ih =>
    intro w hd h hz
    by_cases hm : ∀ w', Cn n A t w' → Nz n w' → Sb n w' w → Sb n w w'
    · exact ⟨w, ⟨h, hz, hm⟩, Sb.rf⟩
    · obtain ⟨w', q⟩ := Classical.not_forall.mp hm
      have h1 : Cn n A t w' := Classical.byContradiction fun q9 => q fun a => absurd a q9
      have h2 : Nz n w' := Classical.byContradiction fun q9 => q fun _ a => absurd a q9
      have h3 : Sb n w' w := Classical.byContradiction fun q9 => q fun _ _ a => absurd a q9
      have h4 : ¬ Sb n w w' := fun q9 => q fun _ _ _ => q9
      have h5 : ∃ k, k < n ∧ 0 < w k ∧ ¬ 0 < w' k := by
        apply Classical.byContradiction
        intro q9
        exact h4 fun k hk hp => Classical.byContradiction fun q8 => q9 ⟨k, hk, hp, q8⟩
      have h6 := sz_lt h3 h5
      obtain ⟨v, hv, hs⟩ := ih w' (by omega) h1 h2
      exact ⟨v, hv, hs.tr h3⟩
/-- within one of least support there is nothing but itself -/
theorem Mn.prop {n : Nat} {A : Nat → Nat → Rat} {t : Nat} {w w' : Nat → Rat} (h : Mn n A t w) (h' : Cn n A t w') (hz : Nz n w') (hs : Sb n w' w) : ∃ r : Rat, 0 < r ∧ ∀ k, k < n → w k = r * w' k := by
  obtain ⟨r, hr, hc, k, hk, hp, he⟩ := reduce h.1 h' hz hs
  refine ⟨r, hr, ?_⟩
  apply Classical.byContradiction
  intro q
  have hz2 : Nz n (fun k => w k - r * w' k) := by
    apply Classical.byContradiction
    intro q2
    refine q fun j hj => ?_
    have h1 := hc.1 j hj
    have h2 : ¬ 0 < w j - r * w' j := fun q3 => q2 ⟨j, hj, q3⟩
    grind
  have hs2 : Sb n (fun k => w k - r * w' k) w := fun j hj q3 => by
    have h1 := h'.1 j hj
    have h2 := Rat.mul_nonneg (Rat.le_of_lt hr) h1
    grind
  have := h.2.2 _ hc hz2 hs2 k hk (hs k hk hp)
  grind
