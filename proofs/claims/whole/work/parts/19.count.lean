/-! ===== PURE: how many of least support there are ===== -/
/-- the space of the weights of any sign -/
def Ks (n : Nat) (A : Nat → Nat → Rat) (t : Nat) (w : Nat → Rat) : Prop := ∀ j, j < t → sm n (fun k => w k * A k j) = 0
theorem Ks.lin {n : Nat} {A : Nat → Nat → Rat} {t : Nat} {w w' : Nat → Rat} (h : Ks n A t w) (h' : Ks n A t w') (a b : Rat) : Ks n A t (fun k => a * w k + b * w' k) := fun j hj => by
  rw [show sm n (fun k => (a * w k + b * w' k) * A k j) = sm n (fun k => a * (w k * A k j) + b * (w' k * A k j)) from sm_congr (fun k _ => by grind), sm_add, sm_mul, sm_mul, h j hj, h' j hj]
  grind
theorem Ks.sum {n : Nat} {A : Nat → Nat → Rat} {t : Nat} {x : Nat → Rat} {w : Nat → Nat → Rat} {c : Nat} (h : ∀ r, r < c → x r ≠ 0 → Ks n A t (w r)) : Ks n A t (fun k => sm c (fun r => x r * w r k)) := fun j hj => by
  rw [show sm n (fun k => sm c (fun r => x r * w r k) * A k j) = sm n (fun k => sm c (fun r => x r * (w r k * A k j))) from sm_congr (fun k _ => by rw [← sm_mulr]; exact sm_congr (fun r _ => by grind)), sm_swap]
  refine sm_zero (fun r hr => ?_)
  rw [sm_mul]
  by_cases q : x r = 0
  · rw [q]; grind
  · rw [h r hr q j hj]; grind
/-- within a least support there is nothing else, of any sign -/
theorem Mn.propK {n : Nat} {A : Nat → Nat → Rat} {t : Nat} {w v : Nat → Rat} (h : Mn n A t w) (hv : Ks n A t v) (hs : ∀ k, k < n → ¬ 0 < w k → v k = 0) : ∃ a : Rat, ∀ k, k < n → v k = a * w k := by
  have key : ∀ u : Nat → Rat, Ks n A t u → (∀ k, k < n → ¬ 0 < w k → u k = 0) → (∃ i, i < n ∧ 0 < u i) → ∃ a : Rat, ∀ k, k < n → u k = a * w k := by
    intro u hu hus hup
    obtain ⟨k, hk, hp, hm⟩ := qmin w u n hup
    have hwk : 0 < w k := by
      apply Classical.byContradiction
      intro q9
      have := hus k hk q9
      grind
    have hi : 0 < (u k)⁻¹ := Rat.inv_pos.mpr hp
    have hii : u k * (u k)⁻¹ = 1 := Rat.mul_inv_cancel _ (by grind)
    have hr : 0 < w k * (u k)⁻¹ := Rat.mul_pos hwk hi
    have hC : Cn n A t (fun j => w j - w k * (u k)⁻¹ * u j) := by
      refine ⟨fun j hj => ?_, fun j hj => ?_⟩
      · have hw := h.1.1 j hj
        by_cases q : 0 < u j
        · have h1 := hm j hj q
          have h2 := Rat.mul_le_mul_of_nonneg_right h1 (Rat.le_of_lt hi)
          have h3 : w j * u k * (u k)⁻¹ = w j := by rw [Rat.mul_assoc, hii, Rat.mul_one]
          grind
        · have := Rat.mul_nonneg (Rat.le_of_lt hr) (show 0 ≤ -u j by grind)
          grind
      · rw [show sm n (fun i => (w i - w k * (u k)⁻¹ * u i) * A i j) = sm n (fun i => w i * A i j + (-(w k * (u k)⁻¹)) * (u i * A i j)) from sm_congr (fun i _ => by grind), sm_add, sm_mul, h.1.2 j hj, hu j hj]
        grind
    have hsub : Sb n (fun j => w j - w k * (u k)⁻¹ * u j) w := fun j hj q9 => by
      apply Classical.byContradiction
      intro q8
      have e1 := hus j hj q8
      have q7 : 0 < w j - w k * (u k)⁻¹ * u j := q9
      rw [e1] at q7
      exact q8 (rq_4 q7)
    by_cases hz : Nz n (fun j => w j - w k * (u k)⁻¹ * u j)
    · have q6 : 0 < w k - w k * (u k)⁻¹ * u k := h.2.2 _ hC hz hsub k hk hwk
      exact (rq_6 hii q6).elim
    · refine ⟨(w k * (u k)⁻¹)⁻¹, fun j hj => ?_⟩
      have h1 : 0 ≤ w j - w k * (u k)⁻¹ * u j := hC.1 j hj
      have h2 : ¬ 0 < w j - w k * (u k)⁻¹ * u j := fun q => hz ⟨j, hj, q⟩
      have h3 : w j = w k * (u k)⁻¹ * u j := by grind
      have h4 : (w k * (u k)⁻¹) * (w k * (u k)⁻¹)⁻¹ = 1 := Rat.mul_inv_cancel _ (by grind)
      rw [h3]
      generalize w k * (u k)⁻¹ = x at h4 ⊢
      grind
  by_cases hp : ∃ i, i < n ∧ 0 < v i
  · exact key v hv hs hp
  · by_cases hp2 : ∃ i, i < n ∧ 0 < -v i
    · obtain ⟨a, ha⟩ := key (fun k => -v k) (fun j hj => by
        rw [show sm n (fun k => -v k * A k j) = sm n (fun k => (-1) * (v k * A k j)) from sm_congr (fun k _ => by grind), sm_mul, hv j hj]; grind) (fun k hk q => by rw [hs k hk q]; grind) hp2
      exact ⟨-a, fun k hk => by have := ha k hk; grind⟩
    · exact ⟨0, fun k hk => by
        have h1 : ¬ 0 < v k := fun q => hp ⟨k, hk, q⟩
        have h2 : ¬ 0 < -v k := fun q => hp2 ⟨k, hk, q⟩
        grind⟩
/-- places outside the support of w that tell the space's vectors apart, but for multiples of w; each may be moved alone -/
def Cob (n : Nat) (A : Nat → Nat → Rat) (t : Nat) (w : Nat → Rat) (N : Nat → Bool) (dl : Nat → Nat → Rat) : Prop :=
  (∀ k, N k = true → k < n ∧ w k = 0) ∧ (∀ k, N k = true → Ks n A t (dl k) ∧ ∀ k', N k' = true → dl k k' = if k' = k then 1 else 0) ∧
  ∀ v, Ks n A t v → (∀ k, N k = true → v k = 0) → ∃ a : Rat, ∀ k, k < n → v k = a * w k
theorem ct_le (P : Nat → Bool) : ∀ n, ct P n ≤ n
  | 0 => Nat.le_refl _
  | n + 1 => by have := ct_le P n; simp only [ct]; split <;> omega
theorem Mn.cob {n : Nat} {A : Nat → Nat → Rat} {t : Nat} {w : Nat → Rat} (h : Mn n A t w) : ∃ (N : Nat → Bool) (dl : Nat → Nat → Rat), Cob n A t w N dl := by
  have go : ∀ d (N : Nat → Bool) (dl : Nat → Nat → Rat), n ≤ ct N n + d → (∀ k, N k = true → k < n ∧ w k = 0) → (∀ k, N k = true → Ks n A t (dl k) ∧ ∀ k', N k' = true → dl k k' = if k' = k then 1 else 0) → ∃ (N : Nat → Bool) (dl : Nat → Nat → Rat), Cob n A t w N dl := by
    intro d
    induction d with
    | zero =>
      intro N dl hd h1 h2
      -- every place is one: but w has one above 0
      exfalso
      obtain ⟨k, hk, hp⟩ := h.2.1
      have hN : N k = false := by
        apply Classical.byContradiction
        intro q
        have := (h1 k (by simpa using q)).2
        grind
      have := ct_without (P := fun j => N j || j == k) hk (by simp)
      have h3 : ct (fun j => (N j || j == k) && !(j == k)) n = ct N n := ct_congr (fun j _ => by
        by_cases e : j = k
        · subst e; simp [hN]
        · have e9 : (j == k) = false := beq_false_of_ne e
          show ((N j || j == k) && !(j == k)) = N j
          rw [e9]; simp)
      have := ct_le (fun j => N j || j == k) n
      omega
    | succ d ih =>
      intro N dl hd h1 h2
      by_cases hx : ∀ v, Ks n A t v → (∀ k, N k = true → v k = 0) → ∃ a : Rat, ∀ k, k < n → v k = a * w k
      · exact ⟨N, dl, h1, h2, hx⟩
      · obtain ⟨v, q⟩ := Classical.not_forall.mp hx
        have v1 : Ks n A t v := Classical.byContradiction fun q9 => q fun a => absurd a q9
        have v2 : ∀ k, N k = true → v k = 0 := Classical.byContradiction fun q9 => q fun _ a => absurd a q9
        have v3 : ¬ ∃ a : Rat, ∀ k, k < n → v k = a * w k := fun q9 => q fun _ _ => q9
        obtain ⟨k0, hk0, hw0, hv0⟩ : ∃ k, k < n ∧ ¬ 0 < w k ∧ v k ≠ 0 := by
          apply Classical.byContradiction
          intro q9
          exact v3 (h.propK v1 fun k hk hq => Classical.byContradiction fun q8 => q9 ⟨k, hk, hq, q8⟩)
        have hw00 : w k0 = 0 := by have := h.1.1 k0 hk0; grind
        have hN0 : N k0 = false := by
          apply Classical.byContradiction
          intro q9
          exact hv0 (v2 k0 (by simpa using q9))
        have hii : v k0 * (v k0)⁻¹ = 1 := Rat.mul_inv_cancel _ hv0
        refine ih (fun k => N k || k == k0) (fun k j => if k = k0 then (v k0)⁻¹ * v j else dl k j - dl k k0 * ((v k0)⁻¹ * v j)) ?_ ?_ ?_
        · have h3 := ct_without (P := fun j => N j || j == k0) hk0 (by simp)
          have h4 : ct (fun j => (N j || j == k0) && !(j == k0)) n = ct N n := ct_congr (fun j _ => by
            by_cases e : j = k0
            · subst e; simp [hN0]
            · have e9 : (j == k0) = false := beq_false_of_ne e
              show ((N j || j == k0) && !(j == k0)) = N j
              rw [e9]; simp)
          omega
        · intro k hk
          by_cases e : k = k0
          · subst e; exact ⟨hk0, hw00⟩
          · exact h1 k (by simpa [e] using hk)
        · intro k hk
          by_cases e : k = k0
          · subst e
            simp only [if_true]
            refine ⟨?_, fun k' hk' => ?_⟩
            · have := Ks.lin v1 v1 (v k)⁻¹ 0
              rw [show (fun j => (v k)⁻¹ * v j) = (fun j => (v k)⁻¹ * v j + 0 * v j) from funext fun j => by grind]
              exact this
            · by_cases e' : k' = k
              · subst e'; simp; grind
              · rw [v2 k' (by simpa [e'] using hk'), if_neg e']; grind
          · have hNk : N k = true := by simpa [e] using hk
            simp only [if_neg e]
            obtain ⟨d1, d2⟩ := h2 k hNk
            refine ⟨?_, fun k' hk' => ?_⟩
            · have := Ks.lin d1 v1 1 (-(dl k k0 * (v k0)⁻¹))
              rw [show (fun j => dl k j - dl k k0 * ((v k0)⁻¹ * v j)) = (fun j => 1 * dl k j + (-(dl k k0 * (v k0)⁻¹)) * v j) from funext fun j => by grind]
              exact this
            · by_cases e' : k' = k0
              · subst e'
                rw [if_neg (fun q : k' = k => e q.symm)]
                grind
              · have hNk' : N k' = true := by simpa [e'] using hk'
                rw [v2 k' hNk', d2 k' hNk']
                grind
  refine go n (fun _ => false) (fun _ _ => 0) (by omega) (fun k hk => by simp at hk) (fun k hk => by simp at hk)
/-- the members of a set, counted through -/
theorem enum (P : Nat → Bool) : ∀ n, ∃ en : Nat → Nat, (∀ j, j < ct P n → en j < n ∧ P (en j) = true) ∧ ∀ k, k < n → P k = true → ∃ j, j < ct P n ∧ en j = k
  | 0 => ⟨fun _ => 0, fun j hj => by simp [ct] at hj, fun k hk => by omega⟩
  | n + 1 => by
    obtain ⟨en, h1, h2⟩ := enum P n
    by_cases q : P n = true
    · refine ⟨fun j => if j = ct P n then n else en j, fun j hj => ?_, fun k hk hp => ?_⟩
      · simp only [ct, q, if_true] at hj
        by_cases e : j = ct P n
        · subst e; simp; exact q
        · have := h1 j (by omega)
          simp only [if_neg e]
          exact ⟨by omega, this.2⟩
      · simp only [ct, q, if_true]
        by_cases e : k = n
        · exact ⟨ct P n, by omega, by simp [e]⟩
        · obtain ⟨j, hj, e2⟩ := h2 k (by omega) hp
          exact ⟨j, by omega, by rw [if_neg (by omega)]; exact e2⟩
    · refine ⟨en, fun j hj => ?_, fun k hk hp => ?_⟩
      · simp [ct, q] at hj
        have := h1 j hj
        exact ⟨by omega, this.2⟩
      · have e : k ≠ n := fun e => by subst e; exact q hp
        obtain ⟨j, hj, e2⟩ := h2 k (by omega) hp
        exact ⟨j, by simp [ct, q]; exact hj, e2⟩
/-- they are of one number, whichever least support they belong to -/
theorem Cob.le {n : Nat} {A : Nat → Nat → Rat} {t : Nat} {w w' : Nat → Rat} {N N' : Nat → Bool} {dl dl' : Nat → Nat → Rat} (hw : Cn n A t w) (hw' : Cn n A t w') (hz : Nz n w) (hz' : Nz n w') (h : Cob n A t w N dl) (h' : Cob n A t w' N' dl') : ct N' n ≤ ct N n := by
  apply Classical.byContradiction
  intro q
  obtain ⟨en, e1, e2⟩ := enum N n
  obtain ⟨k0, hk0, hp0⟩ := hz
  -- the vectors: those of N', and at n the vector w'; their places: those of N, and what is left at k0
  let V : Nat → Nat → Rat := fun i => if i = n then w' else dl' i
  let P : Nat → Bool := fun i => N' i || i == n
  have hNn : N' n = false := by
    apply Classical.byContradiction
    intro q9
    have := (h'.1 n (by simpa using q9)).1
    omega
  have hct : ct P (n + 1) = ct N' n + 1 := by
    simp only [ct, P]
    rw [ct_congr (P := fun i => N' i || i == n) (Q := N') (fun k hk => by simp [show k ≠ n by omega])]
    simp
  have hVK : ∀ i, P i = true → Ks n A t (V i) := fun i hi => by
    by_cases e : i = n
    · subst e; simp only [V, if_true]; exact hw'.2
    · simp only [V, if_neg e]
      exact (h'.2.1 i (by simpa [P, e] using hi)).1
  -- what is left of v when its places of N are taken away, at k0
  have hrest : ∀ v, Ks n A t v → Ks n A t (fun k => v k - sm n (fun i => (if N i then v i else 0) * dl i k)) := fun v hv => by
    have h1 := Ks.sum (n := n) (A := A) (t := t) (x := fun i => if N i then v i else 0) (w := dl) (c := n) (fun r _ hr => by
      by_cases q9 : N r = true
      · exact (h.2.1 r q9).1
      · simp [q9] at hr)
    have h2 := Ks.lin hv h1 1 (-1)
    rw [show (fun k => v k - sm n (fun i => (if N i then v i else 0) * dl i k)) = (fun k => 1 * v k + (-1) * sm n (fun i => (if N i then v i else 0) * dl i k)) from funext fun k => by grind]
    exact h2
  obtain ⟨c, ⟨i0, hi0, hci0⟩, hcP, hs⟩ := dependP (ct N n + 1) (n + 1) P (by omega) (fun i j => if j < ct N n then V i (en j) else V i k0)
  let u : Nat → Rat := fun k => sm (n + 1) (fun i => c i * V i k)
  have huK : Ks n A t u := Ks.sum (fun r hr hcr => hVK r (by
    apply Classical.byContradiction
    intro q9
    exact hcr (hcP r (by simpa using q9))))
  have huN : ∀ k, N k = true → u k = 0 := fun k hk => by
    obtain ⟨j, hj, ej⟩ := e2 k (h.1 k hk).1 hk
    have := hs j (by omega)
    rw [show sm (n + 1) (fun i => c i * (if j < ct N n then V i (en j) else V i k0)) = u k from sm_congr (fun i _ => by rw [if_pos hj, ej])] at this
    exact this
  have hu0 : u k0 = 0 := by
    have := hs (ct N n) (by omega)
    rw [show sm (n + 1) (fun i => c i * (if ct N n < ct N n then V i (en (ct N n)) else V i k0)) = u k0 from sm_congr (fun i _ => by rw [if_neg (by omega)])] at this
    exact this
  obtain ⟨a, ha⟩ := h.2.2 u huK huN
  have ha0 : a = 0 := by
    have h1 := ha k0 hk0
    rw [hu0] at h1
    rcases Rat.mul_eq_zero.mp h1.symm with q9 | q9
    · exact q9
    · grind
  have hu : ∀ k, k < n → u k = 0 := fun k hk => by rw [ha k hk, ha0]; grind
  -- so each share is 0
  have hc1 : ∀ i, i < n → c i = 0 := fun i hi => by
    by_cases hNi : N' i = true
    · have h1 := hu i hi
      have h2 : u i = c i := by
        show sm (n + 1) (fun r => c r * V r i) = c i
        rw [sm_one (i := i) (by omega) (fun r hr hri => by
          by_cases e : r = n
          · subst e
            simp only [V, if_true]
            rw [(h'.1 i hNi).2]; grind
          · by_cases hNr : N' r = true
            · simp only [V, if_neg e]
              rw [(h'.2.1 r hNr).2 i hNi, if_neg (fun q9 : i = r => hri q9.symm)]; grind
            · rw [hcP r (by simp [P, hNr, e])]; grind)]
        simp only [V, if_neg (show i ≠ n by omega)]
        rw [(h'.2.1 i hNi).2 i hNi, if_pos rfl]; grind
      rw [← h2, h1]
    · exact hcP i (by simp [P, hNi]; omega)
  have hc2 : c n = 0 := by
    obtain ⟨k, hk, hp⟩ := hz'
    have h1 := hu k hk
    have h2 : u k = c n * w' k := by
      show sm n (fun r => c r * V r k) + c n * V n k = _
      rw [sm_zero (fun r hr => by rw [hc1 r hr]; grind)]
      simp only [V, if_true]; grind
    rw [h1] at h2
    rcases Rat.mul_eq_zero.mp h2.symm with q9 | q9
    · exact q9
    · grind
  by_cases e : i0 = n
  · subst e; exact hci0 hc2
  · exact hci0 (hc1 i0 (by omega))
