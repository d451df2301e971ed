/-! ===== a family of weights of least support, maybe not all of them ===== -/
def DP (n : Nat) (A : Nat → Nat → Rat) (t c : Nat) (W : Nat → Nat → Rat) : Prop :=
  (∀ r, r < c → Mn n A t (W r)) ∧ ∀ r r', r < c → r' < c → Sb n (W r) (W r') → r = r'
/-- from a column to the next, with some of them left out -/
theorem DD.part {n : Nat} {A : Nat → Nat → Rat} {t c c' : Nat} {W W' : Nat → Nat → Rat} (h : DD n A t c W) (src : Nat → Nat × Nat)
    (hinj : ∀ r r', r < c' → r' < c' → src r = src r' → r = r')
    (hall : ∀ r, r < c' → ((src r).1 = (src r).2 ∧ (src r).1 < c ∧ va n A t (W (src r).1) = 0 ∧ ∀ k, k < n → W' r k = W (src r).1 k) ∨ ((src r).1 < c ∧ (src r).2 < c ∧ 0 < va n A t (W (src r).1) ∧ va n A t (W (src r).2) < 0 ∧ Bes n c W (src r).1 (src r).2 ∧ ∃ s : Rat, 0 < s ∧ ∀ k, k < n → W' r k = s * ((-va n A t (W (src r).2)) * W (src r).1 k + va n A t (W (src r).1) * W (src r).2 k))) :
    DP n A (t + 1) c' W' := by
  have Mcongr : ∀ w w' : Nat → Rat, (∀ k, k < n → w' k = w k) → Mn n A (t + 1) w → Mn n A (t + 1) w' := by
    intro w w' e hm
    refine ⟨⟨fun k hk => by rw [e k hk]; exact hm.1.1 k hk, fun j hj => by rw [← hm.1.2 j hj]; exact sm_congr (fun k hk => by rw [e k hk])⟩, ?_, fun v hv hz hs k hk hp => ?_⟩
    · obtain ⟨k, hk, hp⟩ := hm.2.1
      exact ⟨k, hk, by rw [e k hk]; exact hp⟩
    · refine hm.2.2 v hv hz (fun j hj q => by rw [← e j hj]; exact hs j hj q) k hk (by rw [← e k hk]; exact hp)
  have M0 : ∀ a, a < c → va n A t (W a) = 0 → Mn n A (t + 1) (W a) := fun a ha hv => ⟨(h.1 a ha).1.next hv, (h.1 a ha).2.1, fun w' hw' hz hs => (h.1 a ha).2.2 w' hw'.prev.1 hz hs⟩
  have hM : ∀ r, r < c' → Mn n A (t + 1) (W' r) := by
    intro r hr
    rcases hall r hr with ⟨_, h2, h3, h4⟩ | ⟨h1, h2, h3, h4, h5, s, hs, h6⟩
    · exact Mcongr _ _ h4 (M0 _ h2 h3)
    · exact Mcongr _ _ h6 (h.pair h1 h2 h3 h4 h5 hs)
  -- the members of the elder family that lie within a new one
  have hin : ∀ r, r < c' → ∀ a, a < c → Sb n (W a) (W' r) → a = (src r).1 ∨ a = (src r).2 := by
    intro r hr a ha hs
    rcases hall r hr with ⟨_, h2, h3, h4⟩ | ⟨h1, h2, h3, h4, h5, s, hs0, h6⟩
    · exact Or.inl (h.2.1 a _ ha h2 (fun k hk q => by rw [← h4 k hk]; exact hs k hk q))
    · apply Classical.byContradiction
      intro q
      refine h5 a ha (fun e => q (Or.inl e)) (fun e => q (Or.inr e)) fun x hx hp => ?_
      have h7 := hs x hx hp
      rw [h6 x hx] at h7
      apply Classical.byContradiction
      intro q2
      have g1 := (h.1 _ h1).1.1 x hx
      have g2 := (h.1 _ h2).1.1 x hx
      have g3 : W (src r).1 x = 0 := by have : ¬ 0 < W (src r).1 x := fun q3 => q2 (Or.inl q3)
                                        grind
      have g4 : W (src r).2 x = 0 := by have : ¬ 0 < W (src r).2 x := fun q3 => q2 (Or.inr q3)
                                        grind
      rw [g3, g4] at h7
      grind
  -- a new one holds what it is made of
  have hof : ∀ r, r < c' → Sb n (W (src r).1) (W' r) ∧ Sb n (W (src r).2) (W' r) := by
    intro r hr
    rcases hall r hr with ⟨h1, h2, h3, h4⟩ | ⟨h1, h2, h3, h4, h5, s, hs0, h6⟩
    · rw [← h1]
      exact ⟨fun k hk q => by rw [h4 k hk]; exact q, fun k hk q => by rw [h4 k hk]; exact q⟩
    · have hq : 0 < -va n A t (W (src r).2) := by grind
      refine ⟨fun k hk q => ?_, fun k hk q => ?_⟩
      · rw [h6 k hk]
        have g1 := Rat.mul_pos hq q
        have g2 := Rat.mul_nonneg (Rat.le_of_lt h3) ((h.1 _ h2).1.1 k hk)
        exact Rat.mul_pos hs0 (by grind)
      · rw [h6 k hk]
        have g1 := Rat.mul_pos h3 q
        have g2 := Rat.mul_nonneg (Rat.le_of_lt hq) ((h.1 _ h1).1.1 k hk)
        exact Rat.mul_pos hs0 (by grind)
  refine ⟨hM, fun r r' hr hr' hs => ?_⟩
  · -- which elder members lie within r lie within r'
    have s1 : (src r).1 < c ∧ (src r).2 < c := by
      rcases hall r hr with ⟨h1, h2, _⟩ | ⟨h1, h2, _⟩
      · exact ⟨h2, by rw [← h1]; exact h2⟩
      · exact ⟨h1, h2⟩
    have a1 := hin r' hr' _ s1.1 ((hof r hr).1.tr hs)
    have a2 := hin r' hr' _ s1.2 ((hof r hr).2.tr hs)
    apply hinj r r' hr hr'
    rcases hall r hr with ⟨h1, h2, h3, h4⟩ | ⟨h1, h2, h3, h4, h5, _⟩ <;> rcases hall r' hr' with ⟨g1, g2, g3, g4⟩ | ⟨g1, g2, g3, g4, g5, _⟩
    · refine Prod.ext ?_ ?_
      · rcases a1 with q | q
        · exact q
        · rw [q, g1]
      · rcases a2 with q | q
        · rw [q, g1]
        · exact q
    · exfalso
      rcases a1 with q | q
      · rw [← q, h3] at g3; grind
      · rw [← q, h3] at g4; grind
    · exfalso
      rcases a1 with q | q
      · rw [q, g3] at h3; grind
      · rw [q, ← g1, g3] at h3; grind
    · refine Prod.ext ?_ ?_
      · rcases a1 with q | q
        · exact q
        · rw [q] at h3; grind
      · rcases a2 with q | q
        · rw [q] at h4; grind
        · exact q
theorem DP.count {n : Nat} {A : Nat → Nat → Rat} {t c : Nat} {W : Nat → Nat → Rat} (h : DP n A t c W) (hn : n < 17) : c ≤ 1200 := by
  by_cases hc : c = 0
  · omega
  -- one sum for all
  have hsp : ∀ r, r < c → 0 < sm n (W r) := fun r hr => by
    obtain ⟨k, hk, hp⟩ := (h.1 r hr).2.1
    have h1 : ∀ i, i < n → 0 ≤ W r i := (h.1 r hr).1.1
    apply Classical.byContradiction
    intro q
    have := sm_nil h1 (by grind) k hk
    grind
  have hch : ∀ r, ∃ z : (Nat → Bool) × (Nat → Nat → Rat), r < c → Cob n A t (W r) z.1 z.2 := fun r => by
    by_cases hr : r < c
    · obtain ⟨N, dl, q⟩ := (h.1 r hr).cob
      exact ⟨(N, dl), fun _ => q⟩
    · exact ⟨(fun _ => false, fun _ _ => 0), fun q => absurd q hr⟩
  obtain ⟨z, hz⟩ := Classical.axiomOfChoice hch
  -- the number of places is one number d
  obtain ⟨d, hd⟩ : ∃ d, ∀ r, r < c → ct (z r).1 n = d := ⟨ct (z 0).1 n, fun r hr => Nat.le_antisymm (Cob.le (h.1 0 (by omega)).1 (h.1 r hr).1 (h.1 0 (by omega)).2.1 (h.1 r hr).2.1 (hz 0 (by omega)) (hz r hr)) (Cob.le (h.1 r hr).1 (h.1 0 (by omega)).1 (h.1 r hr).2.1 (h.1 0 (by omega)).2.1 (hz r hr) (hz 0 (by omega)))⟩
  have hdn : d < n := by
    obtain ⟨k, hk, hp⟩ := (h.1 0 (by omega)).2.1
    have hNk : (z 0).1 k = false := by
      apply Classical.byContradiction
      intro q
      have := ((hz 0 (by omega)).1 k (by simpa using q)).2
      grind
    have h1 := ct_without (P := fun j => (z 0).1 j || j == k) hk (by simp)
    have h3 : ct (fun j => ((z 0).1 j || j == k) && !(j == k)) n = ct (z 0).1 n := ct_congr (fun j _ => by
      by_cases e : j = k
      · subst e; simp [hNk]
      · have e9 : (j == k) = false := beq_false_of_ne e
        show (((z 0).1 j || j == k) && !(j == k)) = (z 0).1 j
        rw [e9]; simp)
    have h4 := ct_le (fun j => (z 0).1 j || j == k) n
    have h5 := hd 0 (by omega)
    omega
  -- of sum 1
  let U : Nat → Nat → Rat := fun r k => W r k * (sm n (W r))⁻¹
  have hU0 : ∀ r, r < c → ∀ k, k < n → 0 ≤ U r k := fun r hr k hk => Rat.mul_nonneg ((h.1 r hr).1.1 k hk) (Rat.le_of_lt (Rat.inv_pos.mpr (hsp r hr)))
  have hU1 : ∀ r, r < c → sm n (U r) = 1 := fun r hr => by
    show sm n (fun k => W r k * (sm n (W r))⁻¹) = 1
    rw [sm_mulr]
    exact Rat.mul_inv_cancel _ (by have := hsp r hr; grind)
  have hUp : ∀ r, r < c → ∀ k, 0 < U r k → 0 < W r k := fun r hr k q => by
    have h1 := Rat.inv_pos.mpr (hsp r hr)
    exact (Rat.mul_pos_iff_of_pos_right h1).mp q
  have hUK : ∀ r, r < c → Ks n A t (U r) := fun r hr j hj => by
    show sm n (fun k => W r k * (sm n (W r))⁻¹ * A k j) = 0
    rw [show sm n (fun k => W r k * (sm n (W r))⁻¹ * A k j) = sm n (fun k => (sm n (W r))⁻¹ * (W r k * A k j)) from sm_congr (fun k _ => by grind), sm_mul, (h.1 r hr).1.2 j hj]
    grind
  -- how a place of the cobasis moves, the sum kept
  let ep : Nat → Nat → Nat → Rat := fun r k j => (z r).2 k j - sm n ((z r).2 k) * U r j
  have hUN : ∀ r, r < c → ∀ k, (z r).1 k = true → U r k = 0 := fun r hr k hk => by
    show W r k * _ = 0
    rw [((hz r hr).1 k hk).2]; grind
  -- another one is the first, moved
  have hmove : ∀ r r', r < c → r' < c → ∀ j, j < n → U r' j - U r j = sm n (fun k => (if (z r).1 k then U r' k else 0) * ep r k j) := by
    intro r r' hr hr'
    obtain ⟨c1, c2, c3⟩ := hz r hr
    have g1 : Ks n A t (fun j => sm n (fun k => (if (z r).1 k then U r' k else 0) * (z r).2 k j)) := Ks.sum (fun k _ hk => by
      by_cases q : (z r).1 k = true
      · exact (c2 k q).1
      · simp [q] at hk)
    have g2 := Ks.lin (hUK r' hr') g1 1 (-1)
    obtain ⟨a, ha⟩ := c3 _ g2 (fun k hk => by
      show 1 * U r' k + (-1) * sm n (fun i => (if (z r).1 i then U r' i else 0) * (z r).2 i k) = 0
      rw [sm_one (c1 k hk).1 (fun i hi hik => by
        by_cases q : (z r).1 i = true
        · rw [(c2 i q).2 k hk, if_neg (fun q9 : k = i => hik q9.symm)]; grind
        · rw [if_neg q]; grind)]
      rw [if_pos hk, (c2 k hk).2 k hk, if_pos rfl]; grind)
    have ha' : ∀ j, j < n → U r' j = sm n (fun k => (if (z r).1 k then U r' k else 0) * (z r).2 k j) + a * sm n (W r) * U r j := fun j hj => by
      have h1 := ha j hj
      have h2 : sm n (W r) * U r j = W r j := by
        show sm n (W r) * (W r j * (sm n (W r))⁻¹) = W r j
        have := Rat.mul_inv_cancel (sm n (W r)) (by have := hsp r hr; grind)
        generalize (sm n (W r))⁻¹ = y at this ⊢
        grind
      rw [Rat.mul_assoc, h2]
      grind
    have hs : a * sm n (W r) = 1 - sm n (fun k => (if (z r).1 k then U r' k else 0) * sm n ((z r).2 k)) := by
      have h1 := hU1 r' hr'
      rw [show sm n (U r') = sm n (fun j => sm n (fun k => (if (z r).1 k then U r' k else 0) * (z r).2 k j) + a * sm n (W r) * U r j) from sm_congr (fun j hj => ha' j hj), sm_add, sm_mul, hU1 r hr, sm_swap] at h1
      rw [show sm n (fun k => sm n (fun j => (if (z r).1 k then U r' k else 0) * (z r).2 k j)) = sm n (fun k => (if (z r).1 k then U r' k else 0) * sm n ((z r).2 k)) from sm_congr (fun k _ => by rw [sm_mul])] at h1
      grind
    intro j hj
    have h1 := ha' j hj
    rw [hs] at h1
    rw [show sm n (fun k => (if (z r).1 k then U r' k else 0) * ep r k j) = sm n (fun k => (if (z r).1 k then U r' k else 0) * (z r).2 k j + (-U r j) * ((if (z r).1 k then U r' k else 0) * sm n ((z r).2 k))) from sm_congr (fun k _ => by simp only [ep]; grind), sm_add, sm_mul]
    grind
  have hep : ∀ r, r < c → ∀ k, (z r).1 k = true → ep r k k = 1 := fun r hr k hk => by
    show (z r).2 k k - _ * U r k = 1
    rw [((hz r hr).2.1 k hk).2 k hk, if_pos rfl, hUN r hr k hk]; grind
  -- different ones differ
  have hdiff : ∀ r r', r < c → r' < c → (∀ j, j < n → U r' j = U r j) → r' = r := fun r r' hr hr' e => by
    refine h.2 r' r hr' hr fun k hk q => ?_
    have h1 : 0 < U r' k := Rat.mul_pos q (Rat.inv_pos.mpr (hsp r' hr'))
    rw [e k hk] at h1
    exact hUp r hr k h1
  -- the order
  let lt : Nat → Nat → Prop := fun r r' => lx n (fun j => U r' j - U r j)
  have htr : ∀ x y z, lt x y → lt y z → lt x z := fun x y z h1 h2 => by
    have := lx_add h1 h2
    show lx n (fun j => U z j - U x j)
    rw [show (fun j => U z j - U x j) = (fun j => U y j - U x j + (U z j - U y j)) from funext fun j => by grind]
    exact this
  have htot : ∀ x y, x < c → y < c → x ≠ y → lt x y ∨ lt y x := fun x y hx hy hxy => by
    rcases lx_tri (fun j => U y j - U x j) n with q | q | q
    · exact absurd (hdiff x y hx hy (fun j hj => by have := q j hj; grind)).symm hxy
    · exact Or.inl q
    · refine Or.inr ?_
      show lx n (fun j => U x j - U y j)
      rw [show (fun j => U x j - U y j) = (fun k => -(U y k - U x k)) from funext fun j => by grind]
      exact q
  have hirr : ∀ x y, lt x y → lt y x → False := fun x y h1 h2 => lx_no h1 (by
    show lx n (fun k => -(U y k - U x k))
    rw [show (fun k => -(U y k - U x k)) = (fun j => U x j - U y j) from funext fun j => by grind]
    exact h2)
  -- the two kinds of places
  let dec : ∀ r k, Decidable (lx n (fun j => -ep r k j)) := fun r k => Classical.propDecidable _
  let R1 : Nat → Nat → Bool := fun r k => (z r).1 k && @decide _ (dec r k)
  let R2 : Nat → Nat → Bool := fun r k => (z r).1 k && !@decide _ (dec r k)
  have hR1 : ∀ r k, R1 r k = true → (z r).1 k = true ∧ lx n (fun j => -ep r k j) := fun r k q => by
    simp only [R1, Bool.and_eq_true] at q
    exact ⟨q.1, @of_decide_eq_true _ (dec r k) q.2⟩
  have hR2 : ∀ r k, r < c → R2 r k = true → (z r).1 k = true ∧ lx n (ep r k) := fun r k hr q => by
    simp only [R2, Bool.and_eq_true, Bool.not_eq_true'] at q
    have q2 : ¬ lx n (fun j => -ep r k j) := @of_decide_eq_false _ (dec r k) q.2
    refine ⟨q.1, ?_⟩
    rcases lx_tri (ep r k) n with q3 | q3 | q3
    · have := q3 k ((hz r hr).1 k q.1).1
      rw [hep r hr k q.1] at this
      grind
    · exact q3
    · exact absurd q3 q2
  have hN12 : ∀ r k, (z r).1 k = (R1 r k || R2 r k) := fun r k => by
    simp only [R1, R2]
    cases (z r).1 k <;> cases @decide _ (dec r k) <;> rfl
  have hNd : ∀ r k, R1 r k = true → R2 r k = false := fun r k q => by
    simp only [R1, R2, Bool.and_eq_true] at q ⊢
    rw [q.2]; simp
  have hsum : ∀ r, r < c → ct (R1 r) n + ct (R2 r) n = d := fun r hr => by
    rw [← hd r hr]
    exact (ct_two (fun k _ => hN12 r k) (fun k _ => hNd r k)).symm
  -- who has nothing at the first kind of r comes behind r
  have hB1 : ∀ r r', r < c → r' < c → lt r r' → ∃ x, x < n ∧ R1 r' x = true ∧ (!(z r).1 x) = true := fun r r' hr hr' hlt => by
    apply Classical.byContradiction
    intro q
    have h0 : ∀ x, x < n → R1 r' x = true → U r x = 0 := fun x hx hq => by
      have h1 : (z r).1 x = true := by
        apply Classical.byContradiction
        intro q2
        exact q ⟨x, hx, hq, by simpa using q2⟩
      exact hUN r hr x h1
    have hne : r ≠ r' := fun e => by subst e; exact hirr _ _ hlt hlt
    rcases lx_sum (n := n) (x := fun k => if (z r').1 k then U r k else 0) (w := ep r') (c := n) (fun k hk => by
      refine ⟨?_, fun q3 => ?_⟩
      · show (0 : Rat) ≤ if _ then _ else _
        split
        · exact hU0 r hr k hk
        · grind
      · by_cases q4 : (z r').1 k = true
        · simp only [q4, if_true] at q3
          have q5 : R2 r' k = true := by
            have := hN12 r' k
            rw [q4] at this
            cases q6 : R1 r' k
            · rw [q6] at this; simpa using this.symm
            · rw [h0 k hk q6] at q3; grind
          exact (hR2 r' k hr' q5).2
        · simp [q4] at q3) with q2 | q2
    · refine hne (hdiff r' r hr' hr fun j hj => ?_)
      have := hmove r' r hr' hr j hj
      rw [sm_zero (fun k hk => by rw [q2 k hk]; grind)] at this
      grind
    · refine hirr r r' hlt ?_
      obtain ⟨i, hi, hp, hz9⟩ := q2
      refine ⟨i, hi, ?_, fun j hj => ?_⟩
      · show 0 < U r i - U r' i
        rw [hmove r' r hr' hr i hi]; exact hp
      · show U r j - U r' j = 0
        rw [hmove r' r hr' hr j (by omega)]; exact hz9 j hj
  have hB2 : ∀ r r', r < c → r' < c → lt r' r → ∃ x, x < n ∧ R2 r' x = true ∧ (!(z r).1 x) = true := fun r r' hr hr' hlt => by
    apply Classical.byContradiction
    intro q
    have h0 : ∀ x, x < n → R2 r' x = true → U r x = 0 := fun x hx hq => by
      have h1 : (z r).1 x = true := by
        apply Classical.byContradiction
        intro q2
        exact q ⟨x, hx, hq, by simpa using q2⟩
      exact hUN r hr x h1
    have hne : r ≠ r' := fun e => by subst e; exact hirr _ _ hlt hlt
    rcases lx_sum (n := n) (x := fun k => if (z r').1 k then U r k else 0) (w := fun k j => -ep r' k j) (c := n) (fun k hk => by
      refine ⟨?_, fun q3 => ?_⟩
      · show (0 : Rat) ≤ if _ then _ else _
        split
        · exact hU0 r hr k hk
        · grind
      · by_cases q4 : (z r').1 k = true
        · simp only [q4, if_true] at q3
          have q5 : R1 r' k = true := by
            have := hN12 r' k
            rw [q4] at this
            cases q6 : R1 r' k
            · rw [q6] at this
              have q7 : R2 r' k = true := by simpa using this.symm
              rw [h0 k hk q7] at q3; grind
            · rfl
          exact (hR1 r' k q5).2
        · simp [q4] at q3) with q2 | q2
    · refine hne (hdiff r' r hr' hr fun j hj => ?_)
      have := hmove r' r hr' hr j hj
      rw [sm_zero (fun k hk => by rw [q2 k hk]; grind)] at this
      grind
    · refine hirr r r' ?_ hlt
      obtain ⟨i, hi, hp, hz9⟩ := q2
      have e : ∀ j, j < n → U r' j - U r j = sm n (fun k => (if (z r').1 k then U r k else 0) * -ep r' k j) := fun j hj => by
        have := hmove r' r hr' hr j hj
        rw [show sm n (fun k => (if (z r').1 k then U r k else 0) * -ep r' k j) = sm n (fun k => (-1) * ((if (z r').1 k then U r k else 0) * ep r' k j)) from sm_congr (fun k _ => by grind), sm_mul, ← this]
        grind
      refine ⟨i, hi, ?_, fun j hj => ?_⟩
      · show 0 < U r' i - U r i
        rw [e i hi]; exact hp
      · show U r' j - U r j = 0
        rw [e j (by omega)]; exact hz9 j hj
  have hBc : ∀ r, r < c → ct (fun x => !(z r).1 x) n = n - d := fun r hr => by
    have := ct_compl (P := (z r).1) n
    have := hd r hr
    omega
  -- the classes
  have cl1 : ∀ a, ct (fun r => ct (R1 r) n == a) c ≤ DN (n - d) a := fun a => boll n a (n - d) c R1 (fun r x => !(z r).1 x) _ lt htr htot (fun r _ q => by simpa using q) (fun r hr _ => hBc r hr) (fun r _ _ x _ q => by simp [(hR1 r x q).1]) (fun r r' hr hr' _ _ hlt => hB1 r r' hr hr' hlt)
  have cl2 : ∀ a, ct (fun r => ct (R2 r) n == a) c ≤ DN (n - d) a := fun a => boll n a (n - d) c R2 (fun r x => !(z r).1 x) _ (fun x y => lt y x) (fun x y z h1 h2 => htr z y x h2 h1) (fun x y hx hy hxy => (htot x y hx hy hxy).symm) (fun r _ q => by simpa using q) (fun r hr _ => hBc r hr) (fun r hr _ x _ q => by simp [(hR2 r x hr q).1]) (fun r r' hr hr' _ _ hlt => hB2 r r' hr hr' hlt)
  have hall : ∀ m, ct (fun r => (decide (ct (R1 r) n < m) && decide (2 * ct (R1 r) n ≤ d)) || (decide (ct (R2 r) n < m) && decide (2 * ct (R2 r) n < d))) c ≤ UB n d m := by
    intro m
    induction m with
    | zero =>
      have : ct (fun r => (decide (ct (R1 r) n < 0) && decide (2 * ct (R1 r) n ≤ d)) || (decide (ct (R2 r) n < 0) && decide (2 * ct (R2 r) n < d))) c = ct (fun _ => false) c := ct_congr (fun r _ => by simp)
      rw [this]
      have h0 : ∀ c, ct (fun _ => false) c = 0 := fun c => by
        induction c with
        | zero => rfl
        | succ c ih => simp only [ct]; rw [ih]; rfl
      rw [h0]; exact Nat.zero_le _
    | succ m ih =>
      have g1 := ct_or (P := fun r => (decide (ct (R1 r) n < m + 1) && decide (2 * ct (R1 r) n ≤ d)) || (decide (ct (R2 r) n < m + 1) && decide (2 * ct (R2 r) n < d))) (Q1 := fun r => (decide (ct (R1 r) n < m) && decide (2 * ct (R1 r) n ≤ d)) || (decide (ct (R2 r) n < m) && decide (2 * ct (R2 r) n < d))) (Q2 := fun r => (decide (2 * m ≤ d) && (ct (R1 r) n == m)) || (decide (2 * m < d) && (ct (R2 r) n == m))) (n := c) (fun r _ q => by
        simp only [Bool.or_eq_true, Bool.and_eq_true, decide_eq_true_eq, beq_iff_eq] at q ⊢
        omega)
      have g2 := ct_or (P := fun r => (decide (2 * m ≤ d) && (ct (R1 r) n == m)) || (decide (2 * m < d) && (ct (R2 r) n == m))) (Q1 := fun r => decide (2 * m ≤ d) && (ct (R1 r) n == m)) (Q2 := fun r => decide (2 * m < d) && (ct (R2 r) n == m)) (n := c) (fun r _ q => by simpa using q)
      have h0 : ∀ c, ct (fun _ => false) c = 0 := fun c => by
        induction c with
        | zero => rfl
        | succ c ih => simp only [ct]; rw [ih]; rfl
      have g3 : ct (fun r => decide (2 * m ≤ d) && (ct (R1 r) n == m)) c ≤ if 2 * m ≤ d then DN (n - d) m else 0 := by
        by_cases q : 2 * m ≤ d
        · rw [if_pos q, show (fun r => decide (2 * m ≤ d) && (ct (R1 r) n == m)) = (fun r => ct (R1 r) n == m) from funext fun r => by simp [q]]
          exact cl1 m
        · rw [if_neg q, show (fun r => decide (2 * m ≤ d) && (ct (R1 r) n == m)) = (fun _ => false) from funext fun r => by simp [q], h0]
          exact Nat.le_refl _
      have g4 : ct (fun r => decide (2 * m < d) && (ct (R2 r) n == m)) c ≤ if 2 * m < d then DN (n - d) m else 0 := by
        by_cases q : 2 * m < d
        · rw [if_pos q, show (fun r => decide (2 * m < d) && (ct (R2 r) n == m)) = (fun r => ct (R2 r) n == m) from funext fun r => by simp [q]]
          exact cl2 m
        · rw [if_neg q, show (fun r => decide (2 * m < d) && (ct (R2 r) n == m)) = (fun _ => false) from funext fun r => by simp [q], h0]
          exact Nat.le_refl _
      simp only [UB]
      omega
  have hfin := hall 16
  rw [ct_congr (Q := fun _ => true) (fun r hr => by
    have h1 := hsum r hr
    simp only [Bool.or_eq_true, Bool.and_eq_true, decide_eq_true_eq]
    omega), ct_true] at hfin
  have := UB_le n hn d hdn
  omega
