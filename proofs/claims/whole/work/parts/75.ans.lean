/-! ===== the reference's rows at the start, and what the last rows say ===== -/
theorem Mn_un {n : Nat} (A : Nat → Nat → Rat) {r : Nat} (hr : r < n) : Mn n A 0 (un r) := by
  refine ⟨⟨fun k _ => ?_, fun j hj => by omega⟩, ⟨r, hr, by simp [un]; decide⟩, fun w' hw' hz hs k hk hp => ?_⟩
  · unfold un; split <;> decide
  · have e : k = r := by
      apply Classical.byContradiction
      intro q
      unfold un at hp
      rw [if_neg q] at hp
      exact absurd hp (by decide)
    obtain ⟨k2, hk2, hp2⟩ := hz
    have h2 := hs k2 hk2 hp2
    have e2 : k2 = r := by
      apply Classical.byContradiction
      intro q
      unfold un at h2
      rw [if_neg q] at h2
      exact absurd h2 (by decide)
    rw [e, ← e2]; exact hp2
theorem DD_0 (n : Nat) (A : Nat → Nat → Rat) : DD n A 0 n un := by
  refine ⟨fun r hr => Mn_un A hr, fun r r' hr hr' hs => ?_, fun w hw hz => ?_⟩
  · have := hs r hr (by simp [un]; decide)
    apply Classical.byContradiction
    intro q
    unfold un at this
    rw [if_neg q] at this
    exact absurd this (by decide)
  · obtain ⟨k, hk, hp⟩ := hz
    refine ⟨k, hk, fun i hi q => ?_⟩
    have e : i = k := by
      apply Classical.byContradiction
      intro q2
      unfold un at q
      rw [if_neg q2] at q
      exact absurd q (by decide)
    rw [e]; exact hp
theorem bitI_eq {k : Nat} (hk : k < 16) : bitI k = nI (2 ^ k) := by
  have h1 : ∀ k, k < 16 → bitI k = nI (2 ^ k) := by decide +kernel
  exact h1 k hk
theorem RI_init {n : Nat} {M : Nat → Nat → Int} {f : Nat → Int64} {og : Nat → Int32} (hn : n ≤ 16) (hf : ∀ k j, k < n → j < 11 → (f (11 * k + j)).toInt = M k j) (hb : ∀ k j, k < n → j < 11 → -1000 ≤ M k j ∧ M k j ≤ 1000) (ho : ∀ k, k < n → og k = bitI k) : RI n M 0 n f og := by
  refine ⟨un, DD_0 n _, fun r hr => ⟨fun j hj => ?_, fun j hj => ?_, ⟨2 ^ r, ?_, ?_, fun k => ?_⟩⟩⟩
  · rw [hf r j hr hj, sm_one (i := r) hr (fun k _ hk => by simp [un, hk])]
    simp [un, clm]
  · rw [hf r j hr hj]
    have := hb r j hr hj
    omega
  · rw [ho r hr, bitI_eq (by omega)]
  · have : 2 ^ r < 2 ^ 16 := Nat.pow_lt_pow_right (by decide) (by omega)
    omega
  · rw [Nat.testBit_two_pow, decide_eq_true_iff]
    constructor
    · intro e; subst e; exact ⟨hr, by simp [un]; decide⟩
    · rintro ⟨_, q⟩
      apply Classical.byContradiction
      intro q2
      unfold un at q
      rw [if_neg (fun e => q2 e.symm)] at q
      exact absurd q (by decide)
/-- weights of the rows that no turn allows -/
def CerQ (n m : Nat) (M : Nat → Nat → Int) : Prop := ∃ w : Nat → Rat, (∀ k, k < n → 0 ≤ w k) ∧ (∀ j, j < m → sm n (fun k => w k * clm M k j) = 0) ∧ sm n (fun k => w k * clm M k 10) < 0
theorem gen_sum {n c : Nat} {w g : Nat → Rat} {W : Nat → Nat → Rat} (h : ∀ k, k < n → w k = sm c (fun r => g r * W r k)) (v : Nat → Rat) : sm n (fun k => w k * v k) = sm c (fun r => g r * sm n (fun k => W r k * v k)) := by
  rw [show sm n (fun k => w k * v k) = sm n (fun k => sm c (fun r => g r * (W r k * v k))) from sm_congr (fun k hk => by
    rw [h k hk, ← sm_mulr]; exact sm_congr (fun r _ => by grind))]
  rw [sm_swap]
  exact sm_congr (fun r _ => by rw [sm_mul])
theorem poss_iff {n rc : Nat} {M : Nat → Nat → Int} {rw : Nat → Int64} {og : Nat → Int32} (hI : RI n M 9 rc rw og) (h9 : ∀ k, k < n → M k 9 ≤ 0) : (¬ ∀ k, k < rc → (rw (11 * k + 9) ≠ 0 ∨ 0 ≤ rw (11 * k + 10))) ↔ CerQ n 10 M := by
  obtain ⟨W, hD, hR⟩ := hI
  have hz : ∀ x : Int64, x = 0 ↔ x.toInt = 0 := fun x => ⟨fun e => by rw [e]; rfl, fun e => Int64.toInt_inj.mp e⟩
  have hp : ∀ x : Int64, 0 ≤ x ↔ 0 ≤ x.toInt := fun x => Int64.le_iff_toInt_le
  have hneg : ∀ r, r < rc → sm n (fun k => W r k * clm M k 9) ≤ 0 := fun r hr => by
    have := sm_nonneg (f := fun k => W r k * (-clm M k 9)) (k := n) (fun k hk => Rat.mul_nonneg ((hD.1 r hr).1.1 k hk) (by
      have h := h9 k hk
      have : clm M k 9 ≤ 0 := by unfold clm; rw [show (0 : Rat) = ((0 : Int) : Rat) from rfl]; exact Rat.intCast_le_intCast.mpr h
      grind))
    rw [show sm n (fun k => W r k * (-clm M k 9)) = sm n (fun k => (-1) * (W r k * clm M k 9)) from sm_congr (fun k _ => by grind), sm_mul] at this
    grind
  constructor
  · intro q
    obtain ⟨r, hr⟩ := Classical.not_forall.mp q
    obtain ⟨hr, q2⟩ := Classical.not_imp.mp hr
    have q3 : rw (11 * r + 9) = 0 := Classical.byContradiction (fun e => q2 (Or.inl e))
    have q4 : ¬ 0 ≤ rw (11 * r + 10) := fun e => q2 (Or.inr e)
    refine ⟨W r, (hD.1 r hr).1.1, fun j hj => ?_, ?_⟩
    · by_cases e : j = 9
      · subst e; rw [← (hR r hr).1 9 (by omega), q3]; rfl
      · exact (hD.1 r hr).1.2 j (by omega)
    · rw [← (hR r hr).1 10 (by omega), rz_n]
      rw [hp] at q4
      omega
  · rintro ⟨w, h1, h2, h3⟩ q
    obtain ⟨g, g1, g2, _⟩ := hD.gen (sz w n) w (Nat.le_refl _) ⟨h1, fun j hj => h2 j (by omega)⟩
    have s9 := h2 9 (by omega)
    rw [gen_sum g2] at s9 h3
    have z9 := sm_nil (f := fun r => g r * -sm n (fun k => W r k * clm M k 9)) (k := rc) (fun r hr => Rat.mul_nonneg (g1 r hr) (by have := hneg r hr; grind)) (by
      rw [show sm rc (fun r => g r * -sm n (fun k => W r k * clm M k 9)) = sm rc (fun r => (-1) * (g r * sm n (fun k => W r k * clm M k 9))) from sm_congr (fun r _ => by grind), sm_mul, s9]; grind)
    have : 0 ≤ sm rc (fun r => g r * sm n (fun k => W r k * clm M k 10)) := sm_nonneg (fun r hr => by
      by_cases e : 0 < g r
      · rcases q r hr with q1 | q1
        · exfalso
          have e1 : g r * -sm n (fun k => W r k * clm M k 9) = 0 := z9 r hr
          rcases Rat.mul_eq_zero.mp e1 with e2 | e2
          · rw [e2] at e; exact absurd e (by decide)
          · have e3 : sm n (fun k => W r k * clm M k 9) = 0 := by grind
            rw [← (hR r hr).1 9 (by omega), rz_0] at e3
            exact q1 ((hz _).mpr e3)
        · rw [hp] at q1
          refine Rat.mul_nonneg (g1 r hr) ?_
          rw [← (hR r hr).1 10 (by omega), show (0 : Rat) = ((0 : Int) : Rat) from rfl]
          exact Rat.intCast_le_intCast.mpr q1
      · have e2 : g r = 0 := by have := g1 r hr; grind
        rw [e2]; grind)
    grind
/-- weights that make the wanted row -/
def DuF (n : Nat) (M : Nat → Nat → Int) (w : Nat → Rat) : Prop := (∀ k, k < n → 0 ≤ w k) ∧ ∀ j, j < 9 → sm n (fun k => w k * clm M k j) + clm M n j = 0
def Opt (n : Nat) (M : Nat → Nat → Int) (val : Rat) : Prop := (∃ w, DuF n M w ∧ -sm n (fun k => w k * clm M k 10) = val) ∧ ∀ w, DuF n M w → -sm n (fun k => w k * clm M k 10) ≤ val
theorem Cer_last {n : Nat} {M : Nat → Nat → Int} (h0 : ∀ k, k < n → M k 9 = 0) (h1 : M n 9 = -1) : CerQ (n + 1) 10 M ↔ CerQ n 9 M := by
  have hc0 : ∀ k, k < n → clm M k 9 = 0 := fun k hk => by unfold clm; rw [h0 k hk]; rfl
  have hc1 : clm M n 9 = -1 := by unfold clm; rw [h1]; rfl
  constructor
  · rintro ⟨w, a1, a2, a3⟩
    have e9 := a2 9 (by omega)
    simp only [sm] at e9 a3
    rw [sm_zero (fun k hk => by rw [hc0 k hk]; grind), hc1] at e9
    have ew : w n = 0 := by grind
    rw [ew] at a3
    refine ⟨w, fun k hk => a1 k (by omega), fun j hj => ?_, by grind⟩
    have := a2 j (by omega)
    simp only [sm] at this
    rw [ew] at this
    grind
  · rintro ⟨w, a1, a2, a3⟩
    have hs : ∀ j, sm (n + 1) (fun k => (if k < n then w k else 0) * clm M k j) = sm n (fun k => w k * clm M k j) := fun j => by
      simp only [sm]
      rw [if_neg (by omega), sm_congr (fun k hk => by rw [if_pos hk] : ∀ k, k < n → (if k < n then w k else 0) * clm M k j = w k * clm M k j)]
      grind
    refine ⟨fun k => if k < n then w k else 0, fun k hk => ?_, fun j hj => ?_, ?_⟩
    · show 0 ≤ (if k < n then w k else 0)
      split
      · exact a1 k (by omega)
      · exact Rat.le_refl
    · rw [hs]
      by_cases e : j = 9
      · subst e; exact sm_zero (fun k hk => by rw [hc0 k hk]; grind)
      · exact a2 j (by omega)
    · rw [hs]; exact a3
theorem Du_w {n : Nat} {M : Nat → Nat → Int} {w : Nat → Rat} (h : DuF n M w) (h0 : ∀ k, k < n → M k 9 = 0) (h1 : M n 9 = -1) (h2 : M n 10 = 0) : Cn (n + 1) (clm M) 9 (fun k => if k < n then w k else 1) ∧ sm (n + 1) (fun k => (if k < n then w k else 1) * clm M k 9) = -1 ∧ sm (n + 1) (fun k => (if k < n then w k else 1) * clm M k 10) = sm n (fun k => w k * clm M k 10) := by
  have hs : ∀ j, sm (n + 1) (fun k => (if k < n then w k else 1) * clm M k j) = sm n (fun k => w k * clm M k j) + clm M n j := fun j => by
    simp only [sm]
    rw [if_neg (by omega), sm_congr (fun k hk => by rw [if_pos hk] : ∀ k, k < n → (if k < n then w k else 1) * clm M k j = w k * clm M k j)]
    grind
  refine ⟨⟨fun k hk => ?_, fun j hj => ?_⟩, ?_, ?_⟩
  · show 0 ≤ (if k < n then w k else 1)
    split
    · exact h.1 k (by omega)
    · decide
  · rw [hs]; exact h.2 j hj
  · rw [hs, sm_zero (fun k hk => by unfold clm; rw [h0 k hk, show ((0 : Int) : Rat) = 0 from rfl]; grind)]
    unfold clm; rw [h1, show ((-1 : Int) : Rat) = -1 from rfl]; grind
  · rw [hs]; unfold clm; rw [h2, show ((0 : Int) : Rat) = 0 from rfl]; grind
/-- no row with the wanted in it: no weights make it -/
theorem no_best {n rc : Nat} {M : Nat → Nat → Int} {rw : Nat → Int64} {og : Nat → Int32} (hI : RI (n + 1) M 9 rc rw og) (h0 : ∀ k, k < n → M k 9 = 0) (h1 : M n 9 = -1) (h2 : M n 10 = 0) (hb : ∀ r, r < rc → ¬ rw (11 * r + 9) < 0) : ¬ ∃ w, DuF n M w := by
  rintro ⟨w, hw⟩
  obtain ⟨W, hD, hR⟩ := hI
  obtain ⟨d1, d2, d3⟩ := Du_w hw h0 h1 h2
  obtain ⟨g, g1, g2, _⟩ := hD.gen _ _ (Nat.le_refl _) d1
  rw [gen_sum g2] at d2
  have : 0 ≤ sm rc (fun r => g r * sm (n + 1) (fun k => W r k * clm M k 9)) := sm_nonneg (fun r hr => Rat.mul_nonneg (g1 r hr) (by
    rw [← (hR r hr).1 9 (by omega), show (0 : Rat) = ((0 : Int) : Rat) from rfl]
    refine Rat.intCast_le_intCast.mpr ?_
    have := hb r hr
    rw [Int64.lt_iff_toInt_lt] at this
    exact Int.not_lt.mp this))
  rw [d2] at this
  exact absurd this (by decide)
/-- the best row: the greatest of what the weights that make the wanted row give -/
theorem best_opt {n rc : Nat} {M : Nat → Nat → Int} {rw : Nat → Int64} {og : Nat → Int32} (hI : RI (n + 1) M 9 rc rw og) (h0 : ∀ k, k < n → M k 9 = 0) (h1 : M n 9 = -1) (h2 : M n 10 = 0) (hp : ∀ k, k < rc → (rw (11 * k + 9) ≠ 0 ∨ 0 ≤ rw (11 * k + 10))) {b : Nat} (hb : b < rc) (hbn : (rw (11 * b + 9)).toInt < 0) (hbb : ∀ r, r < rc → (rw (11 * r + 9)).toInt < 0 → (rw (11 * r + 10)).toInt * (rw (11 * b + 9)).toInt ≤ (rw (11 * b + 10)).toInt * (rw (11 * r + 9)).toInt) :
    Opt n M ((((rw (11 * b + 10)).toInt : Int) : Rat) * (((rw (11 * b + 9)).toInt : Int) : Rat)⁻¹) := by
  obtain ⟨W, hD, hR⟩ := hI
  have hc0 : ∀ k, k < n → clm M k 9 = 0 := fun k hk => by unfold clm; rw [h0 k hk]; rfl
  have hc1 : clm M n 9 = -1 := by unfold clm; rw [h1]; rfl
  have hc2 : clm M n 10 = 0 := by unfold clm; rw [h2]; rfl
  have row9 : ∀ r, r < rc → (((rw (11 * r + 9)).toInt : Int) : Rat) = -W r n := fun r hr => by
    rw [(hR r hr).1 9 (by omega)]
    simp only [sm]
    rw [sm_zero (fun k hk => by rw [hc0 k hk]; grind), hc1]; grind
  have hbR : (((rw (11 * b + 9)).toInt : Int) : Rat) < 0 := rz_n.mpr hbn
  obtain ⟨sb, hsb⟩ : ∃ x : Rat, x = (((rw (11 * b + 9)).toInt : Int) : Rat) := ⟨_, rfl⟩
  obtain ⟨Rb, hRb⟩ : ∃ x : Rat, x = (((rw (11 * b + 10)).toInt : Int) : Rat) := ⟨_, rfl⟩
  rw [← hsb, ← hRb]
  rw [← hsb] at hbR
  have hsi : sb * sb⁻¹ = 1 := Rat.mul_inv_cancel _ (by grind)
  have hWn : W b n = -sb := by have := row9 b hb; rw [← hsb] at this; grind
  have hni : 0 < -sb⁻¹ := by
    have := Rat.inv_pos.mpr (show 0 < -sb by grind)
    have e : (-sb)⁻¹ = -sb⁻¹ := by
      have h3 : (-sb) * (-sb)⁻¹ = 1 := Rat.mul_inv_cancel _ (by grind)
      have h4 : (-sb)⁻¹ = (sb * sb⁻¹) * (-sb)⁻¹ := by rw [hsi]; grind
      grind
    rw [← e]; exact this
  constructor
  · refine ⟨fun k => W b k * -sb⁻¹, ⟨fun k hk => Rat.mul_nonneg ((hD.1 b hb).1.1 k (by omega)) (Rat.le_of_lt hni), fun j hj => ?_⟩, ?_⟩
    · have := (hD.1 b hb).1.2 j hj
      simp only [sm] at this
      rw [hWn] at this
      rw [show sm n (fun k => W b k * -sb⁻¹ * clm M k j) = sm n (fun k => (-sb⁻¹) * (W b k * clm M k j)) from sm_congr (fun k _ => by grind), sm_mul]
      have e : sm n (fun k => W b k * clm M k j) = sb * clm M n j := by grind
      rw [e]; grind
    · have := (hR b hb).1 10 (by omega)
      simp only [sm] at this
      rw [hc2, ← hRb] at this
      rw [show sm n (fun k => W b k * -sb⁻¹ * clm M k 10) = sm n (fun k => (-sb⁻¹) * (W b k * clm M k 10)) from sm_congr (fun k _ => by grind), sm_mul]
      grind
  · intro w hw
    obtain ⟨d1, d2, d3⟩ := Du_w hw h0 h1 h2
    obtain ⟨g, g1, g2, _⟩ := hD.gen _ _ (Nat.le_refl _) d1
    rw [gen_sum g2] at d2 d3
    have key : 0 ≤ sm rc (fun r => g r * (sm (n + 1) (fun k => W r k * clm M k 10) - Rb * sb⁻¹ * sm (n + 1) (fun k => W r k * clm M k 9))) := sm_nonneg (fun r hr => Rat.mul_nonneg (g1 r hr) (by
      rw [← (hR r hr).1 10 (by omega), ← (hR r hr).1 9 (by omega)]
      have hnn : 0 ≤ W r n := (hD.1 r hr).1.1 n (by omega)
      have e9 := row9 r hr
      by_cases q : (rw (11 * r + 9)).toInt < 0
      · have h5 := hbb r hr q
        have h6 : (((rw (11 * r + 10)).toInt : Int) : Rat) * sb ≤ Rb * (((rw (11 * r + 9)).toInt : Int) : Rat) := by
          rw [hsb, hRb, ← Rat.intCast_mul, ← Rat.intCast_mul]
          exact Rat.intCast_le_intCast.mpr h5
        have h7 := Rat.mul_le_mul_of_nonneg_right h6 (Rat.le_of_lt hni)
        generalize (((rw (11 * r + 10)).toInt : Int) : Rat) = Rr at h7 ⊢
        generalize (((rw (11 * r + 9)).toInt : Int) : Rat) = sr9 at h7 ⊢
        have e10 : Rr * sb * -sb⁻¹ = -Rr := by
          have : Rr * sb * -sb⁻¹ = -(Rr * (sb * sb⁻¹)) := by grind
          rw [this, hsi]; grind
        rw [e10] at h7
        grind
      · have e0 : (((rw (11 * r + 9)).toInt : Int) : Rat) = 0 := by
          have : ¬ (((rw (11 * r + 9)).toInt : Int) : Rat) < 0 := fun e => q (rz_n.mp e)
          grind
        rw [e0]
        rcases hp r hr with q1 | q1
        · exact absurd (Int64.toInt_inj.mp (rz_0.mp e0)) q1
        · rw [Int64.le_iff_toInt_le] at q1
          have : (0 : Rat) ≤ (((rw (11 * r + 10)).toInt : Int) : Rat) := by
            rw [show (0 : Rat) = ((0 : Int) : Rat) from rfl]; exact Rat.intCast_le_intCast.mpr q1
          grind))
    rw [show sm rc (fun r => g r * (sm (n + 1) (fun k => W r k * clm M k 10) - Rb * sb⁻¹ * sm (n + 1) (fun k => W r k * clm M k 9))) = sm rc (fun r => g r * sm (n + 1) (fun k => W r k * clm M k 10) + (-(Rb * sb⁻¹)) * (g r * sm (n + 1) (fun k => W r k * clm M k 9))) from sm_congr (fun r _ => by grind), sm_add, sm_mul, d2, d3] at key
    grind
