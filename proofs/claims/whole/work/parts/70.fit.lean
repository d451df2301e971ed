/-! ===== the reference's rows fit: each divides a row of determinants ===== -/
theorem exW_cg : ∀ (n : Nat) {v w : Nat → Rat}, (∀ t, t < n → v t = w t) → ∀ x : Ex n, exW n v x = exW n w x
  | 0, _, _, _, _ => rfl
  | n + 1, v, w, h, x => by
    simp only [exW]
    rw [exW_cg n (fun t ht => h t (by omega)), exW_cg n (fun t ht => h t (by omega)), h n (by omega)]
theorem exD_cg (n : Nat) {c d : Nat → Nat → Rat} : ∀ k : Nat, (∀ i, i < k → ∀ t, t < n → c i t = d i t) → exD n k c = exD n k d
  | 0, _ => rfl
  | k + 1, h => by
    simp only [exD]
    rw [exD_cg n k (fun i hi => h i (by omega)), exW_cg n (h k (by omega))]
theorem dt_cg {n : Nat} {c d : Nat → Nat → Rat} (h : ∀ i, i < n → ∀ t, t < n → c i t = d i t) : dt n c = dt n d := by
  unfold dt; rw [exD_cg n n h]
/-- one of least support: without one of its members nothing else depends -/
theorem Mn.dep {n : Nat} {A : Nat → Nat → Rat} {t : Nat} {w : Nat → Rat} (h : Mn n A t w) {k0 : Nat} (hk0 : k0 < n) (hp0 : 0 < w k0) {c : Nat → Rat} (hc : ∀ k, k < n → ¬ (0 < w k ∧ k ≠ k0) → c k = 0) (hs : ∀ j, j < t → sm n (fun k => c k * A k j) = 0) : ∀ k, k < n → c k = 0 := by
  have key : ∀ u : Nat → Rat, (∃ i, i < n ∧ 0 < u i) → (∀ i, i < n → ¬ (0 < w i ∧ i ≠ k0) → u i = 0) → (∀ j, j < t → sm n (fun i => u i * A i j) = 0) → False := by
    intro u hu huP hus
    obtain ⟨k, hk, hp, hm⟩ := qmin w u n hu
    have hwk : 0 < w k := by
      apply Classical.byContradiction
      intro q9
      have := huP k hk (fun q => q9 q.1)
      grind
    have hkk : k ≠ k0 := fun e => by
      subst e
      have := huP k hk (fun q => q.2 rfl)
      grind
    have hi : 0 < (u k)⁻¹ := Rat.inv_pos.mpr hp
    have hii : u k * (u k)⁻¹ = 1 := Rat.mul_inv_cancel _ (by grind)
    have hr : 0 < w k * (u k)⁻¹ := Rat.mul_pos hwk hi
    have hC : Cn n A t (fun j => w j - w k * (u k)⁻¹ * u j) := by
      refine ⟨fun j hj => ?_, fun j hj => ?_⟩
      · have hw := h.1.1 j hj
        by_cases q : 0 < u j
        · have h1 := hm j hj q
          have h2 := Rat.mul_le_mul_of_nonneg_right h1 (Rat.le_of_lt hi)
          have h3 : w j * u k * (u k)⁻¹ = w j := by rw [Rat.mul_assoc, hii, Rat.mul_one]
          grind
        · have := Rat.mul_nonneg (Rat.le_of_lt hr) (show 0 ≤ -u j by grind)
          grind
      · rw [show sm n (fun i => (w i - w k * (u k)⁻¹ * u i) * A i j) = sm n (fun i => w i * A i j + (-(w k * (u k)⁻¹)) * (u i * A i j)) from sm_congr (fun i _ => by grind), sm_add, sm_mul, h.1.2 j hj, hus j hj]
        grind
    have hz : Nz n (fun j => w j - w k * (u k)⁻¹ * u j) := ⟨k0, hk0, by
      have := huP k0 hk0 (fun q => q.2 rfl)
      show 0 < w k0 - w k * (u k)⁻¹ * u k0
      rw [this]; grind⟩
    have hsub : Sb n (fun j => w j - w k * (u k)⁻¹ * u j) w := fun j hj q9 => by
      apply Classical.byContradiction
      intro q8
      have e1 := huP j hj (fun q => q8 q.1)
      have e2 := h.1.1 j hj
      have q7 : 0 < w j - w k * (u k)⁻¹ * u j := q9
      rw [e1] at q7
      exact q8 (rq_4 q7)
    have q6 : 0 < w k - w k * (u k)⁻¹ * u k := h.2.2 _ hC hz hsub k hk hwk
    exact rq_6 hii q6
  intro k hk
  apply Classical.byContradiction
  intro q
  by_cases hpos : 0 < c k
  · exact key c ⟨k, hk, hpos⟩ hc hs
  · refine key (fun i => -c i) ⟨k, hk, ?_⟩ (fun i hi q2 => by show -c i = 0; rw [hc i hi q2]; grind) (fun j hj => ?_)
    · show 0 < -c k; grind
    · rw [show sm n (fun i => -c i * A i j) = sm n (fun i => (-1) * (c i * A i j)) from sm_congr (fun i _ => by grind), sm_mul, hs j hj]; grind
/-- columns that don't depend on each other stand in a basis -/
theorem basis {t n : Nat} {col : Nat → Nat → Rat} {P : Nat → Prop} (hind : ∀ c : Nat → Rat, (∀ k, k < n → ¬ P k → c k = 0) → (∀ s, s < t → sm n (fun k => c k * col k s) = 0) → ∀ k, k < n → c k = 0) :
    ∀ m, m ≤ n → ∃ (h : Nat → Option Nat) (R : Nat → Nat → Rat), Stt t n col h R ∧ dt (t + 1) (hB t col h) ≠ 0 ∧ (∀ i j, i < t → h i = some j → P j ∧ j < m) ∧ ∀ j, j < m → P j → ∃ i, i < t ∧ h i = some j
  | 0, _ => by
    have e : hB t col (fun _ => none) = un := funext fun i => hB_n rfl
    refine ⟨fun _ => none, un, ⟨by rw [e]; exact Bs_un _, fun i j _ q => by cases q⟩, by rw [e, dt_un]; decide, fun i j _ q => (by cases q), fun j hj => by omega⟩
  | m + 1, hm => by
    obtain ⟨h, R, hS, hd, h1, h2⟩ := basis hind m (by omega)
    by_cases hP : P m
    · have hex : ∃ r, r < t ∧ h r = none ∧ cd (t + 1) R (col m) r ≠ 0 := by
        apply Classical.byContradiction
        intro q
        have hz : ∀ i, i < t → h i = none → cd (t + 1) R (col m) i = 0 := fun i hi e => by
          apply Classical.byContradiction
          intro q2
          exact q ⟨i, hi, e, q2⟩
        have hw0 : ∀ k, ¬ (P k ∧ k < m) → wgt t h (cd (t + 1) R (col m)) k = 0 := fun k hk => by
          unfold wgt
          refine sm_zero fun i hi => ?_
          rw [if_neg (fun e => hk (h1 i k hi e))]
        have hc := hind (fun k => wgt t h (cd (t + 1) R (col m)) k - un m k) (fun k hk hnP => by
          show wgt t h (cd (t + 1) R (col m)) k - un m k = 0
          rw [hw0 k (fun q2 => hnP q2.1)]
          have : un m k = 0 := by unfold un; rw [if_neg (fun e => hnP (by rw [e]; exact hP))]
          rw [this]; grind) (fun s hs => by
          have ho := Stt_out hS (col m) hz (show s < t + 1 by omega)
          have e1 : un t s = 0 := by unfold un; rw [if_neg (by omega)]
          rw [e1] at ho
          rw [show sm n (fun k => (wgt t h (cd (t + 1) R (col m)) k - un m k) * col k s) = sm n (fun k => wgt t h (cd (t + 1) R (col m)) k * col k s + (-1) * (un m k * col k s)) from sm_congr (fun k _ => by grind), sm_add, sm_mul, ho]
          rw [sm_one (f := fun k => un m k * col k s) (i := m) (by omega) (fun k _ hk => by unfold un; rw [if_neg hk]; grind)]
          have e2 : un m m = 1 := by simp [un]
          show _ + -1 * (un m m * col m s) = 0
          rw [e2]; grind) m (by omega)
        have e3 : wgt t h (cd (t + 1) R (col m)) m - un m m = 0 := hc
        rw [hw0 m (by omega), show un m m = 1 by simp [un]] at e3
        grind
      obtain ⟨r, hr, hn, hp⟩ := hex
      refine ⟨fup h r (some m), _, Stt_pv hS hr (show m < n by omega) hp, ?_, fun i j hi e => ?_, fun j hj hPj => ?_⟩
      · rw [hB_up hr, dt_cd hS.1 (by omega)]
        exact fun e => (Rat.mul_eq_zero.mp e).elim hp hd
      · by_cases ei : i = r
        · subst ei; rw [fup_s] at e; cases e; exact ⟨hP, by omega⟩
        · rw [fup_n _ _ ei] at e
          have := h1 i j hi e
          exact ⟨this.1, by omega⟩
      · by_cases e : j = m
        · subst e; exact ⟨r, hr, fup_s _ _ _⟩
        · obtain ⟨i, hi, hij⟩ := h2 j (by omega) hPj
          refine ⟨i, hi, ?_⟩
          rw [fup_n _ _ (fun e2 => by rw [e2, hn] at hij; cases hij)]
          exact hij
    · refine ⟨h, R, hS, hd, fun i j hi e => ?_, fun j hj hPj => ?_⟩
      · have := h1 i j hi e; exact ⟨this.1, by omega⟩
      · exact h2 j (by
          have : j ≠ m := fun e => hP (by rw [← e]; exact hPj)
          omega) hPj
theorem ColB_last {me nw : Nat} {C : Nat → Nat → Int} {b g K q : Rat} (H : ColB me nw C b g K) (h2 : K * (((me + 1 : Nat) : Rat) * (b ^ me * g)) < q) {h : Nat → Option Nat} (hh : ∀ i j, i < me → h i = some j → j < nw) {j : Nat} (hj : j ≤ nw) :
    dt (me + 1) (fup (hB me (clm C) h) me (clm C j)) * dt (me + 1) (fup (hB me (clm C) h) me (clm C j)) < q * q := by
  have d2 := (ColB_dt H hh (Nat.le_refl me) hj).2 rfl
  obtain ⟨hb, hg, hK, -⟩ := H
  have hp := rat_pow_pos (show 0 ≤ b by grind) me
  obtain ⟨y, hy1, hy2, hy⟩ : ∃ y : Rat, 1 ≤ y ∧ y ≤ g ∧ y = (if j = nw then g else 1) := by
    by_cases e : j = nw
    · exact ⟨g, hg, by grind, by simp [e]⟩
    · exact ⟨1, by grind, hg, by simp [e]⟩
  rw [← hy] at d2
  have hle : b ^ me * y ≤ b ^ me * g := Rat.mul_le_mul_of_nonneg_left hy2 hp
  have hnn : 0 ≤ b ^ me * y := Rat.mul_nonneg hp (by grind)
  have hm0 : (0 : Rat) ≤ ((me + 1 : Nat) : Rat) := Rat.natCast_nonneg
  rw [Rat.pow_succ] at d2
  generalize dt (me + 1) (fup (hB me (clm C) h) me (clm C j)) = x at d2 ⊢
  generalize ((me + 1 : Nat) : Rat) = m1 at d2 h2 hm0
  have hZ : K * (m1 * (b ^ me * b * y)) = (K * (m1 * (b ^ me * y))) * b := by grind
  rw [hZ] at d2
  have hbp : 0 < b := by grind
  have hbb := Rat.mul_pos hbp hbp
  have d3 : x * x ≤ (K * (m1 * (b ^ me * y))) * (K * (m1 * (b ^ me * y))) := by
    apply Rat.le_of_mul_le_mul_left (c := b * b) _ hbb
    grind
  have hK0 : 0 ≤ K := by grind
  refine sqlt d3 (Rat.mul_nonneg hK0 (Rat.mul_nonneg hm0 hnn)) ?_
  have := Rat.mul_le_mul_of_nonneg_left (Rat.mul_le_mul_of_nonneg_left hle hm0) hK0
  grind
