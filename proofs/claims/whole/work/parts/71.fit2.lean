/-! ===== the rows fit, the second half ===== -/
/-- the numbers of the first rows -/
def okM (n : Nat) (M : Nat → Nat → Int) : Prop := ∃ b g K : Rat, 1 ≤ b ∧ 1 ≤ g ∧ 1 ≤ K ∧ (∀ k, k + 1 < n → exN 9 (clm M k) ≤ b * b) ∧ exN 9 (clm M (n - 1)) ≤ (b * g) * (b * g) ∧ (∀ k j, k < n → j < 11 → clm M k j * clm M k j ≤ K * K) ∧ K * (10 * (b ^ 9 * g)) < 4611686018427387904
def CJ (M : Nat → Nat → Int) (t j : Nat) : Nat → Nat → Int := fun k s => if s < t then M k s else if s = t then M k j else 0
theorem CJ_lt {M : Nat → Nat → Int} {t j k s : Nat} (h : s < t) : clm (CJ M t j) k s = clm M k s := by unfold clm CJ; rw [if_pos h]
theorem CJ_eq {M : Nat → Nat → Int} {t j k : Nat} : clm (CJ M t j) k t = clm M k j := by unfold clm CJ; rw [if_neg (by omega), if_pos rfl]
theorem CJ_gt {M : Nat → Nat → Int} {t j k s : Nat} (h : t < s) : clm (CJ M t j) k s = 0 := by unfold clm CJ; rw [if_neg (by omega), if_neg (by omega)]; rfl
theorem exN_cg {v w : Nat → Rat} : ∀ n : Nat, (∀ s, s < n → v s = w s) → exN n v = exN n w
  | 0, _ => rfl
  | n + 1, h => by simp only [exN]; rw [exN_cg n (fun s hs => h s (by omega)), h n (by omega)]
theorem exN_mono (v : Nat → Rat) {m : Nat} : ∀ n : Nat, m ≤ n → exN m v ≤ exN n v
  | 0, h => by
    have : m = 0 := by omega
    subst this; exact Rat.le_refl
  | n + 1, h => by
    by_cases e : m = n + 1
    · subst e; exact Rat.le_refl
    · have h1 := exN_mono v n (show m ≤ n by omega)
      simp only [exN]
      have := rq_3 (v n)
      grind
theorem rat_pow_mono {b : Rat} (h : 1 ≤ b) {m : Nat} : ∀ k : Nat, m ≤ k → b ^ m ≤ b ^ k
  | 0, hk => by
    have : m = 0 := by omega
    subst this; exact Rat.le_refl
  | k + 1, hk => by
    by_cases e : m = k + 1
    · subst e; exact Rat.le_refl
    · have h1 := rat_pow_mono h k (show m ≤ k by omega)
      have h2 := Rat.mul_le_mul_of_nonneg_left h (rat_pow_pos (show 0 ≤ b by grind) k)
      rw [Rat.pow_succ]; grind
theorem okM_col {n : Nat} {M : Nat → Nat → Int} (hM : okM n M) {t j : Nat} (ht : t ≤ 9) (hj : j < 11) (hn : 0 < n) : ∃ b g K : Rat, ColB t (n - 1) (CJ M t j) b g K ∧ K * (((t + 1 : Nat) : Rat) * (b ^ t * g)) < 4611686018427387904 := by
  obtain ⟨b, g, K, hb, hg, hK, h1, h2, h3, h4⟩ := hM
  have hN : ∀ k, exN t (clm (CJ M t j) k) ≤ exN 9 (clm M k) := fun k => by
    rw [exN_cg t (fun s hs => CJ_lt hs)]; exact exN_mono _ 9 ht
  refine ⟨b, g, K, ⟨hb, hg, hK, fun k hk => ⟨?_, ?_⟩, ?_, ?_⟩, ?_⟩
  · have a1 := hN k; have a2 := h1 k (by omega); grind
  · rw [CJ_eq]; exact h3 k j (by omega) hj
  · have a1 := hN (n - 1); grind
  · rw [CJ_eq]; exact h3 (n - 1) j (by omega) hj
  · have p1 := rat_pow_mono hb 9 ht
    have p0 := rat_pow_pos (show 0 ≤ b by grind) t
    have q1 : ((t + 1 : Nat) : Rat) ≤ 10 := by
      have : ((t + 1 : Nat) : Rat) ≤ ((10 : Nat) : Rat) := Rat.natCast_le_natCast.mpr (by omega)
      exact this
    have q0 : (0 : Rat) ≤ ((t + 1 : Nat) : Rat) := Rat.natCast_nonneg
    generalize ((t + 1 : Nat) : Rat) = m at q0 q1 ⊢
    generalize b ^ t = x at *
    generalize b ^ 9 = y at *
    have e1 := Rat.mul_le_mul_of_nonneg_right p1 (show 0 ≤ g by grind)
    have e2 : 0 ≤ x * g := Rat.mul_nonneg p0 (by grind)
    have e3 := Rat.mul_le_mul_of_nonneg_right q1 e2
    have e4 : 10 * (x * g) ≤ 10 * (y * g) := by grind
    have e5 := Rat.mul_le_mul_of_nonneg_left (show m * (x * g) ≤ 10 * (y * g) by grind) (show 0 ≤ K by grind)
    grind
theorem z_small2 {z : Int} (h : (z : Rat) * (z : Rat) < 4611686018427387904 * 4611686018427387904) : z.natAbs ≤ 4611686018427387903 := by
  have h1 : z * z < 4611686018427387904 * 4611686018427387904 := by
    have e : ((z * z : Int) : Rat) < ((4611686018427387904 * 4611686018427387904 : Int) : Rat) := by
      rw [Rat.intCast_mul, Rat.intCast_mul]; exact h
    exact Rat.intCast_lt_intCast.mp e
  apply Classical.byContradiction
  intro q
  rcases (by omega : 4611686018427387904 ≤ -z ∨ 4611686018427387904 ≤ z) with q | q
  · have := Int.mul_le_mul q q (by omega) (by omega)
    have e : -z * -z = z * z := by grind
    omega
  · have := Int.mul_le_mul q q (by omega) (by omega)
    omega
/-- one of least support: its row divides a row of determinants -/
theorem fitG {n t : Nat} {M : Nat → Nat → Int} {w : Nat → Rat} (hw : Mn n (clm M) t w) : ∃ lam : Rat, lam ≠ 0 ∧ ∀ j, ∃ D : Int, (D : Rat) = lam * sm n (fun k => w k * clm M k j) ∧ ∀ b g K q : Rat, ColB t (n - 1) (CJ M t j) b g K → K * (((t + 1 : Nat) : Rat) * (b ^ t * g)) < q → (D : Rat) * (D : Rat) < q * q := by
  obtain ⟨k0, hk0, hp0, hlast⟩ : ∃ k0, k0 < n ∧ 0 < w k0 ∧ ∀ k, k < n → 0 < w k → k ≠ k0 → k + 1 < n := by
    obtain ⟨k1, hk1, hp1⟩ := hw.2.1
    by_cases q : 0 < w (n - 1)
    · exact ⟨n - 1, by omega, q, fun k hk _ hne => by omega⟩
    · exact ⟨k1, hk1, hp1, fun k hk hp _ => by
        have : k ≠ n - 1 := fun e => q (by rw [← e]; exact hp)
        omega⟩
  obtain ⟨h, R, hS, hd, hh, hx⟩ := basis (t := t) (n := n) (col := clm (CJ M t 0)) (P := fun k => k < n ∧ 0 < w k ∧ k ≠ k0) (fun c hc hs => hw.dep hk0 hp0 (fun k hk q => hc k hk (fun q2 => q q2.2)) (fun s hs2 => by
    rw [← hs s hs2]; exact sm_congr (fun k _ => by rw [CJ_lt hs2]))) n (Nat.le_refl _)
  have hinv : w k0 * (w k0)⁻¹ = 1 := Rat.mul_inv_cancel _ (by grind)
  have hi0 : (w k0)⁻¹ ≠ 0 := fun e => by rw [e] at hinv; grind
  refine ⟨(w k0)⁻¹ * dt (t + 1) (hB t (clm (CJ M t 0)) h), fun e => (Rat.mul_eq_zero.mp e).elim hi0 hd, fun j => ?_⟩
  -- the weights of the held columns
  have hinj : ∀ i i' k, i < t → i' < t → h i = some k → h i' = some k → i = i' := fun i i' k hi hi' e e' => by
    have a1 := Stt_held hS hi e (show i < t + 1 by omega)
    have a2 := Stt_held hS hi' e' (show i < t + 1 by omega)
    rw [a1, if_pos rfl] at a2
    apply Classical.byContradiction
    intro q
    rw [if_neg q] at a2
    exact absurd a2 (by decide)
  have hwg : ∀ k, k < n → wgt t h (fun i => match h i with | none => 0 | some k => -(w k * (w k0)⁻¹)) k = if k = k0 then 0 else -(w k * (w k0)⁻¹) := by
    intro k hk
    unfold wgt
    by_cases e0 : k = k0
    · rw [if_pos e0]
      refine sm_zero fun i hi => ?_
      by_cases e : h i = some k
      · exact absurd e0 (hh i k hi e).1.2.2
      · rw [if_neg e]
    · rw [if_neg e0]
      by_cases hp : 0 < w k
      · obtain ⟨i, hi, e⟩ := hx k hk ⟨hk, hp, e0⟩
        rw [sm_one hi (fun i' hi' hne => by rw [if_neg (fun e' => hne (hinj _ _ k hi' hi e' e))]), if_pos e]
        show (match h i with | none => 0 | some k => -(w k * (w k0)⁻¹)) = _
        rw [e]
      · have hz : w k = 0 := by have := hw.1.1 k hk; grind
        rw [hz]
        rw [sm_zero (fun i hi => by
          by_cases e : h i = some k
          · exact absurd (hh i k hi e).1.2.1 hp
          · rw [if_neg e])]
        grind
  have hBt : ∀ j, hB t (clm (CJ M t j)) h t = un t := fun j => hB_m
  have hdt : dt (t + 1) (hB t (clm (CJ M t j)) h) = dt (t + 1) (hB t (clm (CJ M t 0)) h) := by
    have u0 : ∀ s, s < t → un t s = 0 := fun s hs => by unfold un; rw [if_neg (by omega)]
    have u1 : un t t = 1 := by simp [un]
    rw [dt_last (fun s hs => by rw [hBt, u0 s hs]) (by rw [hBt, u1]), dt_last (fun s hs => by rw [hBt, u0 s hs]) (by rw [hBt, u1])]
    refine dt_cg fun i hi s hs => ?_
    cases e : h i with
    | none => rw [hB_n e, hB_n e]
    | some k => rw [hB_s hi e, hB_s hi e, CJ_lt hs, CJ_lt hs]
  have hcol : (fun s => sm (t + 1) (fun a => (if a = t then (w k0)⁻¹ * sm n (fun k => w k * clm M k j) else (match h a with | none => 0 | some k => -(w k * (w k0)⁻¹))) * hB t (clm (CJ M t j)) h a s)) = clm (CJ M t j) k0 := by
    funext s
    simp only [sm]
    rw [hBt, if_pos trivial]
    have e1 : sm t (fun a => (if a = t then (w k0)⁻¹ * sm n (fun k => w k * clm M k j) else (match h a with | none => 0 | some k => -(w k * (w k0)⁻¹))) * hB t (clm (CJ M t j)) h a s) = sm n (fun k => (if k = k0 then 0 else -(w k * (w k0)⁻¹)) * clm (CJ M t j) k s) := by
      rw [← sm_congr (fun k hk => by rw [hwg k hk] : ∀ k, k < n → wgt t h (fun i => match h i with | none => 0 | some k => -(w k * (w k0)⁻¹)) k * clm (CJ M t j) k s = (if k = k0 then 0 else -(w k * (w k0)⁻¹)) * clm (CJ M t j) k s)]
      rw [wgt_sum t n h _ (fun i j hi e => (hh i j hi e).1.1)]
      refine sm_congr fun i hi => ?_
      rw [if_neg (by omega)]
      cases e : h i with
      | none => simp only; grind
      | some k => simp only; rw [hB_s hi e]
    rw [e1]
    have e2 := sm_split (f := fun k => -(w k * (w k0)⁻¹) * clm (CJ M t j) k s) hk0 (fun k => (if k = k0 then 0 else -(w k * (w k0)⁻¹)) * clm (CJ M t j) k s) (fun k _ hne => by rw [if_neg hne]) (by rw [if_pos rfl]; grind)
    have e3 : sm n (fun k => -(w k * (w k0)⁻¹) * clm (CJ M t j) k s) = -(w k0)⁻¹ * sm n (fun k => w k * clm (CJ M t j) k s) := by
      rw [← sm_mul]; exact sm_congr (fun k _ => by grind)
    rw [e3] at e2
    have e4 : -(w k0 * (w k0)⁻¹) * clm (CJ M t j) k0 s = -clm (CJ M t j) k0 s := by rw [hinv]; grind
    rw [e4] at e2
    rcases Nat.lt_trichotomy s t with q | q | q
    · have e5 : sm n (fun k => w k * clm (CJ M t j) k s) = 0 := by
        rw [← hw.1.2 s q]; exact sm_congr (fun k _ => by rw [CJ_lt q])
      rw [e5] at e2
      have : un t s = 0 := by unfold un; rw [if_neg (by omega)]
      rw [this]
      grind
    · subst q
      have e5 : sm n (fun k => w k * clm (CJ M s j) k s) = sm n (fun k => w k * clm M k j) := sm_congr (fun k _ => by rw [CJ_eq])
      rw [e5] at e2
      have : un s s = 1 := by simp [un]
      rw [this]
      grind
    · have e5 : sm n (fun k => w k * clm (CJ M t j) k s) = 0 := sm_zero (fun k _ => by rw [CJ_gt q]; grind)
      rw [e5] at e2
      have : un t s = 0 := by unfold un; rw [if_neg (by omega)]
      rw [this]
      grind
  have hcr := dt_cramer (n := t + 1) (c := hB t (clm (CJ M t j)) h) (i := t) (by omega) (fun a => if a = t then (w k0)⁻¹ * sm n (fun k => w k * clm M k j) else (match h a with | none => 0 | some k => -(w k * (w k0)⁻¹)))
  rw [hcol] at hcr
  simp only [if_pos] at hcr
  rw [hdt] at hcr
  obtain ⟨D, hD⟩ : isZ (dt (t + 1) (fup (hB t (clm (CJ M t j)) h) t (clm (CJ M t j) k0))) := dt_int (fun a s => by
    by_cases e : a = t
    · subst e; rw [fup_s]; exact ⟨_, rfl⟩
    · rw [fup_n _ _ e]; exact hB_Z a s)
  refine ⟨D, ?_, ?_⟩
  · rw [← hD, hcr]; grind
  · intro b g K q hC hq
    have := ColB_last hC hq (h := h) (fun i k hi e => by
      obtain ⟨⟨a1, a2, a3⟩, a4⟩ := hh i k hi e
      have := hlast k a1 a2 a3
      omega) (show k0 ≤ n - 1 by omega)
    rw [hD] at this
    exact this
theorem fit {n t : Nat} {M : Nat → Nat → Int} (hM : okM n M) (ht : t ≤ 9) {w : Nat → Rat} (hw : Mn n (clm M) t w) : ∃ lam : Rat, lam ≠ 0 ∧ ∀ j, j < 11 → ∃ D : Int, (D : Rat) = lam * sm n (fun k => w k * clm M k j) ∧ D.natAbs ≤ 4611686018427387903 := by
  obtain ⟨k, hk, _⟩ := hw.2.1
  obtain ⟨lam, h0, h⟩ := fitG hw
  refine ⟨lam, h0, fun j hj => ?_⟩
  obtain ⟨D, h1, h2⟩ := h j
  obtain ⟨b, g, K, hC, hq⟩ := okM_col hM ht hj (show 0 < n by omega)
  exact ⟨D, h1, z_small2 (h2 b g K _ hC hq)⟩
