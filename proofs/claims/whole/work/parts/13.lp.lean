/-! ===== PURE: states of the table; what they say of the system; Bland's rule ===== -/
/-- the columns that a state holds: a row that holds none has its unit column, the cost's row too -/
def hB (m : Nat) (col : Nat → Nat → Rat) (h : Nat → Option Nat) : Nat → Nat → Rat := fun i => if i < m then (match h i with | none => un i | some j => col j) else un i
theorem hB_n {m : Nat} {col : Nat → Nat → Rat} {h : Nat → Option Nat} {i : Nat} (e : h i = none) : hB m col h i = un i := by
  unfold hB; split
  · rw [e]
  · rfl
theorem hB_s {m : Nat} {col : Nat → Nat → Rat} {h : Nat → Option Nat} {i j : Nat} (hi : i < m) (e : h i = some j) : hB m col h i = col j := by
  unfold hB; rw [if_pos hi, e]
theorem hB_m {m : Nat} {col : Nat → Nat → Rat} {h : Nat → Option Nat} : hB m col h m = un m := by
  unfold hB; rw [if_neg (by omega)]
/-- m equations and a cost, n weights: a state -/
def Stt (m n : Nat) (col : Nat → Nat → Rat) (h : Nat → Option Nat) (R : Nat → Nat → Rat) : Prop :=
  Bs (m + 1) (hB m col h) R ∧ ∀ i j, i < m → h i = some j → j < n
theorem hB_up {m : Nat} {col : Nat → Nat → Rat} {h : Nat → Option Nat} {r c : Nat} (hr : r < m) : hB m col (fup h r (some c)) = fup (hB m col h) r (col c) := by
  funext i
  by_cases e : i = r
  · subst e
    rw [fup_s, hB_s hr (fup_s h i (some c))]
  · rw [fup_n _ _ e]
    unfold hB
    rw [fup_n _ _ e]
theorem Stt_pv {m n : Nat} {col : Nat → Nat → Rat} {h : Nat → Option Nat} {R : Nat → Nat → Rat} (H : Stt m n col h R) {r c : Nat} (hr : r < m) (hc : c < n) (hp : cd (m + 1) R (col c) r ≠ 0) : Stt m n col (fup h r (some c)) (pv (m + 1) R r (col c)) := by
  refine ⟨?_, fun i j hi e => ?_⟩
  · rw [hB_up hr]
    exact Bs_pv H.1 (by omega) hp
  · by_cases ei : i = r
    · subst ei
      rw [fup_s] at e
      cases e
      exact hc
    · rw [fup_n _ _ ei] at e
      exact H.2 i j hi e
/-- a held column's coordinates -/
theorem Stt_held {m n : Nat} {col : Nat → Nat → Rat} {h : Nat → Option Nat} {R : Nat → Nat → Rat} (H : Stt m n col h R) {i k j : Nat} (hi : i < m) (e : h i = some j) (hk : k < m + 1) : cd (m + 1) R (col j) k = if k = i then 1 else 0 := by
  have := H.1.2 k i hk (by omega)
  rw [hB_s hi e] at this
  exact this
theorem Stt_m {m n : Nat} {col : Nat → Nat → Rat} {h : Nat → Option Nat} {R : Nat → Nat → Rat} (H : Stt m n col h R) {k : Nat} (hk : k < m + 1) : R k m = if k = m then 1 else 0 := by
  have := H.1.2 k m hk (by omega)
  rw [hB_m, cd_un (by omega)] at this
  exact this
/-- the cost's row: what is left of the cost at a point y -/
theorem Stt_cost {m n : Nat} {col : Nat → Nat → Rat} {h : Nat → Option Nat} {R : Nat → Nat → Rat} (H : Stt m n col h R) (v : Nat → Rat) : cd (m + 1) R v m = v m - sm m (fun t => (-R m t) * v t) := by
  unfold cd
  simp only [sm]
  rw [Stt_m H (by omega), if_pos rfl]
  have : sm m (fun t => (-R m t) * v t) = (-1) * sm m (fun t => R m t * v t) := by
    rw [← sm_mul]; exact sm_congr (fun t _ => by grind)
  rw [this]; grind
/-- another row: it doesn't see the cost -/
theorem Stt_row {m n : Nat} {col : Nat → Nat → Rat} {h : Nat → Option Nat} {R : Nat → Nat → Rat} (H : Stt m n col h R) {i : Nat} (hi : i < m) (v : Nat → Rat) : cd (m + 1) R v i = sm m (fun t => R i t * v t) := by
  unfold cd
  simp only [sm]
  rw [Stt_m H (by omega), if_neg (by omega)]
  grind
/-- the weights of the columns that a vector's coordinates give -/
def wgt (m : Nat) (h : Nat → Option Nat) (x : Nat → Rat) (j : Nat) : Rat := sm m (fun i => if h i = some j then x i else 0)
theorem wgt_sum (m n : Nat) (h : Nat → Option Nat) (x : Nat → Rat) (hh : ∀ i j, i < m → h i = some j → j < n) (g : Nat → Rat) : sm n (fun j => wgt m h x j * g j) = sm m (fun i => match h i with | none => 0 | some j => x i * g j) := by
  have h1 : sm n (fun j => wgt m h x j * g j) = sm n (fun j => sm m (fun i => (if h i = some j then x i else 0) * g j)) := sm_congr (fun j _ => by unfold wgt; rw [sm_mulr])
  rw [h1, sm_swap]
  refine sm_congr (fun i hi => ?_)
  cases e : h i with
  | none => exact sm_zero (fun j _ => by simp)
  | some j0 =>
    rw [sm_one (hh i j0 hi e) (fun j _ hj => by rw [if_neg (fun q : some j0 = some j => hj (Option.some.inj q).symm)]; exact Rat.zero_mul _)]
    simp
theorem wgt_nonneg {m : Nat} {h : Nat → Option Nat} {x : Nat → Rat} (hx : ∀ i j, i < m → h i = some j → 0 ≤ x i) (j : Nat) : 0 ≤ wgt m h x j := sm_nonneg (fun i hi => by
  by_cases e : h i = some j
  · rw [if_pos e]; exact hx i j hi e
  · rw [if_neg e]; grind)
/-- a vector out of the columns held, where the rows that hold none have nothing of it -/
theorem Stt_out {m n : Nat} {col : Nat → Nat → Rat} {h : Nat → Option Nat} {R : Nat → Nat → Rat} (H : Stt m n col h R) (v : Nat → Rat) (hz : ∀ i, i < m → h i = none → cd (m + 1) R v i = 0) {t : Nat} (ht : t < m + 1) : sm n (fun j => wgt m h (cd (m + 1) R v) j * col j t) = v t - cd (m + 1) R v m * un m t := by
  rw [wgt_sum m n h _ H.2 (fun j => col j t)]
  have h1 := H.1.1 v t ht
  simp only [sm] at h1
  rw [hB_m] at h1
  have h2 : sm m (fun i => match h i with | none => 0 | some j => cd (m + 1) R v i * col j t) = sm m (fun i => cd (m + 1) R v i * hB m col h i t) := sm_congr (fun i hi => by
    cases e : h i with
    | none => simp only; rw [hz i hi e]; grind
    | some j => simp only; rw [hB_s hi e])
  rw [h2]
  grind
/-- no row hinders column q, whose cost is below 0: weights that no turn allows -/
theorem Stt_falls {m n : Nat} {col : Nat → Nat → Rat} {h : Nat → Option Nat} {R : Nat → Nat → Rat} (H : Stt m n col h R) (hz : ∀ i, i < m → h i = none → ∀ j, j < n → cd (m + 1) R (col j) i = 0) {q : Nat} (hq : q < n) (hc : cd (m + 1) R (col q) m < 0) (hl : ∀ i j, i < m → h i = some j → cd (m + 1) R (col q) i ≤ 0) :
    ∃ w : Nat → Rat, (∀ j, j < n → 0 ≤ w j) ∧ (∀ t, t < m → sm n (fun j => w j * col j t) = 0) ∧ sm n (fun j => w j * col j m) < 0 := by
  have hs : ∀ t, t < m + 1 → sm n (fun j => ((if j = q then 1 else 0) + wgt m h (fun i => -cd (m + 1) R (col q) i) j) * col j t) = cd (m + 1) R (col q) m * un m t := by
    intro t ht
    have h1 : sm n (fun j => ((if j = q then 1 else 0) + wgt m h (fun i => -cd (m + 1) R (col q) i) j) * col j t) = sm n (fun j => (if j = q then 1 else 0) * col j t + (-1) * (wgt m h (cd (m + 1) R (col q)) j * col j t)) := sm_congr (fun j _ => by
      have : wgt m h (fun i => -cd (m + 1) R (col q) i) j = (-1) * wgt m h (cd (m + 1) R (col q)) j := by
        unfold wgt; rw [← sm_mul]; exact sm_congr (fun i _ => by split <;> grind)
      rw [this]; grind)
    rw [h1, sm_add, sm_mul, sm_one hq (fun j _ hj => by simp [hj]), Stt_out H (col q) (fun i hi e => hz i hi e q hq) ht]
    simp
    grind
  refine ⟨fun j => (if j = q then 1 else 0) + wgt m h (fun i => -cd (m + 1) R (col q) i) j, fun j _ => ?_, fun t ht => ?_, ?_⟩
  · have h1 := wgt_nonneg (m := m) (h := h) (x := fun i => -cd (m + 1) R (col q) i) (fun i j hi e => by have := hl i j hi e; grind) j
    show (0 : Rat) ≤ (if j = q then 1 else 0) + _
    split <;> grind
  · rw [hs t (by omega)]; simp [un, show t ≠ m by omega]
  · rw [hs m (by omega)]; simp [un]; exact hc
/-- Bland, first half: column f can't both come in at S1 and go out at S2, where what lies above f and is held at S2 is held at S1 -/
theorem bland_p {m n : Nat} {col : Nat → Nat → Rat} {h1 h2 : Nat → Option Nat} {R1 R2 : Nat → Nat → Rat} (H1 : Stt m n col h1 R1) (H2 : Stt m n col h2 R2) (hz : ∀ i, i < m → h2 i = none → ∀ j, j < n → cd (m + 1) R2 (col j) i = 0)
    {f q r : Nat} (hf : cd (m + 1) R1 (col f) m < 0) (hfl : ∀ j, j < f → 0 ≤ cd (m + 1) R1 (col j) m)
    (hqn : q < n) (hq : cd (m + 1) R2 (col q) m < 0) (hr : r < m) (hrf : h2 r = some f) (hrp : 0 < cd (m + 1) R2 (col q) r) (hl : ∀ i j, i < m → h2 i = some j → 0 < cd (m + 1) R2 (col q) i → f ≤ j)
    (hqf : q < f) (hab : ∀ i j, i < m → h2 i = some j → f < j → ∃ k, k < m ∧ h1 k = some j) : False := by
  -- col q = what is held at S2, and of the cost
  have e1 : ∀ t, t < m + 1 → col q t = sm n (fun j => wgt m h2 (cd (m + 1) R2 (col q)) j * col j t) + cd (m + 1) R2 (col q) m * un m t := fun t ht => by
    rw [Stt_out H2 (col q) (fun i hi e => hz i hi e q hqn) ht]; grind
  have e2 : cd (m + 1) R1 (col q) m = sm n (fun j => wgt m h2 (cd (m + 1) R2 (col q)) j * cd (m + 1) R1 (col j) m) + cd (m + 1) R2 (col q) m * 1 := by
    rw [cd_congr e1, cd_add, cd_sum, cd_smul, cd_un (by omega), Stt_m H1 (by omega), if_pos rfl]
  rw [wgt_sum m n h2 _ H2.2 (fun j => cd (m + 1) R1 (col j) m)] at e2
  have e3 : sm m (fun i => match h2 i with | none => 0 | some j => cd (m + 1) R2 (col q) i * cd (m + 1) R1 (col j) m) ≤ 0 := by
    have : sm m (fun i => match h2 i with | none => (0 : Rat) | some j => cd (m + 1) R2 (col q) i * cd (m + 1) R1 (col j) m) ≤ sm m (fun _ => 0) := sm_le (fun i hi => by
      cases e : h2 i with
      | none => simp only; grind
      | some j =>
        simp only
        by_cases hj : f < j
        · obtain ⟨k, hk, ek⟩ := hab i j hi e hj
          rw [Stt_held H1 hk ek (by omega), if_neg (by omega)]; grind
        · by_cases ej : j = f
          · subst ej
            have hir : i = r := by
              have a1 := Stt_held H2 hi e (k := r) (by omega)
              have a2 := Stt_held H2 hr hrf (k := r) (by omega)
              rw [a2] at a1
              by_cases q9 : r = i
              · exact q9.symm
              · simp [q9] at a1
            subst hir
            have := Rat.mul_pos hrp (show 0 < -cd (m + 1) R1 (col j) m by grind)
            grind
          · have g1 := hfl j (by omega)
            have g2 : cd (m + 1) R2 (col q) i ≤ 0 := by
              by_cases g : 0 < cd (m + 1) R2 (col q) i
              · have := hl i j hi e g; omega
              · exact Rat.not_lt.mp g
            have := Rat.mul_nonneg (show 0 ≤ -cd (m + 1) R2 (col q) i by grind) g1
            grind)
    rw [sm_zero (fun _ _ => rfl)] at this
    exact this
  have e4 := hfl q hqf
  grind
