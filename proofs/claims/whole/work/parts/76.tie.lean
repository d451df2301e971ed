/-! ===== the reference's first rows, and the class's columns ===== -/
def mt (nm : Nat → Int32) (vn k j : Nat) : Int := (brM nm vn k j).toInt
def HM (nm : Nat → Int32) (vn ct k j : Nat) : Int := if k < ct then mt nm vn k j else 0
def SM (nm wd : Nat → Int32) (vn ct k j : Nat) : Int := if k < ct then mt nm vn k j else if j < vn ∨ (3 ≤ j ∧ j < 3 + vn) then (wd j).toInt else if j = 9 then -1 else 0
def KM (nm : Nat → Int32) (vn ct k j : Nat) : Int := if k < ct then mt nm vn k j else if k < 2 * ct then (if j < vn then -(nm (7 * (k - ct) + j)).toInt else if 3 ≤ j ∧ j < 3 + vn then (nm (7 * (k - ct) + (j - 3))).toInt else if 6 ≤ j ∧ j < 6 + vn then (nm (7 * (k - ct) + 3 + (j - 6))).toInt else 0) else 0
def okN (nm : Nat → Int32) (ct : Nat) : Prop := okT (fun k i => nm (7 * k + i)) ct
theorem mt_eq (nm : Nat → Int32) (vn k j : Nat) : mt nm vn k j = if j < vn ∨ (3 ≤ j ∧ j < 3 + vn) then (nm (7 * k + j)).toInt else if j = 10 then (nm (7 * k + 6)).toInt else 0 := by
  unfold mt brM
  split
  · exact Int32.toInt_toInt64 _
  · split
    · exact Int32.toInt_toInt64 _
    · rfl
theorem mt_b {nm : Nat → Int32} {vn ct k : Nat} (hN : okN nm ct) (hv : vn ≤ 3) (hk : k < ct) (j : Nat) : (j < 9 → -9 ≤ mt nm vn k j ∧ mt nm vn k j ≤ 9) ∧ -99 ≤ mt nm vn k j ∧ mt nm vn k j ≤ 99 := by
  obtain ⟨h1, h2, h3⟩ := hN k hk
  rw [mt_eq]
  by_cases q : j < vn ∨ (3 ≤ j ∧ j < 3 + vn)
  · rw [if_pos q]
    have := h1 j (by omega)
    simp only at this
    exact ⟨fun _ => this, by omega, by omega⟩
  · rw [if_neg q]
    by_cases e : j = 10
    · rw [if_pos e]; simp only at h2 h3; exact ⟨fun _ => by omega, h2, h3⟩
    · rw [if_neg e]; exact ⟨fun _ => by omega, by omega, by omega⟩
theorem KM_b {nm : Nat → Int32} {vn ct : Nat} (hN : okN nm ct) (hv : vn ≤ 3) (k j : Nat) : (j < 9 → -9 ≤ KM nm vn ct k j ∧ KM nm vn ct k j ≤ 9) ∧ -99 ≤ KM nm vn ct k j ∧ KM nm vn ct k j ≤ 99 := by
  unfold KM
  by_cases hk : k < ct
  · rw [if_pos hk]; exact mt_b hN hv hk j
  · rw [if_neg hk]
    by_cases hk2 : k < 2 * ct
    · rw [if_pos hk2]
      obtain ⟨h1, -⟩ := hN (k - ct) (by omega)
      simp only at h1
      by_cases q : j < vn
      · rw [if_pos q]; have := h1 j (by omega); exact ⟨fun _ => by omega, by omega, by omega⟩
      · rw [if_neg q]
        by_cases q2 : 3 ≤ j ∧ j < 3 + vn
        · rw [if_pos q2]; have := h1 (j - 3) (by omega); exact ⟨fun _ => by omega, by omega, by omega⟩
        · rw [if_neg q2]
          by_cases q3 : 6 ≤ j ∧ j < 6 + vn
          · rw [if_pos q3]; have := h1 (3 + (j - 6)) (by omega); rw [← Nat.add_assoc] at this; exact ⟨fun _ => by omega, by omega, by omega⟩
          · rw [if_neg q3]; exact ⟨fun _ => by omega, by omega, by omega⟩
    · rw [if_neg hk2]; exact ⟨fun _ => by omega, by omega, by omega⟩
theorem HM_b {nm : Nat → Int32} {vn ct : Nat} (hN : okN nm ct) (hv : vn ≤ 3) (k j : Nat) : (j < 9 → -9 ≤ HM nm vn ct k j ∧ HM nm vn ct k j ≤ 9) ∧ -99 ≤ HM nm vn ct k j ∧ HM nm vn ct k j ≤ 99 := by
  unfold HM
  by_cases hk : k < ct
  · rw [if_pos hk]; exact mt_b hN hv hk j
  · rw [if_neg hk]; exact ⟨fun _ => by omega, by omega, by omega⟩
theorem okM_9 {n : Nat} {M : Nat → Nat → Int} (h : ∀ k j, (j < 9 → -9 ≤ M k j ∧ M k j ≤ 9) ∧ -99 ≤ M k j ∧ M k j ≤ 99) : okM n M := by
  have hN : ∀ k, exN 9 (clm M k) ≤ 27 * 27 := fun k => by
    have := exN_le (q := 81) (clm M k) 9 (fun t ht => by
      have h1 := sq_le (z := M k t) (q := 9) ((h k t).1 ht).1 ((h k t).1 ht).2
      show ((M k t : Int) : Rat) * ((M k t : Int) : Rat) ≤ 81
      rw [show ((9 : Int) : Rat) = 9 from rfl] at h1
      grind)
    rw [show ((9 : Nat) : Rat) = 9 from rfl] at this
    grind
  refine ⟨27, 1, 99, by grind, by grind, by grind, fun k _ => hN k, ?_, fun k j _ _ => ?_, ?_⟩
  · have := hN (n - 1); grind
  · have h1 := sq_le (z := M k j) (q := 99) (h k j).2.1 (h k j).2.2
    rw [show ((99 : Int) : Rat) = 99 from rfl] at h1
    exact h1
  · show (99 : Rat) * (10 * ((27 : Rat) ^ 9 * 1)) < _; grind
theorem okM_S {nm wd : Nat → Int32} {vn ct : Nat} (hN : okN nm ct) (hG : okG wd) (hv : vn ≤ 3) : okM (ct + 1) (SM nm wd vn ct) := by
  have hw : ∀ j, (j < 9 → -999 ≤ SM nm wd vn ct ct j ∧ SM nm wd vn ct ct j ≤ 999) ∧ -999 ≤ SM nm wd vn ct ct j ∧ SM nm wd vn ct ct j ≤ 999 := fun j => by
    unfold SM
    rw [if_neg (by omega)]
    by_cases q : j < vn ∨ (3 ≤ j ∧ j < 3 + vn)
    · rw [if_pos q]; have := hG j (by omega); exact ⟨fun _ => this, this⟩
    · rw [if_neg q]
      by_cases e : j = 9
      · rw [if_pos e]; exact ⟨fun _ => by omega, by omega, by omega⟩
      · rw [if_neg e]; exact ⟨fun _ => by omega, by omega, by omega⟩
  have hr : ∀ k, k < ct → ∀ j, SM nm wd vn ct k j = mt nm vn k j := fun k hk j => by unfold SM; rw [if_pos hk]
  refine ⟨485 / 22, 136, 999, by grind, by grind, by grind, fun k hk => ?_, ?_, fun k j hk _ => ?_, ?_⟩
  · have h6 := exN_le (q := 81) (clm (SM nm wd vn ct) k) 6 (fun t ht => by
      have hb := (mt_b hN hv (show k < ct by omega) t).1 (by omega)
      have h1 := sq_le (z := mt nm vn k t) (q := 9) hb.1 hb.2
      show ((SM nm wd vn ct k t : Int) : Rat) * ((SM nm wd vn ct k t : Int) : Rat) ≤ 81
      rw [hr k (by omega)]
      rw [show ((9 : Int) : Rat) = 9 from rfl] at h1
      grind)
    have z : ∀ j, 6 ≤ j → j < 9 → clm (SM nm wd vn ct) k j = 0 := fun j h1 h2 => by
      unfold clm
      rw [hr k (by omega), mt_eq, if_neg (by omega), if_neg (by omega)]; rfl
    simp only [exN] at h6 ⊢
    rw [z 6 (by omega) (by omega), z 7 (by omega) (by omega), z 8 (by omega) (by omega)]
    rw [show ((6 : Nat) : Rat) = 6 from rfl] at h6
    grind
  · rw [Nat.add_sub_cancel]
    have := exN_le (q := 998001) (clm (SM nm wd vn ct) ct) 9 (fun t ht => by
      have h1 := sq_le (z := SM nm wd vn ct ct t) (q := 999) (hw t).2.1 (hw t).2.2
      rw [show ((999 : Int) : Rat) = 999 from rfl] at h1
      show ((SM nm wd vn ct ct t : Int) : Rat) * ((SM nm wd vn ct ct t : Int) : Rat) ≤ 998001
      grind)
    rw [show ((9 : Nat) : Rat) = 9 from rfl] at this
    grind
  · have hb : -999 ≤ SM nm wd vn ct k j ∧ SM nm wd vn ct k j ≤ 999 := by
      by_cases e : k < ct
      · rw [hr k e]; have := (mt_b hN hv e j).2; omega
      · have : k = ct := by omega
        subst this; exact (hw j).2
    have h1 := sq_le (z := SM nm wd vn ct k j) (q := 999) hb.1 hb.2
    rw [show ((999 : Int) : Rat) = 999 from rfl] at h1
    exact h1
  · show (999 : Rat) * (10 * ((485 / 22 : Rat) ^ 9 * 136)) < _; grind
theorem Cer_910 {n : Nat} {M : Nat → Nat → Int} (h : ∀ k, k < n → M k 9 = 0) : CerQ n 10 M ↔ CerQ n 9 M := by
  constructor
  · rintro ⟨w, h1, h2, h3⟩; exact ⟨w, h1, fun j hj => h2 j (by omega), h3⟩
  · rintro ⟨w, h1, h2, h3⟩
    refine ⟨w, h1, fun j hj => ?_, h3⟩
    by_cases e : j = 9
    · subst e; exact sm_zero (fun k hk => by unfold clm; rw [h k hk, show ((0 : Int) : Rat) = 0 from rfl]; grind)
    · exact h2 j (by omega)
/-- a turn and such weights don't go together -/
theorem Fea_no {n m : Nat} {C : Nat → Nat → Int} {y : Nat → Rat} (h : Fea n m C y) : ¬ Cer n m C := by
  rintro ⟨w, h1, h2, h3⟩
  have e : sm n (fun j => w j * sm m (fun t => y t * clm C j t)) = 0 := by
    rw [show sm n (fun j => w j * sm m (fun t => y t * clm C j t)) = sm n (fun j => sm m (fun t => y t * (w j * clm C j t))) from sm_congr (fun j _ => by rw [← sm_mul]; exact sm_congr (fun t _ => by grind)), sm_swap]
    exact sm_zero (fun t ht => by rw [sm_mul, h2 t ht]; grind)
  have := sm_le (f := fun j => w j * sm m (fun t => y t * clm C j t)) (g := fun j => w j * clm C j m) (k := n) (fun j hj => Rat.mul_le_mul_of_nonneg_left (h j hj) (h1 j hj))
  grind
def sgm (vn t : Nat) : Nat := if t < vn then t else 3 + (t - vn)
theorem CG_mt {T : Nat → Nat → Int32} {nm gl : Nat → Int32} {vn ct : Nat} (hv : vn ≤ 3) (hT : ∀ k i, k < ct → i < 7 → T k i = nm (7 * k + i)) {k : Nat} (hk : k < ct) : (∀ t, t < 2 * vn → CG T gl vn ct k t = mt nm vn k (sgm vn t)) ∧ CG T gl vn ct k (2 * vn) = mt nm vn k 10 := by
  refine ⟨fun t ht => ?_, ?_⟩
  · rw [mt_eq]; unfold CG sgm
    rw [if_pos hk]
    by_cases q : t < vn
    · rw [if_pos q, if_pos q, if_pos (by omega), hT k t hk (by omega)]
    · rw [if_neg q, if_pos ht, if_neg q, if_pos (by omega), hT k _ hk (by omega)]
  · rw [mt_eq]; unfold CG
    rw [if_pos hk, if_neg (by omega), if_neg (by omega), if_neg (by omega), if_pos rfl, hT k 6 hk (by omega)]
/-- the columns of the class are those of the reference that are not 0 -/
theorem col_tie {nm : Nat → Int32} {vn ct : Nat} (hv : vn ≤ 3) (P : Nat → Prop) (h0 : ∀ j, j < 9 → ¬ (j < vn ∨ (3 ≤ j ∧ j < 3 + vn)) → P j) : (∀ t, t < 2 * vn → P (sgm vn t)) ↔ ∀ j, j < 9 → P j := by
  constructor
  · intro h j hj
    by_cases q : j < vn ∨ (3 ≤ j ∧ j < 3 + vn)
    · by_cases q2 : j < vn
      · have := h j (by omega)
        unfold sgm at this
        rw [if_pos q2] at this
        exact this
      · have := h (vn + (j - 3)) (by omega)
        unfold sgm at this
        rw [if_neg (by omega), show 3 + (vn + (j - 3) - vn) = j by omega] at this
        exact this
    · exact h0 j hj q
  · intro h t ht
    exact h _ (by unfold sgm; split <;> omega)
theorem Cer_tie {T : Nat → Nat → Int32} {nm gl : Nat → Int32} {vn ct : Nat} {M : Nat → Nat → Int} (hv : vn ≤ 3) (hT : ∀ k i, k < ct → i < 7 → T k i = nm (7 * k + i)) (hM : ∀ k, k < ct → ∀ j, M k j = mt nm vn k j) : Cer ct (2 * vn) (CG T gl vn ct) ↔ CerQ ct 9 M := by
  have hc : ∀ (w : Nat → Rat), (∀ t, t < 2 * vn → sm ct (fun j => w j * clm (CG T gl vn ct) j t) = 0) ↔ ∀ j, j < 9 → sm ct (fun k => w k * clm M k j) = 0 := fun w => by
    rw [← col_tie (nm := nm) (ct := ct) hv (fun j => sm ct (fun k => w k * clm M k j) = 0) (fun j hj q => sm_zero (fun k hk => by
      unfold clm; rw [hM k hk, mt_eq, if_neg q, if_neg (by omega), show ((0 : Int) : Rat) = 0 from rfl]; grind))]
    have e : ∀ t, t < 2 * vn → sm ct (fun j => w j * clm (CG T gl vn ct) j t) = sm ct (fun k => w k * clm M k (sgm vn t)) := fun t ht => sm_congr (fun k hk => by
      unfold clm; rw [(CG_mt hv hT hk).1 t ht, hM k hk])
    exact ⟨fun h t ht => by rw [← e t ht]; exact h t ht, fun h t ht => by rw [e t ht]; exact h t ht⟩
  have hr : ∀ w : Nat → Rat, sm ct (fun j => w j * clm (CG T gl vn ct) j (2 * vn)) = sm ct (fun k => w k * clm M k 10) := fun w => sm_congr (fun k hk => by
    unfold clm; rw [(CG_mt hv hT hk).2, hM k hk])
  constructor
  · rintro ⟨w, h1, h2, h3⟩; exact ⟨w, h1, (hc w).mp h2, by rw [← hr]; exact h3⟩
  · rintro ⟨w, h1, h2, h3⟩; exact ⟨w, h1, (hc w).mpr h2, by rw [hr]; exact h3⟩
theorem Du_tie {T : Nat → Nat → Int32} {nm gl wd : Nat → Int32} {vn ct : Nat} (hv : vn ≤ 3) (hT : ∀ k i, k < ct → i < 7 → T k i = nm (7 * k + i)) (hg : ∀ i, i < 6 → gl i = wd i) {w : Nat → Rat} : DuF ct (SM nm wd vn ct) w ↔ (∀ j, j < ct → 0 ≤ w j) ∧ ∀ t, t < 2 * vn → sm ct (fun j => w j * clm (CG T gl vn ct) j t) = clm (CG T gl vn ct) ct t := by
  unfold DuF
  have hM : ∀ k, k < ct → ∀ j, SM nm wd vn ct k j = mt nm vn k j := fun k hk j => by unfold SM; rw [if_pos hk]
  rw [← col_tie (nm := nm) (ct := ct) hv (fun j => sm ct (fun k => w k * clm (SM nm wd vn ct) k j) + clm (SM nm wd vn ct) ct j = 0) (fun j hj q => by
    rw [sm_zero (fun k hk => by
      unfold clm; rw [hM k hk, mt_eq, if_neg q, if_neg (by omega), show ((0 : Int) : Rat) = 0 from rfl]; grind)]
    unfold clm SM; rw [if_neg (by omega), if_neg q, if_neg (by omega), show ((0 : Int) : Rat) = 0 from rfl]; grind)]
  have e : ∀ t, t < 2 * vn → sm ct (fun j => w j * clm (CG T gl vn ct) j t) = sm ct (fun k => w k * clm (SM nm wd vn ct) k (sgm vn t)) := fun t ht => sm_congr (fun k hk => by
    unfold clm; rw [(CG_mt hv hT hk).1 t ht, hM k hk])
  have e2 : ∀ t, t < 2 * vn → clm (CG T gl vn ct) ct t = -clm (SM nm wd vn ct) ct (sgm vn t) := fun t ht => by
    by_cases q : t < vn
    · rw [show sgm vn t = t by unfold sgm; rw [if_pos q]]
      unfold clm CG SM
      rw [if_neg (Nat.lt_irrefl ct), if_neg (Nat.lt_irrefl ct), if_pos q, if_pos (Or.inl q), hg t (by omega), Rat.intCast_neg]
    · rw [show sgm vn t = 3 + (t - vn) by unfold sgm; rw [if_neg q]]
      unfold clm CG SM
      rw [if_neg (Nat.lt_irrefl ct), if_neg (Nat.lt_irrefl ct), if_neg q, if_pos ht, if_pos (show 3 + (t - vn) < vn ∨ (3 ≤ 3 + (t - vn) ∧ 3 + (t - vn) < 3 + vn) by omega), hg _ (by omega), Rat.intCast_neg]
  constructor
  · rintro ⟨h1, h2⟩
    exact ⟨h1, fun t ht => by have := h2 t ht; rw [e t ht, e2 t ht]; grind⟩
  · rintro ⟨h1, h2⟩
    exact ⟨h1, fun t ht => by have := h2 t ht; rw [e t ht, e2 t ht] at this; grind⟩
theorem Fou_tie {T : Nat → Nat → Int32} {nm gl wd : Nat → Int32} {vn ct : Nat} (hv : vn ≤ 3) (hT : ∀ k i, k < ct → i < 7 → T k i = nm (7 * k + i)) (hg : ∀ i, i < 6 → gl i = wd i) {val : Rat} (h : Fou ct (2 * vn) (CG T gl vn ct) val) : ¬ CerQ ct 9 (SM nm wd vn ct) ∧ Opt ct (SM nm wd vn ct) val := by
  obtain ⟨y, w, h1, h2, h3, h4, h5⟩ := h
  have hM : ∀ k, k < ct → ∀ j, SM nm wd vn ct k j = mt nm vn k j := fun k hk j => by unfold SM; rw [if_pos hk]
  have hr : ∀ w : Nat → Rat, sm ct (fun j => w j * clm (CG T gl vn ct) j (2 * vn)) = sm ct (fun k => w k * clm (SM nm wd vn ct) k 10) := fun w => sm_congr (fun k hk => by
    unfold clm; rw [(CG_mt hv hT hk).2, hM k hk])
  refine ⟨fun q => Fea_no h1 ((Cer_tie hv hT hM).mpr q), ⟨w, (Du_tie hv hT hg).mpr ⟨h2, h3⟩, by rw [← hr, h5]; grind⟩, fun w' hw' => ?_⟩
  obtain ⟨a1, a2⟩ := (Du_tie hv hT hg).mp hw'
  rw [← hr]
  have e : sm ct (fun j => w' j * sm (2 * vn) (fun t => y t * clm (CG T gl vn ct) j t)) = sm (2 * vn) (fun t => y t * clm (CG T gl vn ct) ct t) := by
    rw [show sm ct (fun j => w' j * sm (2 * vn) (fun t => y t * clm (CG T gl vn ct) j t)) = sm ct (fun j => sm (2 * vn) (fun t => y t * (w' j * clm (CG T gl vn ct) j t))) from sm_congr (fun j _ => by rw [← sm_mul]; exact sm_congr (fun t _ => by grind)), sm_swap]
    exact sm_congr (fun t ht => by rw [sm_mul, a2 t ht])
  have := sm_le (f := fun j => w' j * sm (2 * vn) (fun t => y t * clm (CG T gl vn ct) j t)) (g := fun j => w' j * clm (CG T gl vn ct) j (2 * vn)) (k := ct) (fun j hj => Rat.mul_le_mul_of_nonneg_left (h1 j hj) (a1 j hj))
  grind
theorem Nol_tie {T : Nat → Nat → Int32} {nm gl wd : Nat → Int32} {vn ct : Nat} (hv : vn ≤ 3) (hT : ∀ k i, k < ct → i < 7 → T k i = nm (7 * k + i)) (hg : ∀ i, i < 6 → gl i = wd i) (h : Nol ct (2 * vn) (CG T gl vn ct)) : ¬ CerQ ct 9 (SM nm wd vn ct) ∧ ¬ ∃ w, DuF ct (SM nm wd vn ct) w := by
  obtain ⟨⟨y, h1⟩, z, h2, h3⟩ := h
  have hM : ∀ k, k < ct → ∀ j, SM nm wd vn ct k j = mt nm vn k j := fun k hk j => by unfold SM; rw [if_pos hk]
  refine ⟨fun q => Fea_no h1 ((Cer_tie hv hT hM).mpr q), ?_⟩
  rintro ⟨w, hw⟩
  obtain ⟨a1, a2⟩ := (Du_tie hv hT hg).mp hw
  have e : sm ct (fun j => w j * sm (2 * vn) (fun t => z t * clm (CG T gl vn ct) j t)) = sm (2 * vn) (fun t => z t * clm (CG T gl vn ct) ct t) := by
    rw [show sm ct (fun j => w j * sm (2 * vn) (fun t => z t * clm (CG T gl vn ct) j t)) = sm ct (fun j => sm (2 * vn) (fun t => z t * (w j * clm (CG T gl vn ct) j t))) from sm_congr (fun j _ => by rw [← sm_mul]; exact sm_congr (fun t _ => by grind)), sm_swap]
    exact sm_congr (fun t ht => by rw [sm_mul, a2 t ht])
  have := sm_nonneg (f := fun j => w j * sm (2 * vn) (fun t => z t * clm (CG T gl vn ct) j t)) (k := ct) (fun j hj => Rat.mul_nonneg (a1 j hj) (h2 j hj))
  grind
theorem Opt_eq {n : Nat} {M : Nat → Nat → Int} {v1 v2 : Rat} (h1 : Opt n M v1) (h2 : Opt n M v2) : v1 = v2 := by
  obtain ⟨⟨w1, a1, a2⟩, a3⟩ := h1
  obtain ⟨⟨w2, b1, b2⟩, b3⟩ := h2
  have := a3 w2 b1
  have := b3 w1 a1
  grind
theorem sm_cat (f : Nat → Rat) (a : Nat) : ∀ b, sm (a + b) f = sm a f + sm b (fun k => f (a + k))
  | 0 => by simp only [sm, Nat.add_zero]; grind
  | b + 1 => by
    rw [show a + (b + 1) = a + b + 1 by omega]
    simp only [sm]
    rw [sm_cat f a b]; grind
/-- the ranking's columns, in sums: p, q of the first half, r, s of the second -/
theorem CR_tie {T : Nat → Nat → Int32} {nm : Nat → Int32} {vn ct : Nat} (hv1 : 1 ≤ vn) (hv : vn ≤ 3) (hT : ∀ k i, k < ct → i < 7 → T k i = nm (7 * k + i)) : Cer (2 * ct) (3 * vn) (CR T vn ct) ↔ CerQ (2 * ct) 9 (KM nm vn ct) := by
  -- the sums of the numbers of the rules
  obtain ⟨S, hS⟩ : ∃ S : (Nat → Rat) → Nat → Rat, S = fun w i => sm ct (fun k => w k * (((nm (7 * k + i)).toInt : Int) : Rat)) := ⟨_, rfl⟩
  have z0 : ((0 : Int) : Rat) = 0 := rfl
  have c1 : ∀ (w : Nat → Rat) (i : Nat), i < vn → sm (2 * ct) (fun j => w j * clm (CR T vn ct) j i) = S w (3 + i) := fun w i hi => by
    rw [show 2 * ct = ct + ct by omega, sm_cat, sm_zero (f := fun k => w (ct + k) * clm (CR T vn ct) (ct + k) i) (fun k hk => by
      unfold clm CR; rw [if_neg (by omega), if_pos (by omega), if_pos hi, z0]; grind), hS]
    show _ = sm ct _
    rw [show ∀ x : Rat, x + 0 = x from fun x => by grind]
    exact sm_congr (fun k hk => by unfold clm CR; rw [if_pos hk, if_pos hi, hT k _ hk (by omega)])
  have c2 : ∀ (w : Nat → Rat) (i : Nat), i < vn → sm (2 * ct) (fun j => w j * clm (CR T vn ct) j (vn + i)) = -S w i + S (fun k => w (ct + k)) i := fun w i hi => by
    rw [show 2 * ct = ct + ct by omega, sm_cat, hS]
    show _ = -sm ct _ + sm ct _
    congr 1
    · rw [show ∀ x : Rat, -x = (-1) * x from fun x => by grind, ← sm_mul]
      exact sm_congr (fun k hk => by unfold clm CR; rw [if_pos hk, if_neg (by omega), if_pos (by omega), show vn + i - vn = i by omega, hT k _ hk (by omega), Rat.intCast_neg]; grind)
    · exact sm_congr (fun k hk => by unfold clm CR; rw [if_neg (by omega), if_pos (by omega), if_neg (by omega), if_pos (by omega), show vn + i - vn = i by omega, show ct + k - ct = k by omega, hT k _ hk (by omega)])
  have c3 : ∀ (w : Nat → Rat) (i : Nat), i < vn → sm (2 * ct) (fun j => w j * clm (CR T vn ct) j (2 * vn + i)) = S (fun k => w (ct + k)) i + S (fun k => w (ct + k)) (3 + i) := fun w i hi => by
    rw [show 2 * ct = ct + ct by omega, sm_cat, sm_zero (f := fun k => w k * clm (CR T vn ct) k (2 * vn + i)) (fun k hk => by
      unfold clm CR; rw [if_pos hk, if_neg (by omega), if_neg (by omega), z0]; grind), hS]
    show _ = sm ct _ + sm ct _
    rw [← sm_add, show ∀ x : Rat, 0 + x = x from fun x => by grind]
    exact sm_congr (fun k hk => by unfold clm CR; rw [if_neg (by omega), if_pos (by omega), if_neg (by omega), if_neg (by omega), if_pos (by omega), show 2 * vn + i - 2 * vn = i by omega, show ct + k - ct = k by omega, hT k _ hk (by omega), hT k _ hk (by omega), Rat.intCast_add]; grind)
  have c4 : ∀ (w : Nat → Rat), sm (2 * ct) (fun j => w j * clm (CR T vn ct) j (3 * vn)) = S (fun k => w (ct + k)) 6 := fun w => by
    rw [show 2 * ct = ct + ct by omega, sm_cat, sm_zero (f := fun k => w k * clm (CR T vn ct) k (3 * vn)) (fun k hk => by
      unfold clm CR; rw [if_pos hk, if_neg (by omega), if_neg (by omega), z0]; grind), hS]
    show _ = sm ct _
    rw [show ∀ x : Rat, 0 + x = x from fun x => by grind]
    exact sm_congr (fun k hk => by unfold clm CR; rw [if_neg (by omega), if_pos (by omega), if_neg (by omega), if_neg (by omega), if_neg (by omega), show ct + k - ct = k by omega, hT k _ hk (by omega)])
  have k1 : ∀ (w : Nat → Rat) (i : Nat), i < vn → sm (2 * ct) (fun j => w j * clm (KM nm vn ct) j i) = S w i + -S (fun k => w (ct + k)) i := fun w i hi => by
    rw [show 2 * ct = ct + ct by omega, sm_cat, hS]
    show _ = sm ct _ + -sm ct _
    congr 1
    · exact sm_congr (fun k hk => by unfold clm KM; rw [if_pos hk, mt_eq, if_pos (by omega)])
    · rw [show ∀ x : Rat, -x = (-1) * x from fun x => by grind, ← sm_mul]
      exact sm_congr (fun k hk => by unfold clm KM; rw [if_neg (by omega), if_pos (by omega), if_pos hi, show ct + k - ct = k by omega, Rat.intCast_neg]; grind)
  have k2 : ∀ (w : Nat → Rat) (i : Nat), i < vn → sm (2 * ct) (fun j => w j * clm (KM nm vn ct) j (3 + i)) = S w (3 + i) + S (fun k => w (ct + k)) i := fun w i hi => by
    rw [show 2 * ct = ct + ct by omega, sm_cat, hS]
    show _ = sm ct _ + sm ct _
    congr 1
    · exact sm_congr (fun k hk => by unfold clm KM; rw [if_pos hk, mt_eq, if_pos (by omega)])
    · exact sm_congr (fun k hk => by unfold clm KM; rw [if_neg (by omega), if_pos (by omega), if_neg (by omega), if_pos (by omega), show ct + k - ct = k by omega, show 3 + i - 3 = i by omega])
  have k3 : ∀ (w : Nat → Rat) (i : Nat), i < vn → sm (2 * ct) (fun j => w j * clm (KM nm vn ct) j (6 + i)) = S (fun k => w (ct + k)) (3 + i) := fun w i hi => by
    rw [show 2 * ct = ct + ct by omega, sm_cat, sm_zero (f := fun k => w k * clm (KM nm vn ct) k (6 + i)) (fun k hk => by
      unfold clm KM; rw [if_pos hk, mt_eq, if_neg (by omega), if_neg (by omega), z0]; grind), hS]
    show _ = sm ct _
    rw [show ∀ x : Rat, 0 + x = x from fun x => by grind]
    exact sm_congr (fun k hk => by unfold clm KM; rw [if_neg (by omega), if_pos (by omega), if_neg (by omega), if_neg (by omega), if_pos (by omega), show ct + k - ct = k by omega, show 7 * k + 3 + (6 + i - 6) = 7 * k + (3 + i) by omega])
  have k4 : ∀ (w : Nat → Rat), sm (2 * ct) (fun j => w j * clm (KM nm vn ct) j 10) = S w 6 := fun w => by
    rw [show 2 * ct = ct + ct by omega, sm_cat, sm_zero (f := fun k => w (ct + k) * clm (KM nm vn ct) (ct + k) 10) (fun k hk => by
      unfold clm KM; rw [if_neg (by omega), if_pos (by omega), if_neg (by omega), if_neg (by omega), if_neg (by omega), z0]; grind), hS]
    show _ = sm ct _
    rw [show ∀ x : Rat, x + 0 = x from fun x => by grind]
    exact sm_congr (fun k hk => by unfold clm KM; rw [if_pos hk, mt_eq, if_neg (by omega), if_pos rfl])
  have k5 : ∀ (w : Nat → Rat) (j : Nat), j < 9 → ¬ (j < vn) → ¬ (3 ≤ j ∧ j < 3 + vn) → ¬ (6 ≤ j ∧ j < 6 + vn) → sm (2 * ct) (fun k => w k * clm (KM nm vn ct) k j) = 0 := fun w j hj h1 h2 h3 => sm_zero (fun k hk => by
    unfold clm KM
    by_cases q : k < ct
    · rw [if_pos q, mt_eq, if_neg (by omega), if_neg (by omega), z0]; grind
    · rw [if_neg q, if_pos hk, if_neg h1, if_neg h2, if_neg h3, z0]; grind)
  have Sc : ∀ (w w' : Nat → Rat) (i : Nat), (∀ k, k < ct → w k = w' k) → S w i = S w' i := fun w w' i h => by
    rw [hS]; exact sm_congr (fun k hk => by rw [h k hk])
  have s1 : ∀ (w : Nat → Rat) (i : Nat), S (fun k => if k < ct then w (ct + k) else w (k - ct)) i = S (fun k => w (ct + k)) i := fun w i => Sc _ _ i (fun k hk => if_pos hk)
  have s2 : ∀ (w : Nat → Rat) (i : Nat), S (fun k => if ct + k < ct then w (ct + (ct + k)) else w (ct + k - ct)) i = S w i := fun w i => Sc _ _ i (fun k hk => by
    show (if ct + k < ct then w (ct + (ct + k)) else w (ct + k - ct)) = w k
    rw [if_neg (by omega)]; congr 1; omega)
  have hnn : ∀ w : Nat → Rat, (∀ k, k < 2 * ct → 0 ≤ w k) → ∀ k, k < 2 * ct → 0 ≤ (if k < ct then w (ct + k) else w (k - ct)) := fun w h k hk => by
    split
    · exact h _ (by omega)
    · exact h _ (by omega)
  constructor
  · rintro ⟨w, h1, h2, h3⟩
    rw [c4] at h3
    refine ⟨fun k => if k < ct then w (ct + k) else w (k - ct), hnn w h1, fun j hj => ?_, ?_⟩
    · by_cases q1 : j < vn
      · have a2 := h2 (vn + j) (by omega)
        rw [c2 w j q1] at a2
        rw [k1 _ j q1, s1, s2]; grind
      · by_cases q2 : 3 ≤ j ∧ j < 3 + vn
        · obtain ⟨i, rfl⟩ : ∃ i, j = 3 + i := ⟨j - 3, by omega⟩
          have a2 := h2 (vn + i) (by omega)
          have a3 := h2 (2 * vn + i) (by omega)
          rw [c2 w i (by omega)] at a2
          rw [c3 w i (by omega)] at a3
          rw [k2 _ i (by omega), s1, s2]; grind
        · by_cases q3 : 6 ≤ j ∧ j < 6 + vn
          · obtain ⟨i, rfl⟩ : ∃ i, j = 6 + i := ⟨j - 6, by omega⟩
            have a1 := h2 i (by omega)
            rw [c1 w i (by omega)] at a1
            rw [k3 _ i (by omega), s2]; exact a1
          · exact k5 _ j hj q1 q2 q3
    · rw [k4, s1]; exact h3
  · rintro ⟨w, h1, h2, h3⟩
    rw [k4] at h3
    refine ⟨fun k => if k < ct then w (ct + k) else w (k - ct), hnn w h1, fun t ht => ?_, ?_⟩
    · by_cases q1 : t < vn
      · have a3 := h2 (6 + t) (by omega)
        rw [k3 w t q1] at a3
        rw [c1 _ t q1, s1]; exact a3
      · by_cases q2 : t < 2 * vn
        · obtain ⟨i, rfl⟩ : ∃ i, t = vn + i := ⟨t - vn, by omega⟩
          have a1 := h2 i (by omega)
          rw [k1 w i (by omega)] at a1
          rw [c2 _ i (by omega), s1, s2]; grind
        · obtain ⟨i, rfl⟩ : ∃ i, t = 2 * vn + i := ⟨t - 2 * vn, by omega⟩
          have a1 := h2 i (by omega)
          have a2 := h2 (3 + i) (by omega)
          rw [k1 w i (by omega)] at a1
          rw [k2 w i (by omega)] at a2
          rw [c3 _ i (by omega), s2, s2]; grind
    · rw [c4, s2]; exact h3
theorem H_K {nm : Nat → Int32} {vn ct : Nat} (h : CerQ ct 9 (HM nm vn ct)) : CerQ (2 * ct) 9 (KM nm vn ct) := by
  obtain ⟨w, h1, h2, h3⟩ := h
  have hs : ∀ j, sm (2 * ct) (fun k => (if k < ct then w k else 0) * clm (KM nm vn ct) k j) = sm ct (fun k => w k * clm (HM nm vn ct) k j) := fun j => by
    rw [show 2 * ct = ct + ct by omega, sm_cat, sm_zero (f := fun k => (if ct + k < ct then w (ct + k) else 0) * clm (KM nm vn ct) (ct + k) j) (fun k _ => by rw [if_neg (by omega)]; grind)]
    rw [show ∀ x : Rat, x + 0 = x from fun x => by grind]
    exact sm_congr (fun k hk => by rw [if_pos hk]; unfold clm KM HM; rw [if_pos hk, if_pos hk])
  refine ⟨fun k => if k < ct then w k else 0, fun k _ => ?_, fun j hj => by rw [hs]; exact h2 j hj, by rw [hs]; exact h3⟩
  show 0 ≤ (if k < ct then w k else 0)
  split
  · exact h1 k (by omega)
  · exact Rat.le_refl
/-- the wanted row's own column is small -/
theorem col9_S {nm wd : Nat → Int32} {vn ct : Nat} (hN : okN nm ct) (hG : okG wd) (hv : vn ≤ 3) : ColB 9 (ct + 1 - 1) (CJ (SM nm wd vn ct) 9 9) (485 / 22) 136 1 ∧ (1 : Rat) * (((9 + 1 : Nat) : Rat) * ((485 / 22 : Rat) ^ 9 * 136)) < 2251799813685248 := by
  have hr : ∀ k, k < ct → ∀ j, SM nm wd vn ct k j = mt nm vn k j := fun k hk j => by unfold SM; rw [if_pos hk]
  have hc : ∀ k, k ≤ ct → clm (CJ (SM nm wd vn ct) 9 9) k 9 * clm (CJ (SM nm wd vn ct) 9 9) k 9 ≤ 1 * 1 := fun k hk => by
    rw [CJ_eq]
    have : -1 ≤ SM nm wd vn ct k 9 ∧ SM nm wd vn ct k 9 ≤ 1 := by
      unfold SM
      by_cases q : k < ct
      · rw [if_pos q, mt_eq, if_neg (by omega), if_neg (by omega)]; omega
      · rw [if_neg q, if_neg (by omega), if_pos rfl]; omega
    have h1 := sq_le (z := SM nm wd vn ct k 9) (q := 1) this.1 this.2
    rw [show ((1 : Int) : Rat) = 1 from rfl] at h1
    exact h1
  rw [Nat.add_sub_cancel]
  refine ⟨⟨by grind, by grind, by grind, fun k hk => ⟨?_, hc k (by omega)⟩, ?_, hc ct (by omega)⟩, ?_⟩
  · rw [exN_cg 9 (fun s hs => CJ_lt hs)]
    have h6 := exN_le (q := 81) (clm (SM nm wd vn ct) k) 6 (fun t ht => by
      have hb := (mt_b hN hv (show k < ct by omega) t).1 (by omega)
      have h1 := sq_le (z := mt nm vn k t) (q := 9) hb.1 hb.2
      show ((SM nm wd vn ct k t : Int) : Rat) * ((SM nm wd vn ct k t : Int) : Rat) ≤ 81
      rw [hr k (by omega)]
      rw [show ((9 : Int) : Rat) = 9 from rfl] at h1
      grind)
    have z : ∀ j, 6 ≤ j → j < 9 → clm (SM nm wd vn ct) k j = 0 := fun j h1 h2 => by
      unfold clm
      rw [hr k (by omega), mt_eq, if_neg (by omega), if_neg (by omega)]; rfl
    simp only [exN] at h6 ⊢
    rw [z 6 (by omega) (by omega), z 7 (by omega) (by omega), z 8 (by omega) (by omega)]
    rw [show ((6 : Nat) : Rat) = 6 from rfl] at h6
    grind
  · rw [exN_cg 9 (fun s hs => CJ_lt hs)]
    have := exN_le (q := 998001) (clm (SM nm wd vn ct) ct) 9 (fun t ht => by
      have hw : -999 ≤ SM nm wd vn ct ct t ∧ SM nm wd vn ct ct t ≤ 999 := by
        unfold SM
        rw [if_neg (by omega)]
        by_cases q : t < vn ∨ (3 ≤ t ∧ t < 3 + vn)
        · rw [if_pos q]; exact hG t (by omega)
        · rw [if_neg q, if_neg (by omega)]; omega
      have h1 := sq_le (z := SM nm wd vn ct ct t) (q := 999) hw.1 hw.2
      rw [show ((999 : Int) : Rat) = 999 from rfl] at h1
      show ((SM nm wd vn ct ct t : Int) : Rat) * ((SM nm wd vn ct ct t : Int) : Rat) ≤ 998001
      grind)
    rw [show ((9 : Nat) : Rat) = 9 from rfl] at this
    grind
  · rw [show ((9 + 1 : Nat) : Rat) = 10 from rfl]; grind
theorem z_small3 {z : Int} (h : (z : Rat) * (z : Rat) < 2251799813685248 * 2251799813685248) : z.natAbs < 2251799813685248 := by
  have h1 : z * z < 2251799813685248 * 2251799813685248 := by
    have e : ((z * z : Int) : Rat) < ((2251799813685248 * 2251799813685248 : Int) : Rat) := by
      rw [Rat.intCast_mul, Rat.intCast_mul]; exact h
    exact Rat.intCast_lt_intCast.mp e
  apply Classical.byContradiction
  intro q
  rcases (by omega : 2251799813685248 ≤ -z ∨ 2251799813685248 ≤ z) with q | q
  · have := Int.mul_le_mul q q (by omega) (by omega)
    have e : -z * -z = z * z := by grind
    omega
  · have := Int.mul_le_mul q q (by omega) (by omega)
    omega
theorem fb_small {nm wd : Nat → Int32} {vn ct rc : Nat} {rw : Nat → Int64} {og : Nat → Int32} (hN : okN nm ct) (hG : okG wd) (hv : vn ≤ 3) (hI : RI (ct + 1) (SM nm wd vn ct) 9 rc rw og) {b : Nat} (hb : b < rc) (hbn : (rw (11 * b + 9)).toInt < 0) {a9 b9 : Int} (hval : (a9 : Rat) = ((((rw (11 * b + 10)).toInt : Int) : Rat) * (((rw (11 * b + 9)).toInt : Int) : Rat)⁻¹) * (b9 : Rat)) (hp : 0 < b9) (hg : Nat.gcd a9.natAbs b9.natAbs = 1) : b9 < 2251799813685248 := by
  obtain ⟨W, hD, hR⟩ := hI
  obtain ⟨lam, h0, h⟩ := fitG (hD.1 b hb)
  obtain ⟨D9, d1, d2⟩ := h 9
  obtain ⟨D10, e1, -⟩ := h 10
  rw [← (hR b hb).1 9 (by omega)] at d1
  rw [← (hR b hb).1 10 (by omega)] at e1
  obtain ⟨c1, c2⟩ := col9_S hN hG hv
  have hsm := z_small3 (d2 _ _ _ _ c1 c2)
  have hs0 : (((rw (11 * b + 9)).toInt : Int) : Rat) ≠ 0 := fun e => by rw [rz_0] at e; omega
  have hsi := Rat.mul_inv_cancel _ hs0
  have hcross : a9 * D9 = D10 * b9 := by
    have : ((a9 * D9 : Int) : Rat) = ((D10 * b9 : Int) : Rat) := by
      rw [Rat.intCast_mul, Rat.intCast_mul, d1, e1, hval]
      generalize (((rw (11 * b + 9)).toInt : Int) : Rat) = s9 at hsi ⊢
      generalize (((rw (11 * b + 10)).toInt : Int) : Rat) = r9
      have : r9 * s9⁻¹ * (b9 : Rat) * (lam * s9) = lam * r9 * (b9 : Rat) * (s9 * s9⁻¹) := by grind
      rw [this, hsi]; grind
    exact Rat.intCast_inj.mp this
  have hD9 : D9 ≠ 0 := fun e => by
    rw [e] at d1
    have : lam * (((rw (11 * b + 9)).toInt : Int) : Rat) = 0 := d1.symm
    rcases Rat.mul_eq_zero.mp this with q | q
    · exact h0 q
    · exact hs0 q
  have hdv : b9.natAbs ∣ a9.natAbs * D9.natAbs := by
    rw [← Int.natAbs_mul, hcross, Int.natAbs_mul]
    exact Nat.dvd_mul_left _ _
  have hco : Nat.Coprime b9.natAbs a9.natAbs := by rw [Nat.coprime_iff_gcd_eq_one, Nat.gcd_comm]; exact hg
  have hdv2 := Nat.Coprime.dvd_of_dvd_mul_left hco hdv
  have := Nat.le_of_dvd (by omega) hdv2
  omega
