/-! ===== the two tables that are weighed ===== -/
theorem Gd_init {me nw : Nat} {C : Nat → Nat → Int} {M : Nat → Nat → Int64} {hd : Nat → Int32} {tw : Int32} {iv : Int64} (hU : Unt 1 tw iv) (hM : ∀ i j, i ≤ me → j ≤ nw → (M i j).toInt = C j i) (hh : ∀ i, i < me → hd i = -1) : Gd me nw C M hd 1 tw iv (fun _ => none) un := by
  have e : hB me (clm C) (fun _ => none) = un := funext fun i => hB_n rfl
  refine ⟨⟨by rw [e]; exact Bs_un _, fun i j _ q => by cases q⟩, hU, ⟨1, by grind, ?_⟩, fun i j hi hj => ?_, hh⟩
  · rw [e, dt_un]
    show (1 : Rat) = 1 * ((1 : Int) : Rat)
    rw [show ((1 : Int) : Rat) = 1 from rfl]; grind
  · rw [hM i j hi hj]
    have : cd (me + 1) un (clm C j) i = clm C j i := by
      unfold cd
      rw [sm_one (show i < me + 1 by omega) (fun k _ hk => by simp [un, hk])]
      simp [un]
    rw [this]
    show _ = ((1 : Int) : Rat) * _
    rw [show ((1 : Int) : Rat) = 1 from rfl]
    unfold clm
    grind
/-- the rules' numbers are as the document has them -/
def okT (T : Nat → Nat → Int32) (ct : Nat) : Prop := ∀ k, k < ct → (∀ i, i < 6 → -9 ≤ (T k i).toInt ∧ (T k i).toInt ≤ 9) ∧ -99 ≤ (T k 6).toInt ∧ (T k 6).toInt ≤ 99
def okG (gl : Nat → Int32) : Prop := ∀ i, i < 6 → -999 ≤ (gl i).toInt ∧ (gl i).toInt ≤ 999
def CG (T : Nat → Nat → Int32) (gl : Nat → Int32) (vn ct : Nat) : Nat → Nat → Int := fun j t =>
  if j < ct then (if t < vn then (T j t).toInt else if t < 2 * vn then (T j (3 + (t - vn))).toInt else (T j 6).toInt) else (if t < vn then -(gl t).toInt else if t < 2 * vn then -(gl (3 + (t - vn))).toInt else 0)
theorem neg32 {x : Int32} (h : -1000000 ≤ x.toInt) (h2 : x.toInt ≤ 1000000) : (-x).toInt = -x.toInt := by
  rw [Int32.toInt_neg]
  exact Int.bmod_eq_of_le (by omega) (by omega)
theorem add32 {x y : Int32} (h : -1000000 ≤ x.toInt + y.toInt) (h2 : x.toInt + y.toInt ≤ 1000000) : (x + y).toInt = x.toInt + y.toInt := by
  rw [Int32.toInt_add]
  exact Int.bmod_eq_of_le (by omega) (by omega)
theorem CG_t {T : Nat → Nat → Int32} {gl : Nat → Int32} {vn ct : Nat} (hg : okG gl) (hv : vn ≤ 3) {a b : Nat} : (tgG T gl vn ct a b).toInt = CG T gl vn ct b a := by
  unfold tgG CG
  split
  · split
    · exact Int32.toInt_toInt64 _
    · split <;> exact Int32.toInt_toInt64 _
  · split
    · rw [Int32.toInt_toInt64]
      have := hg a (by omega)
      exact neg32 (by omega) (by omega)
    · split
      · rw [Int32.toInt_toInt64]
        have := hg (3 + (a - vn)) (by omega)
        exact neg32 (by omega) (by omega)
      · rfl
theorem sq_le {z : Int} {q : Int} (h1 : -q ≤ z) (h2 : z ≤ q) : (z : Rat) * (z : Rat) ≤ (q : Rat) * (q : Rat) := by
  rw [← Rat.intCast_mul, ← Rat.intCast_mul]
  apply Rat.intCast_le_intCast.mpr
  rcases Int.le_total 0 z with h | h
  · exact Int.mul_le_mul h2 h2 h (by omega)
  · have := Int.mul_le_mul (show -z ≤ q by omega) (show -z ≤ q by omega) (by omega) (by omega)
    have e : -z * -z = z * z := by grind
    omega
theorem CG_rule {T : Nat → Nat → Int32} {gl : Nat → Int32} {vn ct : Nat} (hT : okT T ct) (hv : vn ≤ 3) {j : Nat} (hj : j < ct) : (∀ t, t < 2 * vn → -9 ≤ CG T gl vn ct j t ∧ CG T gl vn ct j t ≤ 9) ∧ -99 ≤ CG T gl vn ct j (2 * vn) ∧ CG T gl vn ct j (2 * vn) ≤ 99 := by
  obtain ⟨h1, h2⟩ := hT j hj
  refine ⟨fun t ht => ?_, ?_⟩
  · unfold CG
    rw [if_pos hj]
    split
    · exact h1 t (by omega)
    · exact h1 _ (by omega)
  · unfold CG
    rw [if_pos hj, if_neg (by omega), if_neg (by omega)]
    exact h2
theorem CG_rhs {T : Nat → Nat → Int32} {gl : Nat → Int32} {vn ct : Nat} (hg : okG gl) (hv : vn ≤ 3) : (∀ t, t < 2 * vn → -999 ≤ CG T gl vn ct ct t ∧ CG T gl vn ct ct t ≤ 999) ∧ CG T gl vn ct ct (2 * vn) = 0 := by
  refine ⟨fun t ht => ?_, ?_⟩
  · unfold CG
    rw [if_neg (by omega)]
    split
    · have := hg t (by omega); omega
    · have := hg (3 + (t - vn)) (by omega); omega
  · unfold CG
    rw [if_neg (by omega), if_neg (by omega), if_neg (by omega)]
theorem CG_col {T : Nat → Nat → Int32} {gl : Nat → Int32} {vn ct : Nat} (hT : okT T ct) (hg : okG gl) (hv : vn ≤ 3) {b g : Rat} (hb : 1 ≤ b) (hg1 : 1 ≤ g) (h1 : 486 ≤ b * b) (h2 : 5988006 ≤ (b * g) * (b * g)) : ColB (2 * vn) ct (CG T gl vn ct) b g 99 := by
  have hn : ((2 * vn : Nat) : Rat) ≤ 6 := by
    have : ((2 * vn : Nat) : Rat) ≤ ((6 : Nat) : Rat) := Rat.natCast_le_natCast.mpr (by omega)
    exact this
  have hn0 : (0 : Rat) ≤ ((2 * vn : Nat) : Rat) := Rat.natCast_nonneg
  refine ⟨hb, hg1, by grind, fun j hj => ⟨?_, ?_⟩, ?_, ?_⟩
  · have := exN_le (q := 81) (clm (CG T gl vn ct) j) (2 * vn) (fun t ht => by
      have := sq_le (q := 9) ((CG_rule (gl := gl) hT hv hj).1 t ht).1 ((CG_rule (gl := gl) hT hv hj).1 t ht).2
      show ((CG T gl vn ct j t : Int) : Rat) * ((CG T gl vn ct j t : Int) : Rat) ≤ 81
      exact Rat.le_trans this (by rw [show ((9 : Int) : Rat) = 9 from rfl]; grind))
    grind
  · have := sq_le (q := 99) (CG_rule (gl := gl) hT hv hj).2.1 (CG_rule (gl := gl) hT hv hj).2.2
    exact this
  · have := exN_le (q := 998001) (clm (CG T gl vn ct) ct) (2 * vn) (fun t ht => by
      have := sq_le (q := 999) ((CG_rhs (T := T) (ct := ct) hg hv).1 t ht).1 ((CG_rhs (T := T) (ct := ct) hg hv).1 t ht).2
      show ((CG T gl vn ct ct t : Int) : Rat) * ((CG T gl vn ct ct t : Int) : Rat) ≤ 998001
      exact Rat.le_trans this (by rw [show ((999 : Int) : Rat) = 999 from rfl]; grind))
    grind
  · show ((CG T gl vn ct ct (2 * vn) : Int) : Rat) * ((CG T gl vn ct ct (2 * vn) : Int) : Rat) ≤ 99 * 99
    rw [(CG_rhs (T := T) (ct := ct) hg hv).2, show ((0 : Int) : Rat) = 0 from rfl]
    grind
/-- of squares -/
theorem sqlt {x y : Rat} (h : x * x ≤ y * y) (hy : 0 ≤ y) {q : Rat} (hq : y < q) : x * x < q * q := by
  have h1 : y * y ≤ y * q := Rat.mul_le_mul_of_nonneg_left (Rat.le_of_lt hq) hy
  have h2 : 0 < q := by grind
  have h3 := Rat.mul_pos (show 0 < q - y by grind) h2
  grind
theorem Bnd_of {me nw : Nat} {C : Nat → Nat → Int} {b g K : Rat} (H : ColB me nw C b g K) (h1 : b ^ me * g < 9223372036854775808) (h2 : K * (((me + 1 : Nat) : Rat) * (b ^ me * g)) < 9223372036854775808) : Bnd me nw C := by
  intro h hh i j hi hj
  obtain ⟨d1, d2⟩ := ColB_dt H hh hi hj
  obtain ⟨hb, hg, hK, -⟩ := H
  have hp := rat_pow_pos (show 0 ≤ b by grind) me
  obtain ⟨y, hy1, hy2, hy⟩ : ∃ y : Rat, 1 ≤ y ∧ y ≤ g ∧ y = (if j = nw then g else 1) := by
    by_cases e : j = nw
    · exact ⟨g, hg, by grind, by simp [e]⟩
    · exact ⟨1, by grind, hg, by simp [e]⟩
  rw [← hy] at d1 d2
  have hle : b ^ me * y ≤ b ^ me * g := Rat.mul_le_mul_of_nonneg_left hy2 hp
  have hnn : 0 ≤ b ^ me * y := Rat.mul_nonneg hp (by grind)
  rw [show (85070591730234615865843651857942052864 : Rat) = 9223372036854775808 * 9223372036854775808 from by grind]
  by_cases e : i = me
  · have d := d2 e
    have hm0 : (0 : Rat) ≤ ((me + 1 : Nat) : Rat) := Rat.natCast_nonneg
    rw [Rat.pow_succ] at d
    generalize dt (me + 1) (fup (hB me (clm C) h) i (clm C j)) = x at d ⊢
    generalize ((me + 1 : Nat) : Rat) = m1 at d h2 hm0
    have hZ : K * (m1 * (b ^ me * b * y)) = (K * (m1 * (b ^ me * y))) * b := by grind
    rw [hZ] at d
    have hbp : 0 < b := by grind
    have hbb := Rat.mul_pos hbp hbp
    have d3 : x * x ≤ (K * (m1 * (b ^ me * y))) * (K * (m1 * (b ^ me * y))) := by
      apply Rat.le_of_mul_le_mul_left (c := b * b) _ hbb
      grind
    have hK0 : 0 ≤ K := by grind
    refine sqlt d3 (Rat.mul_nonneg hK0 (Rat.mul_nonneg hm0 hnn)) ?_
    have := Rat.mul_le_mul_of_nonneg_left (Rat.mul_le_mul_of_nonneg_left hle hm0) hK0
    grind
  · exact sqlt (d1 (by omega)) hnn (by grind)
theorem Bnd2_of {me nw : Nat} {C : Nat → Nat → Int} {b g K : Rat} (H : ColB me nw C b g K) (h2 : K * (((me + 1 : Nat) : Rat) * (b ^ me * b ^ me)) < 9223372036854775808) : Bnd2 me nw C := by
  intro h hh i j o hi hj ho
  have d1 := (ColB_dt H hh (show i ≤ me by omega) (show j ≤ nw by omega)).1 hi
  have d2 := (ColB_dt H hh (Nat.le_refl me) (show o ≤ nw by omega)).2 rfl
  rw [if_neg (by omega)] at d1 d2
  obtain ⟨hb, hg, hK, -⟩ := H
  have hp := rat_pow_pos (show 0 ≤ b by grind) me
  rw [show (85070591730234615865843651857942052864 : Rat) = 9223372036854775808 * 9223372036854775808 from by grind]
  have hm0 : (0 : Rat) ≤ ((me + 1 : Nat) : Rat) := Rat.natCast_nonneg
  rw [Rat.pow_succ] at d2
  generalize dt (me + 1) (fup (hB me (clm C) h) i (clm C j)) = x at d1 ⊢
  generalize dt (me + 1) (fup (hB me (clm C) h) me (clm C o)) = y at d2 ⊢
  generalize ((me + 1 : Nat) : Rat) = m1 at d2 h2 hm0
  generalize b ^ me = p at d1 d2 hp h2
  have hbp : 0 < b := by grind
  have hbb := Rat.mul_pos hbp hbp
  have hK0 : 0 ≤ K := by grind
  have d3 : y * y ≤ (K * (m1 * p)) * (K * (m1 * p)) := by
    apply Rat.le_of_mul_le_mul_left (c := b * b) _ hbb
    grind
  have d4 : x * x ≤ p * p := by grind
  have hn := Rat.mul_nonneg hK0 (Rat.mul_nonneg hm0 hp)
  have d5 := Rat.mul_le_mul_of_nonneg_right d3 (show 0 ≤ x * x from rq_3 x)
  have d6 := Rat.mul_le_mul_of_nonneg_left d4 (show 0 ≤ (K * (m1 * p)) * (K * (m1 * p)) from rq_3 _)
  have d7 : (y * x) * (y * x) ≤ (K * (m1 * p) * p) * (K * (m1 * p) * p) := by grind
  refine sqlt d7 (Rat.mul_nonneg hn hp) ?_
  grind
theorem CG_bnd {T : Nat → Nat → Int32} {gl : Nat → Int32} {vn ct : Nat} (hT : okT T ct) (hg : okG gl) (hv1 : 1 ≤ vn) (hv : vn ≤ 3) : Bnd (2 * vn) ct (CG T gl vn ct) ∧ Bnd2 (2 * vn) ct (CG T gl vn ct) := by
  have c1 := CG_col (b := 23) (g := 107) hT hg hv (by grind) (by grind) (by grind) (by grind)
  have c2 := CG_col (b := 485 / 22) (g := 112) hT hg hv (by grind) (by grind) (by grind) (by grind)
  rcases (by omega : vn = 1 ∨ vn = 2 ∨ vn = 3) with e | e | e <;> subst e
  · refine ⟨Bnd_of c1 ?_ ?_, Bnd2_of c2 ?_⟩
    · show (23 : Rat) ^ 2 * 107 < _; grind
    · show (99 : Rat) * (3 * ((23 : Rat) ^ 2 * 107)) < _; grind
    · show (99 : Rat) * (3 * ((485 / 22 : Rat) ^ 2 * (485 / 22 : Rat) ^ 2)) < _; grind
  · refine ⟨Bnd_of c1 ?_ ?_, Bnd2_of c2 ?_⟩
    · show (23 : Rat) ^ 4 * 107 < _; grind
    · show (99 : Rat) * (5 * ((23 : Rat) ^ 4 * 107)) < _; grind
    · show (99 : Rat) * (5 * ((485 / 22 : Rat) ^ 4 * (485 / 22 : Rat) ^ 4)) < _; grind
  · refine ⟨Bnd_of c1 ?_ ?_, Bnd2_of c2 ?_⟩
    · show (23 : Rat) ^ 6 * 107 < _; grind
    · show (99 : Rat) * (7 * ((23 : Rat) ^ 6 * 107)) < _; grind
    · show (99 : Rat) * (7 * ((485 / 22 : Rat) ^ 6 * (485 / 22 : Rat) ^ 6)) < _; grind
/-- the ranking's -/
def CR (T : Nat → Nat → Int32) (vn ct : Nat) : Nat → Nat → Int := fun j t =>
  if j < ct then (if t < vn then (T j (3 + t)).toInt else if t < 2 * vn then -(T j (t - vn)).toInt else 0)
  else if j < 2 * ct then (if t < vn then 0 else if t < 2 * vn then (T (j - ct) (t - vn)).toInt else if t < 3 * vn then (T (j - ct) (t - 2 * vn)).toInt + (T (j - ct) (3 + (t - 2 * vn))).toInt else (T (j - ct) 6).toInt)
  else 0
theorem CR_t {T : Nat → Nat → Int32} {vn ct : Nat} (hT : okT T ct) (hv : vn ≤ 3) {a b : Nat} : (tgR T vn ct a b).toInt = CR T vn ct b a := by
  unfold tgR CR
  split
  · rename_i hb
    have h1 := (hT b hb).1
    split
    · exact Int32.toInt_toInt64 _
    · split
      · rw [Int32.toInt_toInt64]
        have := h1 (a - vn) (by omega)
        exact neg32 (by omega) (by omega)
      · rfl
  · split
    · rename_i hb hb2
      have h1 := (hT (b - ct) (by omega)).1
      split
      · rfl
      · split
        · exact Int32.toInt_toInt64 _
        · split
          · rw [Int32.toInt_toInt64]
            have := h1 (a - 2 * vn) (by omega)
            have := h1 (3 + (a - 2 * vn)) (by omega)
            exact add32 (by omega) (by omega)
          · exact Int32.toInt_toInt64 _
    · rfl
theorem CR_b {T : Nat → Nat → Int32} {vn ct : Nat} (hT : okT T ct) (hv1 : 1 ≤ vn) (hv : vn ≤ 3) (j : Nat) : (∀ t, t < 3 * vn → -18 ≤ CR T vn ct j t ∧ CR T vn ct j t ≤ 18) ∧ -99 ≤ CR T vn ct j (3 * vn) ∧ CR T vn ct j (3 * vn) ≤ 99 := by
  refine ⟨fun t ht => ?_, ?_⟩
  · unfold CR
    split
    · rename_i hb
      have h1 := (hT j hb).1
      split
      · have := h1 (3 + t) (by omega); omega
      · split
        · have := h1 (t - vn) (by omega); omega
        · omega
    · split
      · rename_i hb hb2
        have h1 := (hT (j - ct) (by omega)).1
        split
        · omega
        · split
          · have := h1 (t - vn) (by omega); omega
          · have := h1 (t - 2 * vn) (by omega)
            have := h1 (3 + (t - 2 * vn)) (by omega)
            omega
      · omega
  · unfold CR
    split
    · rw [if_neg (by omega), if_neg (by omega)]; omega
    · split
      · rename_i hb hb2
        rw [if_neg (by omega), if_neg (by omega), if_neg (by omega)]
        exact (hT (j - ct) (by omega)).2
      · omega
theorem CR_bnd {T : Nat → Nat → Int32} {vn ct : Nat} (hT : okT T ct) (hv1 : 1 ≤ vn) (hv : vn ≤ 3) : Bnd (3 * vn) (2 * ct) (CR T vn ct) := by
  have hn : ((3 * vn : Nat) : Rat) ≤ 9 := by
    have : ((3 * vn : Nat) : Rat) ≤ ((9 : Nat) : Rat) := Rat.natCast_le_natCast.mpr (by omega)
    exact this
  have hc : ∀ j, exN (3 * vn) (clm (CR T vn ct) j) ≤ 54 * 54 ∧ clm (CR T vn ct) j (3 * vn) * clm (CR T vn ct) j (3 * vn) ≤ 99 * 99 := fun j => by
    refine ⟨?_, sq_le (q := 99) (CR_b hT hv1 hv j).2.1 (CR_b hT hv1 hv j).2.2⟩
    have := exN_le (q := 324) (clm (CR T vn ct) j) (3 * vn) (fun t ht => by
      have := sq_le (q := 18) ((CR_b hT hv1 hv j).1 t ht).1 ((CR_b hT hv1 hv j).1 t ht).2
      show ((CR T vn ct j t : Int) : Rat) * ((CR T vn ct j t : Int) : Rat) ≤ 324
      exact Rat.le_trans this (by rw [show ((18 : Int) : Rat) = 18 from rfl]; grind))
    grind
  have H : ColB (3 * vn) (2 * ct) (CR T vn ct) 54 1 99 := ⟨by grind, by grind, by grind, fun j _ => hc j, by have := (hc (2 * ct)).1; grind, (hc (2 * ct)).2⟩
  rcases (by omega : vn = 1 ∨ vn = 2 ∨ vn = 3) with e | e | e <;> subst e
  · refine Bnd_of H ?_ ?_
    · show (54 : Rat) ^ 3 * 1 < _; grind
    · show (99 : Rat) * (4 * ((54 : Rat) ^ 3 * 1)) < _; grind
  · refine Bnd_of H ?_ ?_
    · show (54 : Rat) ^ 6 * 1 < _; grind
    · show (99 : Rat) * (7 * ((54 : Rat) ^ 6 * 1)) < _; grind
  · refine Bnd_of H ?_ ?_
    · show (54 : Rat) ^ 9 * 1 < _; grind
    · show (99 : Rat) * (10 * ((54 : Rat) ^ 9 * 1)) < _; grind
