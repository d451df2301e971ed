/-! ===== PURE: the steps by Bland's rule don't come back: fewer than 2 to the number of columns ===== -/
/-- the rows that hold none have nothing of the columns -/
def Zr (me nw : Nat) (col : Nat → Nat → Rat) (h : Nat → Option Nat) (R : Nat → Nat → Rat) (k : Nat) : Prop := ∀ i, i < k → h i = none → ∀ j, j < nw → cd (me + 1) R (col j) i = 0
/-- one step of the first kind -/
def StP (me nw : Nat) (col : Nat → Nat → Rat) (h : Nat → Option Nat) (R : Nat → Nat → Rat) (c o r : Nat) : Prop :=
  Stt me nw col h R ∧ Zr me nw col h R me ∧ c < nw ∧ r < me ∧ h r = some o ∧ cd (me + 1) R (col c) me < 0 ∧ (∀ j, j < c → 0 ≤ cd (me + 1) R (col j) me) ∧ 0 < cd (me + 1) R (col c) r ∧ ∀ i j, i < me → h i = some j → 0 < cd (me + 1) R (col c) i → o ≤ j
def HiP (me nw : Nat) (col : Nat → Nat → Rat) (s : Nat) (h : Nat → Option Nat) : Prop :=
  ∃ (hs : Nat → Nat → Option Nat) (Rs : Nat → Nat → Nat → Rat) (inn out rw : Nat → Nat), hs s = h ∧ ∀ k, k < s → StP me nw col (hs k) (Rs k) (inn k) (out k) (rw k) ∧ hs (k + 1) = fup (hs k) (rw k) (some (inn k))
theorem HiP_0 {me nw : Nat} {col : Nat → Nat → Rat} {h : Nat → Option Nat} : HiP me nw col 0 h := ⟨fun _ => h, fun _ _ _ => 0, fun _ => 0, fun _ => 0, fun _ => 0, rfl, fun k hk => by omega⟩
theorem HiP_s {me nw : Nat} {col : Nat → Nat → Rat} {s : Nat} {h : Nat → Option Nat} {R : Nat → Nat → Rat} {c o r : Nat} (H : HiP me nw col s h) (S : StP me nw col h R c o r) : HiP me nw col (s + 1) (fup h r (some c)) := by
  obtain ⟨hs, Rs, inn, out, rw, e, hk⟩ := H
  refine ⟨fun k => if k = s + 1 then fup h r (some c) else hs k, fun k => if k = s then R else Rs k, fun k => if k = s then c else inn k, fun k => if k = s then o else out k, fun k => if k = s then r else rw k, by simp, fun k hk2 => ?_⟩
  by_cases q : k = s
  · subst q
    simp only [if_true, if_neg (show k ≠ k + 1 by omega)]
    rw [e]
    exact ⟨S, rfl⟩
  · have := hk k (by omega)
    simp only [if_neg q, if_neg (show k ≠ s + 1 by omega), if_neg (show k + 1 ≠ s + 1 by omega)]
    exact this
/-- who holds x -/
def Hx (me : Nat) (h : Nat → Option Nat) (x : Nat) : Prop := ∃ i, i < me ∧ h i = some x
theorem Hx_one {me n : Nat} {col : Nat → Nat → Rat} {h : Nat → Option Nat} {R : Nat → Nat → Rat} (H : Stt me n col h R) {i k x : Nat} (hi : i < me) (hk : k < me) (e : h i = some x) (e2 : h k = some x) : i = k := by
  have a1 := Stt_held H hi e (k := k) (by omega)
  have a2 := Stt_held H hk e2 (k := k) (by omega)
  rw [a2] at a1
  by_cases q : k = i
  · exact q.symm
  · simp [q] at a1
theorem Hx_up {me n : Nat} {col : Nat → Nat → Rat} {h : Nat → Option Nat} {R : Nat → Nat → Rat} (H : Stt me n col h R) {r c o : Nat} (hr : r < me) (e : h r = some o) (x : Nat) : Hx me (fup h r (some c)) x ↔ (x = c ∨ (x ≠ o ∧ Hx me h x)) := by
  constructor
  · rintro ⟨i, hi, q⟩
    by_cases q2 : i = r
    · subst q2; rw [fup_s] at q; exact Or.inl (Option.some.inj q).symm
    · rw [fup_n _ _ q2] at q
      refine Or.inr ⟨fun q3 => ?_, i, hi, q⟩
      subst q3
      exact q2 (Hx_one H hi hr q e)
  · rintro (q | ⟨q, i, hi, q2⟩)
    · subst q; exact ⟨r, hr, fup_s _ _ _⟩
    · refine ⟨i, hi, ?_⟩
      have : i ≠ r := fun q3 => by subst q3; rw [e] at q2; exact q (Option.some.inj q2).symm
      rw [fup_n _ _ this]; exact q2
/-- from the steps to the sets: what comes back -/
theorem hist_cycle {me nw : Nat} {col : Nat → Nat → Rat} {s : Nat} (hs : Nat → Nat → Option Nat) (Rs : Nat → Nat → Nat → Rat) (inn out rw : Nat → Nat) (hK : 2 ^ nw ≤ s)
    (h1 : ∀ k, k < s → Stt me nw col (hs k) (Rs k) ∧ inn k < nw ∧ rw k < me ∧ hs k (rw k) = some (out k) ∧ ¬ Hx me (hs k) (inn k) ∧ hs (k + 1) = fup (hs k) (rw k) (some (inn k))) :
    ∃ i j f s1 s2, i < j ∧ j ≤ s ∧ (∀ x, x < nw → (Hx me (hs i) x ↔ Hx me (hs j) x)) ∧ i ≤ s1 ∧ s1 < j ∧ i ≤ s2 ∧ s2 < j ∧ inn s1 = f ∧ out s2 = f ∧ (∀ k, i ≤ k → k < j → inn k ≤ f ∧ out k ≤ f) ∧ ∀ k k', i ≤ k → k ≤ j → i ≤ k' → k' ≤ j → ∀ x, f < x → (Hx me (hs k) x ↔ Hx me (hs k') x) := by
  let dec : ∀ k x, Decidable (Hx me (hs k) x) := fun k x => Classical.propDecidable _
  let X : Nat → Nat → Bool := fun k x => @decide _ (dec k x)
  have hX : ∀ k x, X k x = true ↔ Hx me (hs k) x := fun k x => @decide_eq_true_iff _ (dec k x)
  have hX2 : ∀ k x, X k x = false ↔ ¬ Hx me (hs k) x := fun k x => @decide_eq_false_iff_not _ (dec k x)
  obtain ⟨i, j, f, s1, s2, a1, a2, a3, a4, a5, a6, a7, a8, a9, a10⟩ := cycle (n := nw) X inn out s hK (fun k hk => (h1 k hk).2.1) (fun k hk => (h1 k hk).1.2 (rw k) _ (h1 k hk).2.2.1 (h1 k hk).2.2.2.1) (fun k hk => ⟨(hX2 _ _).mpr (h1 k hk).2.2.2.2.1, (hX _ _).mpr ⟨rw k, (h1 k hk).2.2.1, (h1 k hk).2.2.2.1⟩⟩) (fun k hk x => by
    obtain ⟨b1, b2, b3, b4, b5, b6⟩ := h1 k hk
    have := Hx_up b1 b3 b4 (c := inn k) x
    rw [← b6] at this
    by_cases q1 : x = inn k
    · rw [if_pos q1]; exact (hX _ _).mpr (this.mpr (Or.inl q1))
    · rw [if_neg q1]
      by_cases q2 : x = out k
      · rw [if_pos q2]
        refine (hX2 _ _).mpr fun q3 => ?_
        rcases this.mp q3 with q4 | q4
        · exact q1 q4
        · exact q4.1 q2
      · rw [if_neg q2]
        cases q3 : X k x
        · refine (hX2 _ _).mpr fun q4 => ?_
          rcases this.mp q4 with q5 | q5
          · exact q1 q5
          · exact (hX2 _ _).mp q3 q5.2
        · exact (hX _ _).mpr (this.mpr (Or.inr ⟨q2, (hX _ _).mp q3⟩)))
  refine ⟨i, j, f, s1, s2, a1, a2, fun x hx => ?_, a4, a5, a6, a7, a8, a9, a10, ?_⟩
  · rw [← hX, ← hX, a3 x hx]
  · have step : ∀ d k, i ≤ k → k + d ≤ j → ∀ x, f < x → (Hx me (hs k) x ↔ Hx me (hs (k + d)) x) := by
      intro d
      induction d with
      | zero => intro k _ _ x _; exact Iff.rfl
      | succ d ih =>
        intro k hk hd x hx
        rw [ih k hk (by omega) x hx]
        obtain ⟨b1, b2, b3, b4, b5, b6⟩ := h1 (k + d) (by omega)
        have q := a10 (k + d) (by omega) (by omega)
        rw [← Nat.add_assoc, b6, Hx_up b1 b3 b4]
        constructor
        · intro q2; exact Or.inr ⟨by omega, q2⟩
        · rintro (q2 | q2)
          · omega
          · exact q2.2
    intro k k' hk1 hk2 hk3 hk4 x hx
    rcases Nat.le_total k k' with q | q
    · have := step (k' - k) k hk1 (by omega) x hx
      rw [show k + (k' - k) = k' by omega] at this
      exact this
    · have := step (k - k') k' hk3 (by omega) x hx
      rw [show k' + (k - k') = k by omega] at this
      exact this.symm
theorem HiP_lt {me nw : Nat} {col : Nat → Nat → Rat} {s : Nat} {h : Nat → Option Nat} (H : HiP me nw col s h) : s < 2 ^ nw := by
  apply Classical.byContradiction
  intro q
  obtain ⟨hs, Rs, inn, out, rw, e, hk⟩ := H
  have hnh : ∀ k, k < s → ¬ Hx me (hs k) (inn k) := fun k hk1 ⟨i, hi, q2⟩ => by
    obtain ⟨S, -⟩ := hk k hk1
    have := Stt_held S.1 hi q2 (k := me) (by omega)
    rw [if_neg (by omega)] at this
    have := S.2.2.2.2.2.1
    grind
  obtain ⟨i, j, f, s1, s2, a1, a2, a3, a4, a5, a6, a7, a8, a9, a10, a11⟩ := hist_cycle (me := me) (nw := nw) (s := s) (col := col) hs Rs inn out rw (by omega) (fun k hk1 => by
    obtain ⟨S, q2⟩ := hk k hk1
    exact ⟨S.1, S.2.2.1, S.2.2.2.1, S.2.2.2.2.1, hnh k hk1, q2⟩)
  obtain ⟨S1, -⟩ := hk s1 (by omega)
  obtain ⟨S2, -⟩ := hk s2 (by omega)
  obtain ⟨p1, p2, p3, p4, p5, p6, p7, p8, p9⟩ := S1
  obtain ⟨r1, r2, r3, r4, r5, r6, r7, r8, r9⟩ := S2
  rw [a8] at p6 p7
  rw [a9] at r5 r9
  refine bland_p p1 r1 (fun i hi e2 j hj => r2 i hi e2 j hj) p6 p7 r3 r6 r4 r5 r8 r9 ?_ (fun i9 j9 hi9 e9 hf9 => ?_)
  · have h1 := (a10 s2 a6 a7).1
    have h2 : inn s2 ≠ f := fun q3 => hnh s2 (by omega) ⟨rw s2, r4, by rw [q3]; exact r5⟩
    omega
  · have := (a11 s2 s1 a6 (by omega) a4 (by omega) j9 hf9).mp ⟨i9, hi9, e9⟩
    exact this
/-- one step of the second kind -/
def StD (me nw : Nat) (col : Nat → Nat → Rat) (b : Nat → Rat) (h : Nat → Option Nat) (R : Nat → Nat → Rat) (c o r : Nat) : Prop :=
  Stt me nw col h R ∧ (∀ i, i < me → h i = none → cd (me + 1) R b i = 0) ∧ c < nw ∧ r < me ∧ h r = some o ∧ (∀ j, j < nw → 0 ≤ cd (me + 1) R (col j) me) ∧ cd (me + 1) R b r < 0 ∧ (∀ i j, i < me → h i = some j → cd (me + 1) R b i < 0 → o ≤ j) ∧ cd (me + 1) R (col c) r < 0 ∧
  ∀ j, j < c → cd (me + 1) R (col j) r < 0 → cd (me + 1) R (col c) me * (-cd (me + 1) R (col j) r) < cd (me + 1) R (col j) me * (-cd (me + 1) R (col c) r)
def HiD (me nw : Nat) (col : Nat → Nat → Rat) (b : Nat → Rat) (s : Nat) (h : Nat → Option Nat) (R : Nat → Nat → Rat) : Prop :=
  ∃ (hs : Nat → Nat → Option Nat) (Rs : Nat → Nat → Nat → Rat) (inn out rw : Nat → Nat), hs s = h ∧ Rs s = R ∧ ∀ k, k < s → StD me nw col b (hs k) (Rs k) (inn k) (out k) (rw k) ∧ hs (k + 1) = fup (hs k) (rw k) (some (inn k)) ∧ Rs (k + 1) = pv (me + 1) (Rs k) (rw k) (col (inn k))
theorem HiD_0 {me nw : Nat} {col : Nat → Nat → Rat} {b : Nat → Rat} {h : Nat → Option Nat} {R : Nat → Nat → Rat} : HiD me nw col b 0 h R := ⟨fun _ => h, fun _ => R, fun _ => 0, fun _ => 0, fun _ => 0, rfl, rfl, fun k hk => by omega⟩
theorem HiD_s {me nw : Nat} {col : Nat → Nat → Rat} {b : Nat → Rat} {s : Nat} {h : Nat → Option Nat} {R : Nat → Nat → Rat} {c o r : Nat} (H : HiD me nw col b s h R) (S : StD me nw col b h R c o r) : HiD me nw col b (s + 1) (fup h r (some c)) (pv (me + 1) R r (col c)) := by
  obtain ⟨hs, Rs, inn, out, rw, e, e1, hk⟩ := H
  refine ⟨fun k => if k = s + 1 then fup h r (some c) else hs k, fun k => if k = s + 1 then pv (me + 1) R r (col c) else Rs k, fun k => if k = s then c else inn k, fun k => if k = s then o else out k, fun k => if k = s then r else rw k, by simp, by simp, fun k hk2 => ?_⟩
  by_cases q : k = s
  · subst q
    simp only [if_true, if_neg (show k ≠ k + 1 by omega)]
    rw [e, e1]
    exact ⟨S, rfl, rfl⟩
  · have := hk k (by omega)
    simp only [if_neg q, if_neg (show k ≠ s + 1 by omega), if_neg (show k + 1 ≠ s + 1 by omega)]
    exact this
theorem HiD_lt {me nw : Nat} {col : Nat → Nat → Rat} {b : Nat → Rat} {s : Nat} {h : Nat → Option Nat} {R : Nat → Nat → Rat} (HS : Stt me nw col h R) (HZ : ∀ i, i < me → h i = none → cd (me + 1) R b i = 0) (H : HiD me nw col b s h R) : s < 2 ^ nw := by
  apply Classical.byContradiction
  intro q
  obtain ⟨hs, Rs, inn, out, rw, e, e1, hk⟩ := H
  have hStt : ∀ k, k ≤ s → Stt me nw col (hs k) (Rs k) ∧ ∀ i, i < me → hs k i = none → cd (me + 1) (Rs k) b i = 0 := fun k hk1 => by
    by_cases q2 : k = s
    · subst q2; rw [e, e1]; exact ⟨HS, HZ⟩
    · obtain ⟨S, -⟩ := hk k (by omega)
      exact ⟨S.1, S.2.1⟩
  have hnh : ∀ k, k < s → ¬ Hx me (hs k) (inn k) := fun k hk1 ⟨i, hi, q2⟩ => by
    obtain ⟨S, -⟩ := hk k hk1
    have g1 := Stt_held S.1 hi q2 (k := rw k) (by have := S.2.2.2.1; omega)
    have g2 := S.2.2.2.2.2.2.2.2.1
    rw [g1] at g2
    split at g2 <;> grind
  obtain ⟨i, j, f, s1, s2, a1, a2, a3, a4, a5, a6, a7, a8, a9, a10, a11⟩ := hist_cycle (me := me) (nw := nw) (s := s) (col := col) hs Rs inn out rw (by omega) (fun k hk1 => by
    obtain ⟨S, q2, -⟩ := hk k hk1
    exact ⟨S.1, S.2.2.1, S.2.2.2.1, S.2.2.2.2.1, hnh k hk1, q2⟩)
  -- the corner doesn't grow; it comes back; so each step between costs nothing
  have hcor : ∀ k, k < s → cd (me + 1) (Rs (k + 1)) b me ≤ cd (me + 1) (Rs k) b me ∧ (cd (me + 1) (Rs k) b me ≤ cd (me + 1) (Rs (k + 1)) b me → cd (me + 1) (Rs k) (col (inn k)) me = 0) := fun k hk1 => by
    obtain ⟨⟨S1, S2, S3, S4, S5, S6, S7, S8, S9, S10⟩, -, q3⟩ := hk k hk1
    rw [q3, pv_o _ _ (by omega)]
    have g1 := S6 (inn k) S3
    generalize cd (me + 1) (Rs k) (col (inn k)) me = x at g1
    generalize cd (me + 1) (Rs k) (col (inn k)) (rw k) = y at S9
    generalize cd (me + 1) (Rs k) b (rw k) = z at S7
    generalize cd (me + 1) (Rs k) b me = w
    have hy : 0 < (-y)⁻¹ := Rat.inv_pos.mpr (by grind)
    have hyy : -y * (-y)⁻¹ = 1 := Rat.mul_inv_cancel _ (by grind)
    have e9 : x / y = -(x * (-y)⁻¹) := by
      have : x / y * y = x := Rat.div_mul_cancel (by grind)
      generalize x / y = t at this
      generalize (-y)⁻¹ = v at hyy
      subst this
      grind
    rw [e9]
    have p1 := Rat.mul_nonneg (Rat.mul_nonneg g1 (Rat.le_of_lt hy)) (show 0 ≤ -z by grind)
    refine ⟨by grind, fun q4 => ?_⟩
    have p2 : x * (-y)⁻¹ * (-z) = 0 := by grind
    rcases Rat.mul_eq_zero.mp p2 with p3 | p3
    · rcases Rat.mul_eq_zero.mp p3 with p4 | p4
      · exact p4
      · grind
    · grind
  have hmono : ∀ d k, k + d ≤ s → cd (me + 1) (Rs (k + d)) b me ≤ cd (me + 1) (Rs k) b me := by
    intro d
    induction d with
    | zero => intro k _; show _ ≤ _; exact Rat.le_refl
    | succ d ih =>
      intro k hd
      have g1 := ih k (by omega)
      have g2 := (hcor (k + d) (by omega)).1
      rw [← Nat.add_assoc]
      grind
  have hsame : cd (me + 1) (Rs i) b me = cd (me + 1) (Rs j) b me := by
    refine Stt_corner (hStt i (by omega)).1 (hStt j a2).1 b (hStt j a2).2 (fun i9 j9 hi9 e9 => ?_)
    exact (a3 j9 ((hStt j a2).1.2 i9 j9 hi9 e9)).mpr ⟨i9, hi9, e9⟩
  have hzero : ∀ k, i ≤ k → k < j → cd (me + 1) (Rs k) (col (inn k)) me = 0 := fun k hk1 hk2 => by
    apply (hcor k (by omega)).2
    have g1 := hmono (k - i) i (by omega)
    have g2 := hmono (j - (k + 1)) (k + 1) (by omega)
    rw [show i + (k - i) = k by omega] at g1
    rw [show k + 1 + (j - (k + 1)) = j by omega] at g2
    grind
  have hcost : ∀ d k, i ≤ k → k + d ≤ j → ∀ v, cd (me + 1) (Rs (k + d)) v me = cd (me + 1) (Rs k) v me := by
    intro d
    induction d with
    | zero => intro k _ _ v; rfl
    | succ d ih =>
      intro k hk1 hd v
      obtain ⟨⟨S1, S2, S3, S4, S5, S6, S7, S8, S9, S10⟩, -, q3⟩ := hk (k + d) (by omega)
      rw [← Nat.add_assoc, q3, pv_o _ _ (by omega), hzero (k + d) (by omega) (by omega), ih k hk1 (by omega) v]
      grind
  have hcost2 : ∀ k k', i ≤ k → k ≤ j → i ≤ k' → k' ≤ j → ∀ v, cd (me + 1) (Rs k) v me = cd (me + 1) (Rs k') v me := fun k k' b1 b2 b3 b4 v => by
    have g1 := hcost (k - i) i (by omega) (by omega) v
    have g2 := hcost (k' - i) i (by omega) (by omega) v
    rw [show i + (k - i) = k by omega] at g1
    rw [show i + (k' - i) = k' by omega] at g2
    rw [g1, g2]
  obtain ⟨⟨p1, p2, p3, p4, p5, p6, p7, p8, p9, p10⟩, -⟩ := hk s1 (by omega)
  obtain ⟨⟨r1, r2, r3, r4, r5, r6, r7, r8, r9, r10⟩, -⟩ := hk s2 (by omega)
  have z1 := hzero s1 a4 a5
  rw [a8] at p9 p10 z1
  rw [a9] at r5 r8
  refine bland_d p1 r1 b r2 p4 p7 p9 (fun i9 j9 hi9 e9 hf9 => ?_) r4 r5 r7 r8 (fun i9 j9 hi9 e9 hf9 => ?_)
  · apply Classical.byContradiction
    intro q2
    have g1 := p10 j9 hf9 (by grind)
    have g2 : cd (me + 1) (Rs s1) (col j9) me = 0 := by
      rw [hcost2 s1 s2 a4 (by omega) a6 (by omega), Stt_held r1 hi9 e9 (by omega), if_neg (by omega)]
    rw [g2, z1] at g1
    grind
  · obtain ⟨k, hk1, hk2⟩ := (a11 s2 s1 a6 (by omega) a4 (by omega) j9 hf9).mp ⟨i9, hi9, e9⟩
    refine ⟨k, hk1, fun q3 => ?_, hk2⟩
    subst q3
    rw [p5] at hk2
    have := (a10 s1 a4 a5).2
    have := Option.some.inj hk2
    omega
