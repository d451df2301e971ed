/-! ===== the table as the machine holds it: each cell is the unit times a coordinate ===== -/
def clm (C : Nat → Nat → Int) : Nat → Nat → Rat := fun j t => ((C j t : Int) : Rat)
def oI : Option Nat → Int32
  | none => -1
  | some k => nI k
/-- every determinant that a cell may be is below 2 to the 63rd -/
def Bnd (me nw : Nat) (C : Nat → Nat → Int) : Prop := ∀ h : Nat → Option Nat, (∀ i j, i < me → h i = some j → j < nw) → ∀ i j, i ≤ me → j ≤ nw →
  dt (me + 1) (fup (hB me (clm C) h) i (clm C j)) * dt (me + 1) (fup (hB me (clm C) h) i (clm C j)) < 85070591730234615865843651857942052864
def Gd (me nw : Nat) (C : Nat → Nat → Int) (M : Nat → Nat → Int64) (hd : Nat → Int32) (u : Int64) (tw : Int32) (iv : Int64) (h : Nat → Option Nat) (R : Nat → Nat → Rat) : Prop :=
  Stt me nw (clm C) h R ∧ Unt u tw iv ∧ (∃ g : Rat, g * g = 1 ∧ dt (me + 1) (hB me (clm C) h) = g * (u.toInt : Rat)) ∧ (∀ i j, i ≤ me → j ≤ nw → ((M i j).toInt : Rat) = (u.toInt : Rat) * cd (me + 1) R (clm C j) i) ∧ ∀ i, i < me → hd i = oI (h i)
theorem hB_Z {me : Nat} {C : Nat → Nat → Int} {h : Nat → Option Nat} (i t : Nat) : isZ (hB me (clm C) h i t) := by
  have hu : ∀ i t, isZ (un i t) := fun i t => by
    unfold un
    split
    · exact ⟨1, rfl⟩
    · exact ⟨0, rfl⟩
  unfold hB
  split
  · cases h i with
    | none => exact hu i t
    | some j => exact ⟨_, rfl⟩
  · exact hu i t
theorem z_small {z : Int} (h : (z : Rat) * (z : Rat) < 85070591730234615865843651857942052864) : -9223372036854775808 < z ∧ z < 9223372036854775808 := by
  have h1 : z * z < 85070591730234615865843651857942052864 := by
    have e : ((z * z : Int) : Rat) < ((85070591730234615865843651857942052864 : Int) : Rat) := by
      rw [Rat.intCast_mul]; exact h
    exact Rat.intCast_lt_intCast.mp e
  refine ⟨?_, ?_⟩
  · apply Classical.byContradiction
    intro q
    have := Int.mul_le_mul (show 9223372036854775808 ≤ -z by omega) (show 9223372036854775808 ≤ -z by omega) (by omega) (by omega)
    have e : -z * -z = z * z := by grind
    omega
  · apply Classical.byContradiction
    intro q
    have := Int.mul_le_mul (show 9223372036854775808 ≤ z by omega) (show 9223372036854775808 ≤ z by omega) (by omega) (by omega)
    omega
/-- a cell is a small whole number -/
theorem cell_z {me nw : Nat} {C : Nat → Nat → Int} {h : Nat → Option Nat} {R : Nat → Nat → Rat} (hB0 : Bnd me nw C) (hS : Stt me nw (clm C) h R) {u : Int} {g : Rat} (hg : g * g = 1) (hd : dt (me + 1) (hB me (clm C) h) = g * (u : Rat)) {i j : Nat} (hi : i ≤ me) (hj : j ≤ nw) :
    ∃ z : Int, (z : Rat) = (u : Rat) * cd (me + 1) R (clm C j) i ∧ -9223372036854775808 < z ∧ z < 9223372036854775808 := by
  have h1 := dt_cd hS.1 (show i < me + 1 by omega) (clm C j)
  have h2 := hB0 h hS.2 i j hi hj
  have hz : isZ (dt (me + 1) (fup (hB me (clm C) h) i (clm C j))) := dt_int (fun a t => by
    by_cases e : a = i
    · subst e; rw [fup_s]; exact ⟨_, rfl⟩
    · rw [fup_n _ _ e]; exact hB_Z a t)
  obtain ⟨y, hy⟩ := hz
  rw [hd] at h1
  rw [hy] at h1 h2
  have hgi : g = 1 ∨ g = -1 := by
    have : (g - 1) * (g + 1) = 0 := by grind
    rcases Rat.mul_eq_zero.mp this with q | q
    · exact Or.inl (by grind)
    · exact Or.inr (by grind)
  rcases hgi with e | e
  · subst e
    exact ⟨y, by grind, z_small h2⟩
  · subst e
    refine ⟨-y, ?_, ?_⟩
    · rw [Rat.intCast_neg]; grind
    · have := z_small h2
      omega
theorem neg_int {x : Int64} (h : -9223372036854775808 < x.toInt) : (-x).toInt = -x.toInt := by
  have h1 := x.toInt_lt
  exact cg_eq (by rw [Int64.toInt_neg]; exact cg_bm _) (by omega) (by omega)
theorem oI_up {h : Nat → Option Nat} {hd : Nat → Int32} {me r c : Nat} (hh : ∀ i, i < me → hd i = oI (h i)) : ∀ i, i < me → upd hd r (nI c) i = oI (fup h r (some c) i) := fun i hi => by
  by_cases e : i = r
  · subst e; simp [upd, fup, oI]
  · simp [upd, fup, e]; exact hh i hi
/-- an exchange keeps the table good -/
theorem Gd_x {me nw : Nat} {C : Nat → Nat → Int} {M : Nat → Nat → Int64} {hd : Nat → Int32} {u : Int64} {tw : Int32} {iv : Int64} {h : Nat → Option Nat} {R : Nat → Nat → Rat} (hB0 : Bnd me nw C) (G : Gd me nw C M hd u tw iv h R) {r c : Nat} (hr : r < me) (hc : c < nw) (hne : M r c ≠ 0) :
    Gd me nw C (xcM tw iv M r c me nw) (upd hd r (nI c)) (xcS M r c nw r c) (bcF ((xcS M r c nw r c &&& -(xcS M r c nw r c)) - 1)) (nwF (sr (xcS M r c nw r c) (bcF ((xcS M r c nw r c &&& -(xcS M r c nw r c)) - 1))) 5) (fup h r (some c)) (pv (me + 1) R r (clm C c)) := by
  obtain ⟨G1, G2, ⟨g, hg, hdt⟩, G4, G5⟩ := G
  have hu0 : 0 < u.toInt := G2.1
  have hu0q : (0 : Rat) < (u.toInt : Rat) := by
    have := Rat.intCast_lt_intCast.mpr hu0
    exact this
  have hz0 : (M r c).toInt ≠ 0 := fun q => hne (Int64.toInt_inj.mp (by rw [q]; rfl))
  have hMrc := G4 r c (by omega) (by omega)
  have hp : cd (me + 1) R (clm C c) r ≠ 0 := fun q => by
    rw [q, Rat.mul_zero] at hMrc
    exact hz0 (Rat.intCast_inj.mp hMrc)
  have S' := Stt_pv G1 hr hc hp
  -- the old cells are small
  have small : ∀ i j, i ≤ me → j ≤ nw → -9223372036854775808 < (M i j).toInt ∧ (M i j).toInt < 9223372036854775808 := fun i j hi hj => by
    obtain ⟨z, z1, z2⟩ := cell_z hB0 G1 hg hdt hi hj
    rw [← G4 i j hi hj] at z1
    rw [← Rat.intCast_inj.mp z1]
    exact z2
  -- the sign
  obtain ⟨sg, hsg, hsg2, hx⟩ : ∃ sg : Int, sg * sg = 1 ∧ 0 < sg * (M r c).toInt ∧ ∀ j, j ≤ nw → (xcS M r c nw r j).toInt = sg * (M r j).toInt := by
    by_cases q : M r c < 0
    · refine ⟨-1, by omega, ?_, fun j hj => ?_⟩
      · have := Int64.lt_iff_toInt_lt.mp q
        rw [show (0 : Int64).toInt = 0 from rfl] at this
        omega
      · unfold xcS
        rw [if_pos q]
        unfold ngF
        rw [fup_s, if_pos (by omega), neg_int (small r j (by omega) hj).1]
        omega
    · refine ⟨1, by omega, ?_, fun j hj => ?_⟩
      · have : ¬ (M r c).toInt < (0 : Int64).toInt := fun q2 => q (Int64.lt_iff_toInt_lt.mpr q2)
        rw [show (0 : Int64).toInt = 0 from rfl] at this
        omega
      · unfold xcS
        rw [if_neg q]
        omega
  have hx2 : ∀ i j, i ≠ r → xcS M r c nw i j = M i j := fun i j hi => by
    unfold xcS
    split
    · unfold ngF; rw [fup_n _ _ hi]
    · rfl
  have hsq : (sg : Rat) * (sg : Rat) = 1 := by rw [← Rat.intCast_mul, hsg]; rfl
  have hU' : (xcS M r c nw r c).toInt = sg * (M r c).toInt := hx c (by omega)
  have hU'q : ((xcS M r c nw r c).toInt : Rat) = (sg : Rat) * ((u.toInt : Rat) * cd (me + 1) R (clm C c) r) := by
    rw [hU', Rat.intCast_mul, hMrc]
  have hdt' : dt (me + 1) (hB me (clm C) (fup h r (some c))) = (g * (sg : Rat)) * ((xcS M r c nw r c).toInt : Rat) := by
    rw [hB_up hr, dt_cd G1.1 (by omega), hdt, hU'q]
    generalize cd (me + 1) R (clm C c) r = x
    generalize (u.toInt : Rat) = y
    generalize (sg : Rat) = s at hsq ⊢
    grind
  have hg' : (g * (sg : Rat)) * (g * (sg : Rat)) = 1 := by
    generalize (sg : Rat) = s at hsq ⊢
    grind
  refine ⟨S', Unt_take (by rw [hU']; exact hsg2), ⟨g * (sg : Rat), hg', hdt'⟩, fun i j hi hj => ?_, oI_up G5⟩
  obtain ⟨z, z1, z2, z3⟩ := cell_z hB0 S' hg' hdt' hi hj
  rw [← z1]
  refine congrArg (fun x : Int => (x : Rat)) ?_
  unfold xcM
  by_cases e : i = r
  · subst e
    rw [xcP_r, hx j hj]
    -- z is the same
    rw [pv_r, hU'q] at z1
    have h2 := G4 i j hi hj
    apply Rat.intCast_inj.mp
    rw [z1, Rat.intCast_mul, h2]
    grind
  · rw [show xcP tw iv (xcS M r c nw) r c nw (me + 1) 0 i j = dbF tw iv (xcS M r c nw r c) (xcS M r c nw i j) (xcS M r c nw i c) (xcS M r c nw r j) from by
      unfold xcP; rw [if_pos ⟨e, hj, Or.inl (by omega)⟩]]
    refine dbF_int G2 ?_ (by omega) z3
    rw [hx2 i j e, hx2 i c e, hx c (by omega), hx j hj]
    apply Rat.intCast_inj.mp
    rw [pv_o _ _ e, hU'q] at z1
    have g1 := G4 i j hi hj
    have g2 := G4 i c hi (by omega)
    have g3 := G4 r j (by omega) hj
    rw [Rat.intCast_sub, Rat.intCast_mul, Rat.intCast_mul, Rat.intCast_mul, Rat.intCast_mul, Rat.intCast_mul, z1, g1, g2, g3, hMrc]
    grind
