/-! ===== what the reference's rows are ===== -/
theorem zg {l : Rat} (a b : Nat) : isZ (l * (a : Rat)) → isZ (l * (b : Rat)) → isZ (l * ((Nat.gcd a b : Nat) : Rat)) := by
  induction a, b using Nat.gcd.induction with
  | H0 n => intro _ h; rw [Nat.gcd_zero_left]; exact h
  | H1 m n hm ih =>
    intro h1 h2
    rw [Nat.gcd_rec]
    refine ih ?_ h1
    have e : (n : Rat) = ((n % m : Nat) : Rat) + (m : Rat) * ((n / m : Nat) : Rat) := by
      rw [← Rat.natCast_mul, ← Rat.natCast_add, Nat.mod_add_div]
    obtain ⟨x, hx⟩ := h1
    obtain ⟨y, hy⟩ := h2
    refine ⟨y - x * ((n / m : Nat) : Int), ?_⟩
    rw [Rat.intCast_sub, Rat.intCast_mul, ← hx, ← hy, Rat.intCast_natCast, e]
    grind
theorem abs_Z {l : Rat} {e : Int} (h : isZ (l * (e : Rat))) : isZ (l * ((e.natAbs : Nat) : Rat)) := by
  rcases Int.natAbs_eq e with q | q
  · have : (e : Rat) = ((e.natAbs : Nat) : Rat) := by rw [← Rat.intCast_natCast, ← q]
    rw [← this]; exact h
  · obtain ⟨z, hz⟩ := h
    refine ⟨-z, ?_⟩
    have : (e : Rat) = -((e.natAbs : Nat) : Rat) := by
      rw [← Rat.intCast_natCast, ← Rat.intCast_neg, ← q]
    rw [Rat.intCast_neg, ← hz, this]; grind
theorem zgN {l : Rat} {e : Nat → Int} : ∀ {n : Nat}, (∀ j, j < n → isZ (l * (e j : Rat))) → isZ (l * ((gcdN e n : Nat) : Rat))
  | 0, _ => ⟨0, by show l * ((0 : Nat) : Rat) = ((0 : Int) : Rat); rw [show ((0 : Nat) : Rat) = 0 from rfl, show ((0 : Int) : Rat) = 0 from rfl]; grind⟩
  | n + 1, h => zg _ _ (zgN (fun j hj => h j (by omega))) (abs_Z (h n (by omega)))
/-- without its common factor a row is no larger than any whole row alike -/
theorem prim {e : Nat → Int} {lam : Rat} (h0 : lam ≠ 0) {B n : Nat} (h : ∀ j, j < n → ∃ D : Int, (D : Rat) = lam * (e j : Rat) ∧ D.natAbs ≤ B) : ∀ j, j < n → (e j).natAbs ≤ B * gcdN e n := by
  intro j hj
  obtain ⟨c, hc⟩ := zgN (l := lam) (e := e) (n := n) (fun j hj => by
    obtain ⟨D, hD, _⟩ := h j hj
    exact ⟨D, hD.symm⟩)
  obtain ⟨v, hv⟩ := gcdN_dvd (e := e) hj
  obtain ⟨D, hD, hB⟩ := h j hj
  obtain ⟨G, hG⟩ : ∃ G, G = gcdN e n := ⟨_, rfl⟩
  rw [← hG] at hc hv ⊢
  rcases Nat.eq_zero_or_pos G with q | q
  · rw [hv, q]; omega
  · have hGne : ((G : Nat) : Rat) ≠ 0 := fun e9 => by
      have : ((G : Nat) : Rat) = ((0 : Nat) : Rat) := e9
      have := Rat.natCast_inj.mp this
      omega
    have hcne : c ≠ 0 := fun e9 => by
      rw [e9] at hc
      rcases Rat.mul_eq_zero.mp hc with z | z
      · exact h0 z
      · exact hGne z
    have hDa : D.natAbs = c.natAbs * v := by
      rcases Int.natAbs_eq (e j) with z | z
      · have e1 : (D : Rat) = ((c * (v : Int) : Int) : Rat) := by
          rw [hD, z, hv, Rat.intCast_mul, ← hc, Rat.intCast_natCast, Rat.intCast_natCast, Rat.natCast_mul]; grind
        rw [Rat.intCast_inj.mp e1, Int.natAbs_mul, Int.natAbs_natCast]
      · have e1 : (D : Rat) = ((-(c * (v : Int)) : Int) : Rat) := by
          rw [hD, z, hv, Rat.intCast_neg, Rat.intCast_neg, Rat.intCast_mul, ← hc, Rat.intCast_natCast, Rat.intCast_natCast, Rat.natCast_mul]; grind
        rw [Rat.intCast_inj.mp e1, Int.natAbs_neg, Int.natAbs_mul, Int.natAbs_natCast]
    have hvB : v ≤ B := by
      have : 1 * v ≤ c.natAbs * v := Nat.mul_le_mul_right v (by omega)
      omega
    rw [hv, Nat.mul_comm]
    exact Nat.mul_le_mul_right G hvB
theorem nI_or {a b : Nat} (ha : a < 65536) (hb : b < 65536) : nI a ||| nI b = nI (a ||| b) := by
  have h : a ||| b < 65536 := Nat.or_lt_two_pow (n := 16) ha hb
  apply Int32.toBitVec_inj.mp
  apply BitVec.eq_of_toNat_eq
  rw [Int32.toBitVec_or, BitVec.toNat_or, pk_tn (by omega), pk_tn (by omega), pk_tn (by omega)]
theorem bit_lt {X i : Nat} (hX : X < 65536) (h : X.testBit i = true) : i < 16 := by
  apply Classical.byContradiction
  intro q
  have h1 : X < 2 ^ i := Nat.lt_of_lt_of_le hX (Nat.pow_le_pow_right (n := 2) (by decide) (show 16 ≤ i by omega))
  rw [Nat.testBit_lt_two_pow h1] at h
  cases h
theorem ov_0 {X Y : Nat} (hX : X < 65536) (hY : Y < 65536) : nI X &&& (nI Y ^^^ (-1)) = 0 ↔ ∀ i, X.testBit i = true → Y.testBit i = true := by
  have e : nI X &&& (nI Y ^^^ (-1)) = 0 ↔ X &&& (Y ^^^ (2 ^ 32 - 1)) = 0 := by
    rw [← Int32.toBitVec_inj, ← BitVec.toNat_inj, Int32.toBitVec_and, Int32.toBitVec_xor, BitVec.toNat_and, BitVec.toNat_xor, pk_tn (by omega), pk_tn (by omega)]
    exact Iff.rfl
  rw [e]
  constructor
  · intro h i hi
    have h1 : (X &&& (Y ^^^ (2 ^ 32 - 1))).testBit i = false := by rw [h]; exact Nat.zero_testBit i
    rw [Nat.testBit_and, Nat.testBit_xor, Nat.testBit_two_pow_sub_one, hi, show decide (i < 32) = true from by have := bit_lt hX hi; simp; omega] at h1
    cases q : Y.testBit i with
    | true => rfl
    | false => rw [q] at h1; cases h1
  · intro h
    apply Nat.eq_of_testBit_eq
    intro i
    rw [Nat.zero_testBit, Nat.testBit_and, Nat.testBit_xor, Nat.testBit_two_pow_sub_one]
    cases q : X.testBit i with
    | false => rfl
    | true =>
      rw [h i q, show decide (i < 32) = true from by have := bit_lt hX q; simp; omega]
      rfl
/-- a set of origins is a support -/
def mkO (n : Nat) (W : Nat → Rat) (x : Int32) : Prop := ∃ mk : Nat, x = nI mk ∧ mk < 65536 ∧ ∀ k, mk.testBit k = true ↔ (k < n ∧ 0 < W k)
def RR (n : Nat) (M : Nat → Nat → Int) (W : Nat → Rat) (f : Nat → Int64) (r : Nat) (x : Int32) : Prop := (∀ j, j < 11 → (((f (11 * r + j)).toInt : Int) : Rat) = sm n (fun k => W k * clm M k j)) ∧ rwB f r ∧ mkO n W x
/-- the rows are those of all weights of least support -/
def RI (n : Nat) (M : Nat → Nat → Int) (t rc : Nat) (rw : Nat → Int64) (og : Nat → Int32) : Prop := ∃ W : Nat → Nat → Rat, DD n (clm M) t rc W ∧ ∀ r, r < rc → RR n M (W r) rw r (og r)
theorem RR_cg {n : Nat} {M : Nat → Nat → Int} {W : Nat → Rat} {f g : Nat → Int64} {r : Nat} {x y : Int32} (h : RR n M W f r x) (hf : ∀ j, j < 11 → g (11 * r + j) = f (11 * r + j)) (hx : y = x) : RR n M W g r y := by
  obtain ⟨h1, h2, h3⟩ := h
  exact ⟨fun j hj => by rw [hf j hj]; exact h1 j hj, fun j hj => by rw [hf j hj]; exact h2 j hj, by rw [hx]; exact h3⟩
theorem mkO_or {n : Nat} {W1 W2 W : Nat → Rat} {x y : Int32} (h1 : mkO n W1 x) (h2 : mkO n W2 y) (hW : ∀ k, k < n → (0 < W k ↔ 0 < W1 k ∨ 0 < W2 k)) : mkO n W (x ||| y) := by
  obtain ⟨a, rfl, ha, h1⟩ := h1
  obtain ⟨b, rfl, hb, h2⟩ := h2
  refine ⟨a ||| b, nI_or ha hb, Nat.or_lt_two_pow (n := 16) ha hb, fun k => ?_⟩
  rw [Nat.testBit_or, Bool.or_eq_true, h1 k, h2 k]
  constructor
  · rintro (⟨q1, q2⟩ | ⟨q1, q2⟩)
    · exact ⟨q1, (hW k q1).mpr (Or.inl q2)⟩
    · exact ⟨q1, (hW k q1).mpr (Or.inr q2)⟩
  · rintro ⟨q1, q2⟩
    rcases (hW k q1).mp q2 with q | q
    · exact Or.inl ⟨q1, q⟩
    · exact Or.inr ⟨q1, q⟩
theorem mkO_size {n : Nat} {W : Nat → Rat} {mk : Nat} (hn : n ≤ 16) (h : ∀ k, mk.testBit k = true ↔ (k < n ∧ 0 < W k)) : ct (fun k => mk.testBit k) 16 = sz W n := by
  have key : ∀ m, m ≤ 16 → ct (fun k => mk.testBit k) m = sz W (min m n) := by
    intro m
    induction m with
    | zero => intro _; rw [Nat.zero_min]; rfl
    | succ m ih =>
      intro hm
      simp only [ct]
      rw [ih (by omega)]
      by_cases q : m < n
      · rw [show min m n = m by omega, show min (m + 1) n = m + 1 by omega]
        simp only [sz]
        by_cases q2 : 0 < W m
        · rw [if_pos ((h m).mpr ⟨q, q2⟩), if_pos q2]
        · rw [if_neg (fun e => q2 ((h m).mp e).2), if_neg q2]
      · rw [show min m n = n by omega, show min (m + 1) n = n by omega, if_neg (fun e => q ((h m).mp e).1)]
        omega
  have := key 16 (by omega)
  rw [this, show min 16 n = n by omega]
theorem RI_bes {n : Nat} {M : Nat → Nat → Int} {rc : Nat} {rw : Nat → Int64} {og : Nat → Int32} {W : Nat → Nat → Rat} (h : ∀ r, r < rc → RR n M (W r) rw r (og r)) {a b : Nat} (ha : a < rc) (hb : b < rc) : (∀ k, k < rc → k ≠ a → k ≠ b → ovI og a b k ≠ 0) ↔ Bes n rc W a b := by
  obtain ⟨x, hx, hx1, hx2⟩ := (h a ha).2.2
  obtain ⟨y, hy, hy1, hy2⟩ := (h b hb).2.2
  have hxy : x ||| y < 65536 := Nat.or_lt_two_pow (n := 16) hx1 hy1
  have key : ∀ k, k < rc → (ovI og a b k = 0 ↔ ∀ i, i < n → 0 < W k i → 0 < W a i ∨ 0 < W b i) := fun k hk => by
    obtain ⟨z, hz, hz1, hz2⟩ := (h k hk).2.2
    unfold ovI
    rw [hx, hy, hz, nI_or hx1 hy1, ov_0 hz1 hxy]
    constructor
    · intro q i hi hp
      have := q i ((hz2 i).mpr ⟨hi, hp⟩)
      rw [Nat.testBit_or, Bool.or_eq_true, hx2 i, hy2 i] at this
      rcases this with t | t
      · exact Or.inl t.2
      · exact Or.inr t.2
    · intro q i hi
      obtain ⟨t1, t2⟩ := (hz2 i).mp hi
      rw [Nat.testBit_or, Bool.or_eq_true, hx2 i, hy2 i]
      rcases q i t1 t2 with t | t
      · exact Or.inl ⟨t1, t⟩
      · exact Or.inr ⟨t1, t⟩
  unfold Bes
  constructor
  · intro q k hk h1 h2 h3; exact q k hk h1 h2 ((key k hk).mpr h3)
  · intro q k hk h1 h2 h3; exact q k hk h1 h2 ((key k hk).mp h3)
