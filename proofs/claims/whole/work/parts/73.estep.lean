/-! ===== one column done away with ===== -/
theorem RR_va {n : Nat} {M : Nat → Nat → Int} {W : Nat → Rat} {f : Nat → Int64} {r : Nat} {x : Int32} (h : RR n M W f r x) {u : Nat} (hu : u < 11) : va n (clm M) u W = (((f (11 * r + u)).toInt : Int) : Rat) := (h.1 u hu).symm
theorem rz_0 {z : Int} : ((z : Int) : Rat) = 0 ↔ z = 0 := by
  rw [show (0 : Rat) = ((0 : Int) : Rat) from rfl, Rat.intCast_inj]
theorem rz_p {z : Int} : 0 < ((z : Int) : Rat) ↔ 0 < z := by
  rw [show (0 : Rat) = ((0 : Int) : Rat) from rfl, Rat.intCast_lt_intCast]
theorem rz_n {z : Int} : ((z : Int) : Rat) < 0 ↔ z < 0 := by
  rw [show (0 : Rat) = ((0 : Int) : Rat) from rfl, Rat.intCast_lt_intCast]
/-- what combine works on, as weights -/
theorem cbE_w {n : Nat} {M : Nat → Nat → Int} {W : Nat → Nat → Rat} {rw : Nat → Int64} {og : Nat → Int32} {a b u j : Nat} (ha : RR n M (W a) rw a (og a)) (hb : RR n M (W b) rw b (og b)) (hu : u < 11) (hj : j < 11) :
    ((cbE rw a b u j : Int) : Rat) = sm n (fun k => ((-va n (clm M) u (W b)) * W a k + va n (clm M) u (W a) * W b k) * clm M k j) := by
  rw [RR_va ha hu, RR_va hb hu]
  unfold cbE
  rw [Rat.intCast_add, Rat.intCast_mul, Rat.intCast_mul, Rat.intCast_neg, ha.1 j hj, hb.1 j hj]
  rw [Rat.mul_comm (sm n _), Rat.mul_comm (sm n _), ← sm_mul, ← sm_mul, ← sm_add]
  exact sm_congr (fun k _ => by grind)
theorem pair_fit {n t : Nat} {M : Nat → Nat → Int} (hM : okM n M) (ht : t < 9) {c : Nat} {W : Nat → Nat → Rat} (hD : DD n (clm M) t c W) {rw : Nat → Int64} {og : Nat → Int32} (hR : ∀ r, r < c → RR n M (W r) rw r (og r)) {a b : Nat} (ha : a < c) (hb : b < c) (hva : 0 < va n (clm M) t (W a)) (hvb : va n (clm M) t (W b) < 0) (hB : Bes n c W a b) :
    ∀ j, j < 11 → (cbE rw a b t j).natAbs ≤ 4611686018427387903 * gcdN (cbE rw a b t) 11 := by
  obtain ⟨lam, h0, h1⟩ := fit hM (show t + 1 ≤ 9 by omega) (hD.pair ha hb hva hvb hB (s := 1) (by decide))
  refine prim h0 fun j hj => ?_
  obtain ⟨D, hD1, hD2⟩ := h1 j hj
  refine ⟨D, ?_, hD2⟩
  rw [hD1, cbE_w (hR a ha) (hR b hb) (by omega) hj]
  congr 1
  exact sm_congr (fun k _ => by grind)
/-- the row that combine makes -/
theorem pair_row {n t : Nat} {M : Nat → Nat → Int} (hM : okM n M) (ht : t < 9) {c : Nat} {W : Nat → Nat → Rat} (hD : DD n (clm M) t c W) {rw : Nat → Int64} {og : Nat → Int32} (hR : ∀ r, r < c → RR n M (W r) rw r (og r)) {a b : Nat} (ha : a < c) (hb : b < c) (hva : 0 < va n (clm M) t (W a)) (hvb : va n (clm M) t (W b) < 0) (hB : Bes n c W a b)
    {f : Nat → Int64} {nc : Nat} (hf : ∀ j, j < 11 → cbF f nc (gcdN (cbE rw a b t) 11) (cbE rw a b t) j) :
    ∃ s : Rat, 0 < s ∧ RR n M (fun k => s * ((-va n (clm M) t (W b)) * W a k + va n (clm M) t (W a) * W b k)) f nc (og a ||| og b) := by
  have hfit := pair_fit hM ht hD hR ha hb hva hvb hB
  obtain ⟨G, hG⟩ : ∃ G, G = gcdN (cbE rw a b t) 11 := ⟨_, rfl⟩
  rw [← hG] at hf hfit
  have hq : 0 < -va n (clm M) t (W b) := by grind
  have hsup : ∀ s : Rat, 0 < s → mkO n (fun k => s * ((-va n (clm M) t (W b)) * W a k + va n (clm M) t (W a) * W b k)) (og a ||| og b) := fun s hs => by
    refine mkO_or (hR a ha).2.2 (hR b hb).2.2 fun k hk => ?_
    have p1 := (hD.1 a ha).1.1 k hk
    have p2 := (hD.1 b hb).1.1 k hk
    have m1 := Rat.mul_nonneg (Rat.le_of_lt hq) p1
    have m2 := Rat.mul_nonneg (Rat.le_of_lt hva) p2
    constructor
    · intro q
      apply Classical.byContradiction
      intro q2
      have z1 : W a k = 0 := by have : ¬ 0 < W a k := fun e => q2 (Or.inl e)
                                grind
      have z2 : W b k = 0 := by have : ¬ 0 < W b k := fun e => q2 (Or.inr e)
                                grind
      have q : 0 < s * ((-va n (clm M) t (W b)) * W a k + va n (clm M) t (W a) * W b k) := q
      rw [z1, z2] at q
      grind
    · intro q
      refine Rat.mul_pos hs ?_
      rcases q with q | q
      · have := Rat.mul_pos hq q; grind
      · have := Rat.mul_pos hva q; grind
  have hsum : ∀ (s : Rat) (j : Nat), j < 11 → sm n (fun k => s * ((-va n (clm M) t (W b)) * W a k + va n (clm M) t (W a) * W b k) * clm M k j) = s * ((cbE rw a b t j : Int) : Rat) := fun s j hj => by
    rw [cbE_w (hR a ha) (hR b hb) (by omega) hj, ← sm_mul]
    exact sm_congr (fun k _ => by grind)
  rcases Nat.eq_zero_or_pos G with q | q
  · refine ⟨1, by decide, fun j hj => ?_, fun j hj => ?_, hsup 1 (by decide)⟩
    · obtain ⟨h1, h2⟩ := hf j hj
      rw [q] at h1
      have e0 : cbE rw a b t j = 0 := by rw [← h1]; exact Int.mul_zero _
      rw [hsum 1 j hj, h2 e0, e0, show (0 : Int64).toInt = 0 from rfl, show ((0 : Int) : Rat) = 0 from rfl]; grind
    · obtain ⟨h1, h2⟩ := hf j hj
      rw [q] at h1
      have e0 : cbE rw a b t j = 0 := by rw [← h1]; exact Int.mul_zero _
      rw [h2 e0]; decide
  · have hGne : ((G : Nat) : Rat) ≠ 0 := fun e9 => by
      have : ((G : Nat) : Rat) = ((0 : Nat) : Rat) := e9
      have := Rat.natCast_inj.mp this
      omega
    have hGp : 0 < ((G : Nat) : Rat) := by
      have : (0 : Rat) ≤ ((G : Nat) : Rat) := Rat.natCast_nonneg
      grind
    have hGi : ((G : Nat) : Rat) * ((G : Nat) : Rat)⁻¹ = 1 := Rat.mul_inv_cancel _ hGne
    refine ⟨((G : Nat) : Rat)⁻¹, Rat.inv_pos.mpr hGp, fun j hj => ?_, fun j hj => ?_, hsup _ (Rat.inv_pos.mpr hGp)⟩
    · obtain ⟨h1, h2⟩ := hf j hj
      rw [hsum _ j hj, ← h1, Rat.intCast_mul, Rat.intCast_natCast]
      grind
    · obtain ⟨h1, h2⟩ := hf j hj
      have h3 := hfit j hj
      rw [← h1, Int.natAbs_mul, Int.natAbs_natCast] at h3
      have h4 := Nat.le_of_mul_le_mul_right h3 q
      omega
/-- what of the pairs S has been made -/
def EI (n : Nat) (M : Nat → Nat → Int) (t c : Nat) (W : Nat → Nat → Rat) (nc : Nat) (nx : Nat → Int64) (no : Nat → Int32) (S : Nat → Nat → Prop) : Prop :=
  ∃ (src : Nat → Nat × Nat) (W' : Nat → Nat → Rat), (∀ r r', r < nc → r' < nc → src r = src r' → r = r') ∧ (∀ r, r < nc → S (src r).1 (src r).2) ∧
    (∀ r, r < nc → ((src r).1 = (src r).2 ∧ (src r).1 < c ∧ va n (clm M) t (W (src r).1) = 0 ∧ ∀ k, k < n → W' r k = W (src r).1 k) ∨ ((src r).1 < c ∧ (src r).2 < c ∧ 0 < va n (clm M) t (W (src r).1) ∧ va n (clm M) t (W (src r).2) < 0 ∧ Bes n c W (src r).1 (src r).2 ∧ ∃ s : Rat, 0 < s ∧ ∀ k, k < n → W' r k = s * ((-va n (clm M) t (W (src r).2)) * W (src r).1 k + va n (clm M) t (W (src r).1) * W (src r).2 k))) ∧
    (∀ a, a < c → S a a → va n (clm M) t (W a) = 0 → ∃ r, r < nc ∧ src r = (a, a)) ∧
    (∀ a b, a < c → b < c → S a b → 0 < va n (clm M) t (W a) → va n (clm M) t (W b) < 0 → Bes n c W a b → ∃ r, r < nc ∧ src r = (a, b)) ∧
    ∀ r, r < nc → RR n M (W' r) nx r (no r)
/-- a pair that makes a row -/
def Gp (n : Nat) (M : Nat → Nat → Int) (t c : Nat) (W : Nat → Nat → Rat) (x y : Nat) : Prop := (x = y ∧ x < c ∧ va n (clm M) t (W x) = 0) ∨ (x < c ∧ y < c ∧ 0 < va n (clm M) t (W x) ∧ va n (clm M) t (W y) < 0 ∧ Bes n c W x y)
theorem EI_0 (n : Nat) (M : Nat → Nat → Int) (t c : Nat) (W : Nat → Nat → Rat) (nx : Nat → Int64) (no : Nat → Int32) : EI n M t c W 0 nx no (fun a _ => a < 0) :=
  ⟨fun _ => (0, 0), fun _ _ => 0, fun _ _ h => by omega, fun _ h => by omega, fun _ h => by omega, fun _ _ h => absurd h (by omega), fun _ _ _ _ h => absurd h (by omega), fun _ h => by omega⟩
/-- other words for what has been done -/
theorem EI_S {n : Nat} {M : Nat → Nat → Int} {t c : Nat} {W : Nat → Nat → Rat} {nc : Nat} {nx : Nat → Int64} {no : Nat → Int32} {S S' : Nat → Nat → Prop} (h : EI n M t c W nc nx no S) (h1 : ∀ x y, S x y → S' x y) (h2 : ∀ x y, S' x y → Gp n M t c W x y → S x y) : EI n M t c W nc nx no S' := by
  obtain ⟨src, W', a1, a2, a3, a4, a5, a6⟩ := h
  exact ⟨src, W', a1, fun r hr => h1 _ _ (a2 r hr), a3, fun a ha hs hv => a4 a ha (h2 a a hs (Or.inl ⟨rfl, ha, hv⟩)) hv, fun a b ha hb hs hva hvb hB => a5 a b ha hb (h2 a b hs (Or.inr ⟨ha, hb, hva, hvb, hB⟩)) hva hvb hB, a6⟩
theorem EI_room {n : Nat} {M : Nat → Nat → Int} {t c : Nat} {W : Nat → Nat → Rat} {nc : Nat} {nx : Nat → Int64} {no : Nat → Int32} {S : Nat → Nat → Prop} (h : EI n M t c W nc nx no S) (hD : DD n (clm M) t c W) (hn : n < 17) {x y : Nat} (hS : ¬ S x y) (hG : Gp n M t c W x y) : nc < 1200 := by
  obtain ⟨src, W', a1, a2, a3, a4, a5, a6⟩ := h
  have hl : ∀ r, r < nc + 1 → r ≠ nc → r < nc := fun r hr q => by omega
  have hp := hD.part (c' := nc + 1) (W' := fup W' nc (if x = y then W x else fun k => 1 * ((-va n (clm M) t (W y)) * W x k + va n (clm M) t (W x) * W y k))) (fup src nc (x, y)) (fun r r' hr hr' e => by
    by_cases q : r = nc
    · by_cases q' : r' = nc
      · omega
      · rw [q, fup_s, fup_n _ _ q'] at e
        have := a2 r' (hl r' hr' q')
        rw [← e] at this
        exact absurd this hS
    · by_cases q' : r' = nc
      · rw [q', fup_s, fup_n _ _ q] at e
        have := a2 r (hl r hr q)
        rw [e] at this
        exact absurd this hS
      · rw [fup_n _ _ q, fup_n _ _ q'] at e
        exact a1 r r' (hl r hr q) (hl r' hr' q') e) (fun r hr => by
    by_cases q : r = nc
    · subst q
      rw [fup_s, fup_s]
      rcases hG with ⟨g1, g2, g3⟩ | ⟨g1, g2, g3, g4, g5⟩
      · exact Or.inl ⟨g1, g2, g3, fun k hk => by rw [if_pos g1]⟩
      · have hne : x ≠ y := fun e => by subst e; grind
        exact Or.inr ⟨g1, g2, g3, g4, g5, 1, by decide, fun k hk => by rw [if_neg hne]⟩
    · rw [fup_n _ _ q, fup_n _ _ q]
      exact a3 r (hl r hr q))
  have := hp.count hn
  omega
/-- one more row -/
theorem EI_add {n : Nat} {M : Nat → Nat → Int} {t c : Nat} {W : Nat → Nat → Rat} {nc : Nat} {nx nx' : Nat → Int64} {no no' : Nat → Int32} {S : Nat → Nat → Prop} (h : EI n M t c W nc nx no S) {x y : Nat} (hS : ¬ S x y) {w : Nat → Rat}
    (hall : (x = y ∧ x < c ∧ va n (clm M) t (W x) = 0 ∧ ∀ k, k < n → w k = W x k) ∨ (x < c ∧ y < c ∧ 0 < va n (clm M) t (W x) ∧ va n (clm M) t (W y) < 0 ∧ Bes n c W x y ∧ ∃ s : Rat, 0 < s ∧ ∀ k, k < n → w k = s * ((-va n (clm M) t (W y)) * W x k + va n (clm M) t (W x) * W y k)))
    (hr : RR n M w nx' nc (no' nc)) (hnx : ∀ i, i < 11 * nc → nx' i = nx i) (hno : ∀ i, i < nc → no' i = no i) : EI n M t c W (nc + 1) nx' no' (fun a b => S a b ∨ (a = x ∧ b = y)) := by
  obtain ⟨src, W', a1, a2, a3, a4, a5, a6⟩ := h
  have hl : ∀ r, r < nc + 1 → r ≠ nc → r < nc := fun r hr q => by omega
  refine ⟨fup src nc (x, y), fup W' nc w, fun r r' hr hr' e => ?_, fun r hr => ?_, fun r hr => ?_, fun a ha hs hv => ?_, fun a b ha hb hs hva hvb hB => ?_, fun r hr2 => ?_⟩
  · by_cases q : r = nc
    · by_cases q' : r' = nc
      · omega
      · rw [q, fup_s, fup_n _ _ q'] at e
        have := a2 r' (hl r' hr' q')
        rw [← e] at this
        exact absurd this hS
    · by_cases q' : r' = nc
      · rw [q', fup_s, fup_n _ _ q] at e
        have := a2 r (hl r hr q)
        rw [e] at this
        exact absurd this hS
      · rw [fup_n _ _ q, fup_n _ _ q'] at e
        exact a1 r r' (hl r hr q) (hl r' hr' q') e
  · by_cases q : r = nc
    · subst q; rw [fup_s]; exact Or.inr ⟨rfl, rfl⟩
    · rw [fup_n _ _ q]; exact Or.inl (a2 r (hl r hr q))
  · by_cases q : r = nc
    · subst q; rw [fup_s, fup_s]; exact hall
    · rw [fup_n _ _ q, fup_n _ _ q]; exact a3 r (hl r hr q)
  · rcases hs with hs | ⟨e1, e2⟩
    · obtain ⟨r, hr, e⟩ := a4 a ha hs hv
      exact ⟨r, by omega, by rw [fup_n _ _ (by omega)]; exact e⟩
    · exact ⟨nc, by omega, by rw [fup_s]; exact Prod.ext e1.symm e2.symm⟩
  · rcases hs with hs | ⟨e1, e2⟩
    · obtain ⟨r, hr, e⟩ := a5 a b ha hb hs hva hvb hB
      exact ⟨r, by omega, by rw [fup_n _ _ (by omega)]; exact e⟩
    · exact ⟨nc, by omega, by rw [fup_s, e1, e2]⟩
  · by_cases q : r = nc
    · subst q; rw [fup_s]; exact hr
    · rw [fup_n _ _ q]
      have hr3 := hl r hr2 q
      exact RR_cg (a6 r hr3) (fun j hj => hnx _ (by omega)) (hno r hr3)
/-- all have been made -/
theorem EI_end {n : Nat} {M : Nat → Nat → Int} {t c : Nat} {W : Nat → Nat → Rat} {nc : Nat} {nx : Nat → Int64} {no : Nat → Int32} (h : EI n M t c W nc nx no (fun a _ => a < c)) (hD : DD n (clm M) t c W) : RI n M (t + 1) nc nx no := by
  obtain ⟨src, W', a1, a2, a3, a4, a5, a6⟩ := h
  exact ⟨W', hD.step src a1 a3 (fun a ha hv => a4 a ha ha hv) (fun a b ha hb hva hvb hB => a5 a b ha hb ha hva hvb hB), a6⟩
